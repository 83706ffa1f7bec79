/-! Walks of methods, by program (wip/whole/gen). -/
theorem d_X6_write_0 : decode prog_1_method_2_code 0 = .ok (.iload_n 1, 1) := by decide +kernel
theorem d_X6_write_1 : decode prog_1_method_2_code 1 = .ok (.ifCond .lt 10, 3) := by decide +kernel
theorem d_X6_write_4 : decode prog_1_method_2_code 4 = .ok (.iload_n 1, 1) := by decide +kernel
theorem d_X6_write_5 : decode prog_1_method_2_code 5 = .ok (.sipush 255, 3) := by decide +kernel
theorem d_X6_write_8 : decode prog_1_method_2_code 8 = .ok (.if_icmp .le 6, 3) := by decide +kernel
theorem d_X6_write_11 : decode prog_1_method_2_code 11 = .ok (.bipush (-2), 2) := by decide +kernel
theorem d_X6_write_13 : decode prog_1_method_2_code 13 = .ok (.ireturn, 1) := by decide +kernel
theorem d_X6_write_14 : decode prog_1_method_2_code 14 = .ok (.aload_n 0, 1) := by decide +kernel
theorem d_X6_write_15 : decode prog_1_method_2_code 15 = .ok (.getfield 10, 3) := by decide +kernel
theorem d_X6_write_18 : decode prog_1_method_2_code 18 = .ok (.getfield 67, 3) := by decide +kernel
theorem d_X6_write_21 : decode prog_1_method_2_code 21 = .ok (.bipush 110, 2) := by decide +kernel
theorem d_X6_write_23 : decode prog_1_method_2_code 23 = .ok (.if_icmp .lt 6, 3) := by decide +kernel
theorem d_X6_write_26 : decode prog_1_method_2_code 26 = .ok (.bipush (-4), 2) := by decide +kernel
theorem d_X6_write_28 : decode prog_1_method_2_code 28 = .ok (.ireturn, 1) := by decide +kernel
theorem d_X6_write_29 : decode prog_1_method_2_code 29 = .ok (.aload_n 0, 1) := by decide +kernel
theorem d_X6_write_30 : decode prog_1_method_2_code 30 = .ok (.getfield 10, 3) := by decide +kernel
theorem d_X6_write_33 : decode prog_1_method_2_code 33 = .ok (.iload_n 1, 1) := by decide +kernel
theorem d_X6_write_34 : decode prog_1_method_2_code 34 = .ok (.invokevirtual 71, 3) := by decide +kernel
theorem d_X6_write_37 : decode prog_1_method_2_code 37 = .ok (.aload_n 0, 1) := by decide +kernel
theorem d_X6_write_38 : decode prog_1_method_2_code 38 = .ok (.getfield 10, 3) := by decide +kernel
theorem d_X6_write_41 : decode prog_1_method_2_code 41 = .ok (.getfield 67, 3) := by decide +kernel
theorem d_X6_write_44 : decode prog_1_method_2_code 44 = .ok (.ireturn, 1) := by decide +kernel
abbrev M_Slots_write : zMT := (⟨"PeriodSlots", "write", "(I)I"⟩, prog_1_method_2_code, 2, (some .int))
theorem k_Slots_write : zcall M_Slots_write 1 := ⟨zU_in (i := 261) (by decide +kernel) rfl, m54, ⟨by decide, by decide, by decide +kernel⟩, by decide⟩
def o_Slots_write (h : zHp) (letter : Int32) : Int32 × zHp :=
  (if letter < 0 then ((-2), h) else (if letter ≤ 255 then (if (h 1 0) < 110 then (((o_Text_append h letter) 1 0), (o_Text_append h letter)) else ((-4), h)) else ((-2), h)))
theorem fr_Slots_write {h : zHp} {letter : Int32} (c k : Nat) (q0 : ¬ (c = 1 ∧ k = 0)) (q1 : c ≠ 2) : (o_Slots_write h letter).2 c k = h c k := by
  unfold o_Slots_write
  by_cases f1 : letter < 0
  · rw [if_pos f1]
    try dsimp only
    first | done | exact rfl
  · rw [if_neg f1]
    by_cases f2 : letter ≤ 255
    · rw [if_pos f2]
      by_cases f3 : (h 1 0) < 110
      · rw [if_pos f3]
        try dsimp only
        first | done | exact (fr_Text_append _ _ (by assumption) (by assumption))
      · rw [if_neg f3]
        try dsimp only
        first | done | exact rfl
    · rw [if_neg f2]
      try dsimp only
      first | done | exact rfl
set_option maxHeartbeats 400000 in
set_option maxRecDepth 20000 in
theorem c_Slots_write (X : zXT) (h : zHp) (g : zLg) (letter : Int32) (hf0 : zfit h 1 0 110) : zDi X M_Slots_write 1 [zR X 0, .int letter] h g (zI ((o_Slots_write h letter).1)) ((o_Slots_write h letter).2) g := by
  have hf0_1 := hf0.1
  refine zDi_of "PeriodSlots" prog_1_method_2_code 2 (some .int) rfl (by decide) [zO X 0, zI letter] rfl (fun _ q => q) (Nat.le_of_ble_eq_true rfl) ?_
  intro Γ Q C hQ
  refine zr_iload_n C d_X6_write_0 rfl ?_
  refine zr_if_lt C 11 d_X6_write_1 (by decide) (fun c1 => ?_) (fun c1 => ?_)
  · refine zr_bipush C (v := (-2)) d_X6_write_11 (by decide) ?_
    have eR : o_Slots_write h letter = ((-2), h) := (by unfold o_Slots_write; rw [if_pos c1])
    subst hQ
    exact zTQ_Ih eR (zr_ireti C d_X6_write_13)
  · refine zr_iload_n C d_X6_write_4 rfl ?_
    refine zr_sipush C (v := 255) d_X6_write_5 (by decide) ?_
    refine zr_icmp_le C 14 d_X6_write_8 (by decide) (fun c8 => ?_) (fun c8 => ?_)
    · have en1 := zn_le (a := zcn letter) (b := 255) (zix c1) rfl c8 (zcn_small _) (by decide)
      refine zr_aload_n C d_X6_write_14 rfl ?_
      refine gf_Slots_0 C m227 d_X6_write_15 ?_
      refine gf_Text_1 C m82 d_X6_write_18 ?_
      refine zr_bipush C (v := 110) d_X6_write_21 (by decide) ?_
      refine zr_icmp_lt C 29 d_X6_write_23 (by decide) (fun c23 => ?_) (fun c23 => ?_)
      · have en2 := zn_lt (a := zcn (h 1 0)) (b := 110) hf0.2 rfl c23 (zcn_small _) (by decide)
        refine zr_aload_n C d_X6_write_29 rfl ?_
        refine gf_Slots_0 C m227 d_X6_write_30 ?_
        refine zr_iload_n C d_X6_write_33 rfl ?_
        refine zr_callVv (As := [.int letter]) (st := []) (c := 1) C (c_Text_append X h g letter hf0) k_Text_append m262 m263 m264 (by decide) (zC_Text X _ _) rfl rfl (by decide) rfl (Nat.le_of_ble_eq_true rfl) d_X6_write_34 ?_
        refine zr_h (fun h3 eh3 => ?_)
        refine zr_aload_n C d_X6_write_37 rfl ?_
        refine gf_Slots_0 C m227 d_X6_write_38 ?_
        refine gf_Text_1 C m82 d_X6_write_41 ?_
        have eR : o_Slots_write h letter = ((h3 1 0), h3) := (by subst eh3; unfold o_Slots_write; rw [if_neg c1, if_pos c8, if_pos c23])
        subst hQ
        exact zTQ_Ih eR (zr_ireti C d_X6_write_44)
      · have en4 := zn_nlt (a := zcn (h 1 0)) (b := 110) hf0.2 rfl c23 (zcn_small _) (by decide)
        refine zr_bipush C (v := (-4)) d_X6_write_26 (by decide) ?_
        have eR : o_Slots_write h letter = ((-4), h) := (by unfold o_Slots_write; rw [if_neg c1, if_pos c8, if_neg c23])
        subst hQ
        exact zTQ_Ih eR (zr_ireti C d_X6_write_28)
    · have en5 := zn_nle (a := zcn letter) (b := 255) (zix c1) rfl c8 (zcn_small _) (by decide)
      refine zr_bipush C (v := (-2)) d_X6_write_11 (by decide) ?_
      have eR : o_Slots_write h letter = ((-2), h) := (by unfold o_Slots_write; rw [if_neg c1, if_neg c8])
      subst hQ
      exact zTQ_Ih eR (zr_ireti C d_X6_write_13)
theorem d_X6_wipe_0 : decode prog_1_method_3_code 0 = .ok (.aload_n 0, 1) := by decide +kernel
theorem d_X6_wipe_1 : decode prog_1_method_3_code 1 = .ok (.getfield 10, 3) := by decide +kernel
theorem d_X6_wipe_4 : decode prog_1_method_3_code 4 = .ok (.getfield 67, 3) := by decide +kernel
theorem d_X6_wipe_7 : decode prog_1_method_3_code 7 = .ok (.istore_n 1, 1) := by decide +kernel
theorem d_X6_wipe_8 : decode prog_1_method_3_code 8 = .ok (.aload_n 0, 1) := by decide +kernel
theorem d_X6_wipe_9 : decode prog_1_method_3_code 9 = .ok (.getfield 10, 3) := by decide +kernel
theorem d_X6_wipe_12 : decode prog_1_method_3_code 12 = .ok (.iconst 0, 1) := by decide +kernel
theorem d_X6_wipe_13 : decode prog_1_method_3_code 13 = .ok (.putfield 67, 3) := by decide +kernel
theorem d_X6_wipe_16 : decode prog_1_method_3_code 16 = .ok (.iload_n 1, 1) := by decide +kernel
theorem d_X6_wipe_17 : decode prog_1_method_3_code 17 = .ok (.ireturn, 1) := by decide +kernel
abbrev M_Slots_wipe : zMT := (⟨"PeriodSlots", "wipe", "()I"⟩, prog_1_method_3_code, 2, (some .int))
theorem k_Slots_wipe : zcall M_Slots_wipe 0 := ⟨zU_in (i := 269) (by decide +kernel) rfl, m54, ⟨by decide, by decide, by decide +kernel⟩, by decide⟩
def o_Slots_wipe (h : zHp) : Int32 × zHp :=
  ((h 1 0), (zup h 1 0 0))
theorem fr_Slots_wipe {h : zHp} (c k : Nat) (q0 : ¬ (c = 1 ∧ k = 0)) : (o_Slots_wipe h).2 c k = h c k := by
  unfold o_Slots_wipe
  try dsimp only
  first | done | exact (zup_fr (by omega))
set_option maxHeartbeats 400000 in
set_option maxRecDepth 20000 in
theorem c_Slots_wipe (X : zXT) (h : zHp) (g : zLg)  : zDi X M_Slots_wipe 0 [zR X 0] h g (zI ((o_Slots_wipe h).1)) ((o_Slots_wipe h).2) g := by
  refine zDi_of "PeriodSlots" prog_1_method_3_code 2 (some .int) rfl (by decide) [zO X 0, none] rfl (fun _ q => q) (Nat.le_of_ble_eq_true rfl) ?_
  intro Γ Q C hQ
  refine zr_aload_n C d_X6_wipe_0 rfl ?_
  refine gf_Slots_0 C m227 d_X6_wipe_1 ?_
  refine gf_Text_1 C m82 d_X6_wipe_4 ?_
  refine zr_istore_n C [zO X 0, zI (h 1 0)] d_X6_wipe_7 (Nat.le_of_ble_eq_true rfl) rfl rfl ?_
  refine zr_aload_n C d_X6_wipe_8 rfl ?_
  refine gf_Slots_0 C m227 d_X6_wipe_9 ?_
  refine zr_iconst C (v := 0) d_X6_wipe_12 (by decide) ?_
  refine pf_Text_1 C m82 d_X6_wipe_13 ?_
  refine zr_h (fun h1 eh1 => ?_)
  refine zr_iload_n C d_X6_wipe_16 rfl ?_
  have eR : o_Slots_wipe h = ((h 1 0), h1) := (by subst eh1; unfold o_Slots_wipe; exact rfl)
  subst hQ
  exact zTQ_Ih eR (zr_ireti C d_X6_wipe_17)
theorem d_X6_fault_0 : decode prog_1_method_4_code 0 = .ok (.aload_n 0, 1) := by decide +kernel
theorem d_X6_fault_1 : decode prog_1_method_4_code 1 = .ok (.getfield 10, 3) := by decide +kernel
theorem d_X6_fault_4 : decode prog_1_method_4_code 4 = .ok (.aload_n 0, 1) := by decide +kernel
theorem d_X6_fault_5 : decode prog_1_method_4_code 5 = .ok (.getfield 23, 3) := by decide +kernel
theorem d_X6_fault_8 : decode prog_1_method_4_code 8 = .ok (.invokevirtual 74, 3) := by decide +kernel
theorem d_X6_fault_11 : decode prog_1_method_4_code 11 = .ok (.ireturn, 1) := by decide +kernel
abbrev M_Slots_fault : zMT := (⟨"PeriodSlots", "fault", "()I"⟩, prog_1_method_4_code, 1, (some .int))
theorem k_Slots_fault : zcall M_Slots_fault 0 := ⟨zU_in (i := 273) (by decide +kernel) rfl, m54, ⟨by decide, by decide, by decide +kernel⟩, by decide⟩
def o_Slots_fault (h : zHp) : Int32 × zHp :=
  (((o_Text_readInto h 15).1), ((o_Text_readInto h 15).2))
theorem fr_Slots_fault {h : zHp} (c k : Nat) (q0 : ¬ (c = 15 ∧ k = 0)) (q1 : ¬ (c = 15 ∧ k = 1)) (q2 : ¬ (c = 15 ∧ k = 2)) (q3 : c ≠ 16) (q4 : c ≠ 17) (q5 : c ≠ 18) (q6 : c ≠ 19) (q7 : c ≠ 20) (q8 : c ≠ 21) (q9 : c ≠ 22) (q10 : c ≠ 23) (q11 : c ≠ 24) (q12 : c ≠ 25) (q13 : c ≠ 26) : (o_Slots_fault h).2 c k = h c k := by
  unfold o_Slots_fault
  try dsimp only
  first | done | exact (fr_Text_readInto _ _ (by assumption) (by assumption) (by assumption) (by assumption) (by assumption) (by assumption) (by assumption) (by assumption) (by assumption) (by assumption) (by assumption) (by assumption))
set_option maxHeartbeats 400000 in
set_option maxRecDepth 20000 in
theorem c_Slots_fault (X : zXT) (h : zHp) (g : zLg) (hf0 : zfit h 1 0 110) : zDi X M_Slots_fault 6 [zR X 0] h g (zI ((o_Slots_fault h).1)) ((o_Slots_fault h).2) g := by
  have hf0_1 := hf0.1
  refine zDi_of "PeriodSlots" prog_1_method_4_code 1 (some .int) rfl (by decide) [zO X 0] rfl (fun _ q => q) (Nat.le_of_ble_eq_true rfl) ?_
  intro Γ Q C hQ
  refine zr_aload_n C d_X6_fault_0 rfl ?_
  refine gf_Slots_0 C m227 d_X6_fault_1 ?_
  refine zr_aload_n C d_X6_fault_4 rfl ?_
  refine gf_Slots_2 C m229 d_X6_fault_5 ?_
  refine zr_callVi (As := [zR X 15]) (st := []) (c := 1) C (c_Text_readInto X h g 15 (by decide) hf0) k_Text_readInto m274 m275 m276 (by decide) (zC_Text X _ _) rfl rfl (by decide) rfl (Nat.le_of_ble_eq_true rfl) d_X6_fault_8 ?_
  refine zr_vi (fun y1 ey1 => ?_)
  refine zr_h (fun h2 eh2 => ?_)
  have hph2 : zfit h2 15 0 8 := by rw [← eh2]; exact pf_readInto
  have hph2_1 := hph2.1
  have eR : o_Slots_fault h = (y1, h2) := (by subst eh2 ey1; unfold o_Slots_fault; exact rfl)
  subst hQ
  exact zTQ_Ih eR (zr_ireti C d_X6_fault_11)
theorem d_X6_field_0 : decode prog_1_method_5_code 0 = .ok (.aload_n 0, 1) := by decide +kernel
theorem d_X6_field_1 : decode prog_1_method_5_code 1 = .ok (.getfield 10, 3) := by decide +kernel
theorem d_X6_field_4 : decode prog_1_method_5_code 4 = .ok (.aload_n 0, 1) := by decide +kernel
theorem d_X6_field_5 : decode prog_1_method_5_code 5 = .ok (.getfield 23, 3) := by decide +kernel
theorem d_X6_field_8 : decode prog_1_method_5_code 8 = .ok (.invokevirtual 74, 3) := by decide +kernel
theorem d_X6_field_11 : decode prog_1_method_5_code 11 = .ok (.bipush (-9), 2) := by decide +kernel
theorem d_X6_field_13 : decode prog_1_method_5_code 13 = .ok (.if_icmp .eq 6, 3) := by decide +kernel
theorem d_X6_field_16 : decode prog_1_method_5_code 16 = .ok (.bipush (-3), 2) := by decide +kernel
theorem d_X6_field_18 : decode prog_1_method_5_code 18 = .ok (.ireturn, 1) := by decide +kernel
theorem d_X6_field_19 : decode prog_1_method_5_code 19 = .ok (.aload_n 0, 1) := by decide +kernel
theorem d_X6_field_20 : decode prog_1_method_5_code 20 = .ok (.getfield 19, 3) := by decide +kernel
theorem d_X6_field_23 : decode prog_1_method_5_code 23 = .ok (.aload_n 0, 1) := by decide +kernel
theorem d_X6_field_24 : decode prog_1_method_5_code 24 = .ok (.getfield 23, 3) := by decide +kernel
theorem d_X6_field_27 : decode prog_1_method_5_code 27 = .ok (.invokevirtual 78, 3) := by decide +kernel
theorem d_X6_field_30 : decode prog_1_method_5_code 30 = .ok (.aload_n 0, 1) := by decide +kernel
theorem d_X6_field_31 : decode prog_1_method_5_code 31 = .ok (.getfield 39, 3) := by decide +kernel
theorem d_X6_field_34 : decode prog_1_method_5_code 34 = .ok (.invokevirtual 82, 3) := by decide +kernel
theorem d_X6_field_37 : decode prog_1_method_5_code 37 = .ok (.aload_n 0, 1) := by decide +kernel
theorem d_X6_field_38 : decode prog_1_method_5_code 38 = .ok (.getfield 48, 3) := by decide +kernel
theorem d_X6_field_41 : decode prog_1_method_5_code 41 = .ok (.invokevirtual 85, 3) := by decide +kernel
theorem d_X6_field_44 : decode prog_1_method_5_code 44 = .ok (.aload_n 0, 1) := by decide +kernel
theorem d_X6_field_45 : decode prog_1_method_5_code 45 = .ok (.getfield 19, 3) := by decide +kernel
theorem d_X6_field_48 : decode prog_1_method_5_code 48 = .ok (.getfield 88, 3) := by decide +kernel
theorem d_X6_field_51 : decode prog_1_method_5_code 51 = .ok (.ireturn, 1) := by decide +kernel
abbrev M_Slots_field : zMT := (⟨"PeriodSlots", "field", "()I"⟩, prog_1_method_5_code, 1, (some .int))
theorem k_Slots_field : zcall M_Slots_field 0 := ⟨zU_in (i := 374) (by decide +kernel) rfl, m54, ⟨by decide, by decide, by decide +kernel⟩, by decide⟩
def o_Slots_field (h : zHp) : Int32 × zHp :=
  (if ((o_Text_readInto h 15).1) = (-9) then (((o_Mesh_copyFrom ((o_Text_readInto h 15).2) 3 15) 3 0), (o_Shelf44_clear (o_Acts_forget (o_Mesh_copyFrom ((o_Text_readInto h 15).2) 3 15)))) else ((-3), ((o_Text_readInto h 15).2)))
theorem fr_Slots_field {h : zHp} (c k : Nat) (q0 : ¬ (c = 15 ∧ k = 0)) (q1 : ¬ (c = 15 ∧ k = 1)) (q2 : ¬ (c = 15 ∧ k = 2)) (q3 : c ≠ 16) (q4 : c ≠ 17) (q5 : c ≠ 18) (q6 : c ≠ 19) (q7 : c ≠ 20) (q8 : c ≠ 21) (q9 : c ≠ 22) (q10 : c ≠ 23) (q11 : c ≠ 24) (q12 : c ≠ 25) (q13 : c ≠ 26) (q14 : ¬ (c = 3 ∧ k = 0)) (q15 : ¬ (c = 3 ∧ k = 1)) (q16 : ¬ (c = 3 ∧ k = 2)) (q17 : c ≠ 4) (q18 : c ≠ 5) (q19 : c ≠ 6) (q20 : c ≠ 7) (q21 : c ≠ 8) (q22 : c ≠ 9) (q23 : c ≠ 10) (q24 : c ≠ 11) (q25 : c ≠ 12) (q26 : c ≠ 13) (q27 : c ≠ 14) (q28 : ¬ (c = 41 ∧ k = 1)) (q29 : ¬ (c = 44 ∧ k = 1)) : (o_Slots_field h).2 c k = h c k := by
  unfold o_Slots_field
  by_cases f1 : ((o_Text_readInto h 15).1) = (-9)
  · rw [if_pos f1]
    try dsimp only
    first | done | exact ((fr_Shelf44_clear _ _ (by assumption)).trans ((fr_Acts_forget _ _ (by assumption)).trans ((fr_Mesh_copyFrom _ _ (by assumption) (by assumption) (by assumption) (by assumption) (by assumption) (by assumption) (by assumption) (by assumption) (by assumption) (by assumption) (by assumption) (by assumption)).trans (fr_Text_readInto _ _ (by assumption) (by assumption) (by assumption) (by assumption) (by assumption) (by assumption) (by assumption) (by assumption) (by assumption) (by assumption) (by assumption) (by assumption)))))
  · rw [if_neg f1]
    try dsimp only
    first | done | exact (fr_Text_readInto _ _ (by assumption) (by assumption) (by assumption) (by assumption) (by assumption) (by assumption) (by assumption) (by assumption) (by assumption) (by assumption) (by assumption) (by assumption))
set_option maxHeartbeats 400000 in
set_option maxRecDepth 20000 in
theorem c_Slots_field (X : zXT) (h : zHp) (g : zLg) (hf0 : zfit h 1 0 110) : zDi X M_Slots_field 6 [zR X 0] h g (zI ((o_Slots_field h).1)) ((o_Slots_field h).2) g := by
  have hf0_1 := hf0.1
  refine zDi_of "PeriodSlots" prog_1_method_5_code 1 (some .int) rfl (by decide) [zO X 0] rfl (fun _ q => q) (Nat.le_of_ble_eq_true rfl) ?_
  intro Γ Q C hQ
  refine zr_aload_n C d_X6_field_0 rfl ?_
  refine gf_Slots_0 C m227 d_X6_field_1 ?_
  refine zr_aload_n C d_X6_field_4 rfl ?_
  refine gf_Slots_2 C m229 d_X6_field_5 ?_
  refine zr_callVi (As := [zR X 15]) (st := []) (c := 1) C (c_Text_readInto X h g 15 (by decide) hf0) k_Text_readInto m274 m275 m276 (by decide) (zC_Text X _ _) rfl rfl (by decide) rfl (Nat.le_of_ble_eq_true rfl) d_X6_field_8 ?_
  refine zr_vi (fun y1 ey1 => ?_)
  refine zr_h (fun h2 eh2 => ?_)
  have hph2 : zfit h2 15 0 8 := by rw [← eh2]; exact pf_readInto
  have hph2_1 := hph2.1
  refine zr_bipush C (v := (-9)) d_X6_field_11 (by decide) ?_
  refine zr_icmp_eq C 19 d_X6_field_13 (by decide) (fun c13 => ?_) (fun c13 => ?_)
  · refine zr_aload_n C d_X6_field_19 rfl ?_
    refine gf_Slots_1 C m228 d_X6_field_20 ?_
    refine zr_aload_n C d_X6_field_23 rfl ?_
    refine gf_Slots_2 C m229 d_X6_field_24 ?_
    refine zr_callVv (As := [zR X 15]) (st := []) (c := 3) C (c_Mesh_copyFrom X h2 g 3 15 (by decide) (by decide)) k_Mesh_copyFrom m375 m376 m377 (by decide) (zC_Mesh (by decide) X _ _) rfl rfl (by decide) rfl (Nat.le_of_ble_eq_true rfl) d_X6_field_27 ?_
    refine zr_h (fun h3 eh3 => ?_)
    have hph3 : zfit h3 3 0 8 := by rw [← eh3]; exact pf_copyFrom hph2
    have hph3_1 := hph3.1
    refine zr_aload_n C d_X6_field_30 rfl ?_
    refine gf_Slots_5 C m232 d_X6_field_31 ?_
    refine zr_callVv (As := []) (st := []) (c := 41) C (c_Acts_forget X h3 g ) k_Acts_forget m385 m386 m387 (by decide) (zC_Acts X _ _) rfl rfl (by decide) rfl (Nat.le_of_ble_eq_true rfl) d_X6_field_34 ?_
    refine zr_h (fun h4 eh4 => ?_)
    refine zr_aload_n C d_X6_field_37 rfl ?_
    refine gf_Slots_6 C m233 d_X6_field_38 ?_
    refine zr_callVv (As := []) (st := []) (c := 44) C (c_Shelf44_clear X h4 g ) k_Shelf_clear m389 m390 m391 (by decide) (zC_Shelf (by decide) X _ _) rfl rfl (by decide) rfl (Nat.le_of_ble_eq_true rfl) d_X6_field_41 ?_
    refine zr_h (fun h5 eh5 => ?_)
    refine zr_aload_n C d_X6_field_44 rfl ?_
    refine gf_Slots_1 C m228 d_X6_field_45 ?_
    refine gf_Mesh_0 C (by decide) m98 d_X6_field_48 ?_
    refine zr_top ((congrFun (congrFun eh5.symm _) _).trans ((fr_Shelf44_clear _ _ (by omega)).trans ((congrFun (congrFun eh4.symm _) _).trans (fr_Acts_forget _ _ (by omega))))) ?_
    have eR : o_Slots_field h = ((h3 3 0), h5) := (by subst eh5 eh4 eh3 eh2 ey1; unfold o_Slots_field; rw [if_pos c13])
    subst hQ
    exact zTQ_Ih eR (zr_ireti C d_X6_field_51)
  · refine zr_bipush C (v := (-3)) d_X6_field_16 (by decide) ?_
    have eR : o_Slots_field h = ((-3), h2) := (by subst eh2 ey1; unfold o_Slots_field; rw [if_neg c13])
    subst hQ
    exact zTQ_Ih eR (zr_ireti C d_X6_field_18)
theorem d_X6_about_0 : decode prog_1_method_6_code 0 = .ok (.iload_n 1, 1) := by decide +kernel
theorem d_X6_about_1 : decode prog_1_method_6_code 1 = .ok (.tableswitch 155 0 10 #[59, 67, 75, 83, 91, 99, 107, 123, 131, 139, 147], 59) := by decide +kernel
theorem d_X6_about_60 : decode prog_1_method_6_code 60 = .ok (.aload_n 0, 1) := by decide +kernel
theorem d_X6_about_61 : decode prog_1_method_6_code 61 = .ok (.getfield 19, 3) := by decide +kernel
theorem d_X6_about_64 : decode prog_1_method_6_code 64 = .ok (.getfield 88, 3) := by decide +kernel
theorem d_X6_about_67 : decode prog_1_method_6_code 67 = .ok (.ireturn, 1) := by decide +kernel
theorem d_X6_about_68 : decode prog_1_method_6_code 68 = .ok (.aload_n 0, 1) := by decide +kernel
theorem d_X6_about_69 : decode prog_1_method_6_code 69 = .ok (.getfield 19, 3) := by decide +kernel
theorem d_X6_about_72 : decode prog_1_method_6_code 72 = .ok (.invokevirtual 91, 3) := by decide +kernel
theorem d_X6_about_75 : decode prog_1_method_6_code 75 = .ok (.ireturn, 1) := by decide +kernel
theorem d_X6_about_76 : decode prog_1_method_6_code 76 = .ok (.aload_n 0, 1) := by decide +kernel
theorem d_X6_about_77 : decode prog_1_method_6_code 77 = .ok (.getfield 19, 3) := by decide +kernel
theorem d_X6_about_80 : decode prog_1_method_6_code 80 = .ok (.invokevirtual 95, 3) := by decide +kernel
theorem d_X6_about_83 : decode prog_1_method_6_code 83 = .ok (.ireturn, 1) := by decide +kernel
theorem d_X6_about_84 : decode prog_1_method_6_code 84 = .ok (.aload_n 0, 1) := by decide +kernel
theorem d_X6_about_85 : decode prog_1_method_6_code 85 = .ok (.getfield 19, 3) := by decide +kernel
theorem d_X6_about_88 : decode prog_1_method_6_code 88 = .ok (.getfield 98, 3) := by decide +kernel
theorem d_X6_about_91 : decode prog_1_method_6_code 91 = .ok (.ireturn, 1) := by decide +kernel
theorem d_X6_about_92 : decode prog_1_method_6_code 92 = .ok (.aload_n 0, 1) := by decide +kernel
theorem d_X6_about_93 : decode prog_1_method_6_code 93 = .ok (.getfield 19, 3) := by decide +kernel
theorem d_X6_about_96 : decode prog_1_method_6_code 96 = .ok (.invokevirtual 101, 3) := by decide +kernel
theorem d_X6_about_99 : decode prog_1_method_6_code 99 = .ok (.ireturn, 1) := by decide +kernel
theorem d_X6_about_100 : decode prog_1_method_6_code 100 = .ok (.aload_n 0, 1) := by decide +kernel
theorem d_X6_about_101 : decode prog_1_method_6_code 101 = .ok (.getfield 19, 3) := by decide +kernel
theorem d_X6_about_104 : decode prog_1_method_6_code 104 = .ok (.invokevirtual 104, 3) := by decide +kernel
theorem d_X6_about_107 : decode prog_1_method_6_code 107 = .ok (.ireturn, 1) := by decide +kernel
theorem d_X6_about_108 : decode prog_1_method_6_code 108 = .ok (.aload_n 0, 1) := by decide +kernel
theorem d_X6_about_109 : decode prog_1_method_6_code 109 = .ok (.getfield 19, 3) := by decide +kernel
theorem d_X6_about_112 : decode prog_1_method_6_code 112 = .ok (.invokevirtual 107, 3) := by decide +kernel
theorem d_X6_about_115 : decode prog_1_method_6_code 115 = .ok (.ifCond .eq 7, 3) := by decide +kernel
theorem d_X6_about_118 : decode prog_1_method_6_code 118 = .ok (.iconst 1, 1) := by decide +kernel
theorem d_X6_about_119 : decode prog_1_method_6_code 119 = .ok (.goto 4, 3) := by decide +kernel
theorem d_X6_about_122 : decode prog_1_method_6_code 122 = .ok (.iconst 0, 1) := by decide +kernel
theorem d_X6_about_123 : decode prog_1_method_6_code 123 = .ok (.ireturn, 1) := by decide +kernel
theorem d_X6_about_124 : decode prog_1_method_6_code 124 = .ok (.aload_n 0, 1) := by decide +kernel
theorem d_X6_about_125 : decode prog_1_method_6_code 125 = .ok (.getfield 19, 3) := by decide +kernel
theorem d_X6_about_128 : decode prog_1_method_6_code 128 = .ok (.invokevirtual 111, 3) := by decide +kernel
theorem d_X6_about_131 : decode prog_1_method_6_code 131 = .ok (.ireturn, 1) := by decide +kernel
theorem d_X6_about_132 : decode prog_1_method_6_code 132 = .ok (.aload_n 0, 1) := by decide +kernel
theorem d_X6_about_133 : decode prog_1_method_6_code 133 = .ok (.getfield 39, 3) := by decide +kernel
theorem d_X6_about_136 : decode prog_1_method_6_code 136 = .ok (.getfield 114, 3) := by decide +kernel
theorem d_X6_about_139 : decode prog_1_method_6_code 139 = .ok (.ireturn, 1) := by decide +kernel
theorem d_X6_about_140 : decode prog_1_method_6_code 140 = .ok (.aload_n 0, 1) := by decide +kernel
theorem d_X6_about_141 : decode prog_1_method_6_code 141 = .ok (.getfield 55, 3) := by decide +kernel
theorem d_X6_about_144 : decode prog_1_method_6_code 144 = .ok (.getfield 117, 3) := by decide +kernel
theorem d_X6_about_147 : decode prog_1_method_6_code 147 = .ok (.ireturn, 1) := by decide +kernel
theorem d_X6_about_148 : decode prog_1_method_6_code 148 = .ok (.aload_n 0, 1) := by decide +kernel
theorem d_X6_about_149 : decode prog_1_method_6_code 149 = .ok (.getfield 10, 3) := by decide +kernel
theorem d_X6_about_152 : decode prog_1_method_6_code 152 = .ok (.getfield 67, 3) := by decide +kernel
theorem d_X6_about_155 : decode prog_1_method_6_code 155 = .ok (.ireturn, 1) := by decide +kernel
theorem d_X6_about_156 : decode prog_1_method_6_code 156 = .ok (.bipush (-2), 2) := by decide +kernel
theorem d_X6_about_158 : decode prog_1_method_6_code 158 = .ok (.ireturn, 1) := by decide +kernel
abbrev M_Slots_about : zMT := (⟨"PeriodSlots", "about", "(I)I"⟩, prog_1_method_6_code, 2, (some .int))
theorem k_Slots_about : zcall M_Slots_about 1 := ⟨zU_in (i := 396) (by decide +kernel) rfl, m54, ⟨by decide, by decide, by decide +kernel⟩, by decide⟩
def o_Slots_about (h : zHp) (what : Int32) : Int32 :=
  (if what = 0 then (h 3 0) else (if what = 1 then (o_Mesh_linkCount h 3) else (if what = 2 then (o_Mesh_conflicts h 3) else (if what = 3 then (h 3 1) else (if what = 4 then (o_Mesh_unsettledSet h 3) else (if what = 5 then (o_Mesh_placedSet h 3) else (if what = 6 then (zb (o_Mesh_isQuiet h 3)) else (if what = 7 then (o_Mesh_netCount h 3) else (if what = 8 then (h 41 1) else (if what = 9 then (h 46 0) else (if what = 10 then (h 1 0) else (-2))))))))))))
theorem rd_Slots_about {h h2 : zHp} {what : Int32} (e0 : h2 1 0 = h 1 0) (e1 : h2 11 = h 11) (e2 : h2 12 = h 12) (e3 : h2 13 = h 13) (e4 : h2 3 0 = h 3 0) (e5 : h2 3 1 = h 3 1) (e6 : h2 4 = h 4) (e7 : h2 41 1 = h 41 1) (e8 : h2 46 0 = h 46 0) (e9 : h2 5 = h 5) (e10 : h2 6 = h 6) (e11 : h2 7 = h 7) (e12 : h2 8 = h 8) (e13 : h2 9 = h 9) : o_Slots_about h2 what = o_Slots_about h what := by
  unfold o_Slots_about
  simp only [e0, e1, e2, e3, e4, e5, e6, e7, e8, e9, e10, e11, e12, e13, rd_Mesh_linkCount e9 e4, rd_Mesh_conflicts e13 e2 e4, rd_Mesh_unsettledSet e3 e10 e1 e2 e4, rd_Mesh_placedSet e10 e4, rd_Mesh_isQuiet e6 e3 e10 e11 e12 e13 e1 e2 e4, rd_Mesh_netCount e9 e4]

set_option maxHeartbeats 400000 in
set_option maxRecDepth 20000 in
theorem c_Slots_about (X : zXT) (h : zHp) (g : zLg) (what : Int32) (hf0 : zfit h 3 0 8) : zDi X M_Slots_about 5 [zR X 0, .int what] h g (zI (o_Slots_about h what)) h g := by
  have hf0_1 := hf0.1
  refine zDi_of "PeriodSlots" prog_1_method_6_code 2 (some .int) rfl (by decide) [zO X 0, zI what] rfl (fun _ q => q) (Nat.le_of_ble_eq_true rfl) ?_
  intro Γ Q C hQ
  refine zr_iload_n C d_X6_about_0 rfl ?_
  by_cases c1_0 : what = 0
  · refine zr_tabIn C 60 (off := 59) d_X6_about_1 (by rw [c1_0]; decide) (by rw [c1_0]; decide) (by rw [c1_0]; rfl) (by decide) ?_
    refine zr_aload_n C d_X6_about_60 rfl ?_
    refine gf_Slots_1 C m228 d_X6_about_61 ?_
    refine gf_Mesh_0 C (by decide) m98 d_X6_about_64 ?_
    have eR : o_Slots_about h what = (h 3 0) := (by unfold o_Slots_about; rw [if_pos c1_0])
    subst hQ
    rw [eR]
    exact zr_ireti C d_X6_about_67
  · by_cases c1_1 : what = 1
    · refine zr_tabIn C 68 (off := 67) d_X6_about_1 (by rw [c1_1]; decide) (by rw [c1_1]; decide) (by rw [c1_1]; rfl) (by decide) ?_
      refine zr_aload_n C d_X6_about_68 rfl ?_
      refine gf_Slots_1 C m228 d_X6_about_69 ?_
      refine zr_callVi (As := []) (st := []) (c := 3) C (c_Mesh_linkCount X h g 3 (by decide) hf0) k_Mesh_linkCount m397 m345 m346 (by decide) (zC_Mesh (by decide) X _ _) rfl rfl (by decide) rfl (Nat.le_of_ble_eq_true rfl) d_X6_about_72 ?_
      have eR : o_Slots_about h what = (o_Mesh_linkCount h 3) := (by unfold o_Slots_about; rw [if_neg c1_0, if_pos c1_1])
      subst hQ
      rw [eR]
      exact zr_ireti C d_X6_about_75
    · by_cases c1_2 : what = 2
      · refine zr_tabIn C 76 (off := 75) d_X6_about_1 (by rw [c1_2]; decide) (by rw [c1_2]; decide) (by rw [c1_2]; rfl) (by decide) ?_
        refine zr_aload_n C d_X6_about_76 rfl ?_
        refine gf_Slots_1 C m228 d_X6_about_77 ?_
        refine zr_callVi (As := []) (st := []) (c := 3) C (c_Mesh_conflicts X h g 3 (by decide) hf0) k_Mesh_conflicts m398 m399 m400 (by decide) (zC_Mesh (by decide) X _ _) rfl rfl (by decide) rfl (Nat.le_of_ble_eq_true rfl) d_X6_about_80 ?_
        have eR : o_Slots_about h what = (o_Mesh_conflicts h 3) := (by unfold o_Slots_about; rw [if_neg c1_0, if_neg c1_1, if_pos c1_2])
        subst hQ
        rw [eR]
        exact zr_ireti C d_X6_about_83
      · by_cases c1_3 : what = 3
        · refine zr_tabIn C 84 (off := 83) d_X6_about_1 (by rw [c1_3]; decide) (by rw [c1_3]; decide) (by rw [c1_3]; rfl) (by decide) ?_
          refine zr_aload_n C d_X6_about_84 rfl ?_
          refine gf_Slots_1 C m228 d_X6_about_85 ?_
          refine gf_Mesh_1 C (by decide) m101 d_X6_about_88 ?_
          have eR : o_Slots_about h what = (h 3 1) := (by unfold o_Slots_about; rw [if_neg c1_0, if_neg c1_1, if_neg c1_2, if_pos c1_3])
          subst hQ
          rw [eR]
          exact zr_ireti C d_X6_about_91
        · by_cases c1_4 : what = 4
          · refine zr_tabIn C 92 (off := 91) d_X6_about_1 (by rw [c1_4]; decide) (by rw [c1_4]; decide) (by rw [c1_4]; rfl) (by decide) ?_
            refine zr_aload_n C d_X6_about_92 rfl ?_
            refine gf_Slots_1 C m228 d_X6_about_93 ?_
            refine zr_callVi (As := []) (st := []) (c := 3) C (c_Mesh_unsettledSet X h g 3 (by decide) hf0) k_Mesh_unsettledSet m402 m403 m404 (by decide) (zC_Mesh (by decide) X _ _) rfl rfl (by decide) rfl (Nat.le_of_ble_eq_true rfl) d_X6_about_96 ?_
            have eR : o_Slots_about h what = (o_Mesh_unsettledSet h 3) := (by unfold o_Slots_about; rw [if_neg c1_0, if_neg c1_1, if_neg c1_2, if_neg c1_3, if_pos c1_4])
            subst hQ
            rw [eR]
            exact zr_ireti C d_X6_about_99
          · by_cases c1_5 : what = 5
            · refine zr_tabIn C 100 (off := 99) d_X6_about_1 (by rw [c1_5]; decide) (by rw [c1_5]; decide) (by rw [c1_5]; rfl) (by decide) ?_
              refine zr_aload_n C d_X6_about_100 rfl ?_
              refine gf_Slots_1 C m228 d_X6_about_101 ?_
              refine zr_callVi (As := []) (st := []) (c := 3) C (c_Mesh_placedSet X h g 3 (by decide) hf0) k_Mesh_placedSet m410 m411 m412 (by decide) (zC_Mesh (by decide) X _ _) rfl rfl (by decide) rfl (Nat.le_of_ble_eq_true rfl) d_X6_about_104 ?_
              have eR : o_Slots_about h what = (o_Mesh_placedSet h 3) := (by unfold o_Slots_about; rw [if_neg c1_0, if_neg c1_1, if_neg c1_2, if_neg c1_3, if_neg c1_4, if_pos c1_5])
              subst hQ
              rw [eR]
              exact zr_ireti C d_X6_about_107
            · by_cases c1_6 : what = 6
              · refine zr_tabIn C 108 (off := 107) d_X6_about_1 (by rw [c1_6]; decide) (by rw [c1_6]; decide) (by rw [c1_6]; rfl) (by decide) ?_
                refine zr_aload_n C d_X6_about_108 rfl ?_
                refine gf_Slots_1 C m228 d_X6_about_109 ?_
                refine zr_callVi (As := []) (st := []) (c := 3) C (c_Mesh_isQuiet X h g 3 (by decide) hf0) k_Mesh_isQuiet m414 m415 m416 (by decide) (zC_Mesh (by decide) X _ _) rfl rfl (by decide) rfl (Nat.le_of_ble_eq_true rfl) d_X6_about_112 ?_
                suffices hJ115 : ∀ (y1 : Bool), (o_Mesh_isQuiet h 3) = y1 → zV X Γ Q 123 [none, none] [.int (zb y1)] h g by
                  refine zr_ifz_eq C 122 d_X6_about_115 (by decide) (fun c115 => ?_) (fun c115 => ?_)
                  · refine zr_iconst C (v := 0) d_X6_about_122 (by decide) ?_
                    refine zr_lv [none, none] (by simp [zle]) ?_
                    exact hJ115 false (by simp [c115])
                  · refine zr_iconst C (v := 1) d_X6_about_118 (by decide) ?_
                    refine zr_goto C 123 d_X6_about_119 (by decide) ?_
                    refine zr_lv [none, none] (by simp [zle]) ?_
                    exact hJ115 true (by simp [c115])
                intro y1 ey1
                have eR : o_Slots_about h what = (zb y1) := (by subst ey1; unfold o_Slots_about; rw [if_neg c1_0, if_neg c1_1, if_neg c1_2, if_neg c1_3, if_neg c1_4, if_neg c1_5, if_pos c1_6])
                subst hQ
                rw [eR]
                exact zr_ireti C d_X6_about_123
              · by_cases c1_7 : what = 7
                · refine zr_tabIn C 124 (off := 123) d_X6_about_1 (by rw [c1_7]; decide) (by rw [c1_7]; decide) (by rw [c1_7]; rfl) (by decide) ?_
                  refine zr_aload_n C d_X6_about_124 rfl ?_
                  refine gf_Slots_1 C m228 d_X6_about_125 ?_
                  refine zr_callVi (As := []) (st := []) (c := 3) C (c_Mesh_netCount X h g 3 (by decide) hf0) k_Mesh_netCount m427 m428 m429 (by decide) (zC_Mesh (by decide) X _ _) rfl rfl (by decide) rfl (Nat.le_of_ble_eq_true rfl) d_X6_about_128 ?_
                  have eR : o_Slots_about h what = (o_Mesh_netCount h 3) := (by unfold o_Slots_about; rw [if_neg c1_0, if_neg c1_1, if_neg c1_2, if_neg c1_3, if_neg c1_4, if_neg c1_5, if_neg c1_6, if_pos c1_7])
                  subst hQ
                  rw [eR]
                  exact zr_ireti C d_X6_about_131
                · by_cases c1_8 : what = 8
                  · refine zr_tabIn C 132 (off := 131) d_X6_about_1 (by rw [c1_8]; decide) (by rw [c1_8]; decide) (by rw [c1_8]; rfl) (by decide) ?_
                    refine zr_aload_n C d_X6_about_132 rfl ?_
                    refine gf_Slots_5 C m232 d_X6_about_133 ?_
                    refine gf_Acts_2 C m197 d_X6_about_136 ?_
                    have eR : o_Slots_about h what = (h 41 1) := (by unfold o_Slots_about; rw [if_neg c1_0, if_neg c1_1, if_neg c1_2, if_neg c1_3, if_neg c1_4, if_neg c1_5, if_neg c1_6, if_neg c1_7, if_pos c1_8])
                    subst hQ
                    rw [eR]
                    exact zr_ireti C d_X6_about_139
                  · by_cases c1_9 : what = 9
                    · refine zr_tabIn C 140 (off := 139) d_X6_about_1 (by rw [c1_9]; decide) (by rw [c1_9]; decide) (by rw [c1_9]; rfl) (by decide) ?_
                      refine zr_aload_n C d_X6_about_140 rfl ?_
                      refine gf_Slots_7 C m234 d_X6_about_141 ?_
                      refine gf_Obs_3 C m217 d_X6_about_144 ?_
                      have eR : o_Slots_about h what = (h 46 0) := (by unfold o_Slots_about; rw [if_neg c1_0, if_neg c1_1, if_neg c1_2, if_neg c1_3, if_neg c1_4, if_neg c1_5, if_neg c1_6, if_neg c1_7, if_neg c1_8, if_pos c1_9])
                      subst hQ
                      rw [eR]
                      exact zr_ireti C d_X6_about_147
                    · by_cases c1_10 : what = 10
                      · refine zr_tabIn C 148 (off := 147) d_X6_about_1 (by rw [c1_10]; decide) (by rw [c1_10]; decide) (by rw [c1_10]; rfl) (by decide) ?_
                        refine zr_aload_n C d_X6_about_148 rfl ?_
                        refine gf_Slots_0 C m227 d_X6_about_149 ?_
                        refine gf_Text_1 C m82 d_X6_about_152 ?_
                        have eR : o_Slots_about h what = (h 1 0) := (by unfold o_Slots_about; rw [if_neg c1_0, if_neg c1_1, if_neg c1_2, if_neg c1_3, if_neg c1_4, if_neg c1_5, if_neg c1_6, if_neg c1_7, if_neg c1_8, if_neg c1_9, if_pos c1_10])
                        subst hQ
                        rw [eR]
                        exact zr_ireti C d_X6_about_155
                      · have w1_0 : (what : Int32).toInt ≠ 0 := zne_toInt c1_0 (by decide)
                        have w1_1 : (what : Int32).toInt ≠ 1 := zne_toInt c1_1 (by decide)
                        have w1_2 : (what : Int32).toInt ≠ 2 := zne_toInt c1_2 (by decide)
                        have w1_3 : (what : Int32).toInt ≠ 3 := zne_toInt c1_3 (by decide)
                        have w1_4 : (what : Int32).toInt ≠ 4 := zne_toInt c1_4 (by decide)
                        have w1_5 : (what : Int32).toInt ≠ 5 := zne_toInt c1_5 (by decide)
                        have w1_6 : (what : Int32).toInt ≠ 6 := zne_toInt c1_6 (by decide)
                        have w1_7 : (what : Int32).toInt ≠ 7 := zne_toInt c1_7 (by decide)
                        have w1_8 : (what : Int32).toInt ≠ 8 := zne_toInt c1_8 (by decide)
                        have w1_9 : (what : Int32).toInt ≠ 9 := zne_toInt c1_9 (by decide)
                        have w1_10 : (what : Int32).toInt ≠ 10 := zne_toInt c1_10 (by decide)
                        refine zr_tabOut C 156 d_X6_about_1 (by omega) (by decide) ?_
                        refine zr_bipush C (v := (-2)) d_X6_about_156 (by decide) ?_
                        have eR : o_Slots_about h what = (-2) := (by unfold o_Slots_about; rw [if_neg c1_0, if_neg c1_1, if_neg c1_2, if_neg c1_3, if_neg c1_4, if_neg c1_5, if_neg c1_6, if_neg c1_7, if_neg c1_8, if_neg c1_9, if_neg c1_10])
                        subst hQ
                        rw [eR]
                        exact zr_ireti C d_X6_about_158
theorem d_X6_station_0 : decode prog_1_method_7_code 0 = .ok (.aload_n 0, 1) := by decide +kernel
theorem d_X6_station_1 : decode prog_1_method_7_code 1 = .ok (.getfield 19, 3) := by decide +kernel
theorem d_X6_station_4 : decode prog_1_method_7_code 4 = .ok (.iload_n 1, 1) := by decide +kernel
theorem d_X6_station_5 : decode prog_1_method_7_code 5 = .ok (.invokevirtual 118, 3) := by decide +kernel
theorem d_X6_station_8 : decode prog_1_method_7_code 8 = .ok (.ifCond .ne 5, 3) := by decide +kernel
theorem d_X6_station_11 : decode prog_1_method_7_code 11 = .ok (.iconst (-1), 1) := by decide +kernel
theorem d_X6_station_12 : decode prog_1_method_7_code 12 = .ok (.ireturn, 1) := by decide +kernel
theorem d_X6_station_13 : decode prog_1_method_7_code 13 = .ok (.iload_n 2, 1) := by decide +kernel
theorem d_X6_station_14 : decode prog_1_method_7_code 14 = .ok (.tableswitch 152 0 9 #[54, 64, 74, 84, 94, 104, 114, 124, 134, 143], 54) := by decide +kernel
theorem d_X6_station_68 : decode prog_1_method_7_code 68 = .ok (.aload_n 0, 1) := by decide +kernel
theorem d_X6_station_69 : decode prog_1_method_7_code 69 = .ok (.getfield 19, 3) := by decide +kernel
theorem d_X6_station_72 : decode prog_1_method_7_code 72 = .ok (.getfield 122, 3) := by decide +kernel
theorem d_X6_station_75 : decode prog_1_method_7_code 75 = .ok (.iload_n 1, 1) := by decide +kernel
theorem d_X6_station_76 : decode prog_1_method_7_code 76 = .ok (.iaload, 1) := by decide +kernel
theorem d_X6_station_77 : decode prog_1_method_7_code 77 = .ok (.ireturn, 1) := by decide +kernel
theorem d_X6_station_78 : decode prog_1_method_7_code 78 = .ok (.aload_n 0, 1) := by decide +kernel
theorem d_X6_station_79 : decode prog_1_method_7_code 79 = .ok (.getfield 19, 3) := by decide +kernel
theorem d_X6_station_82 : decode prog_1_method_7_code 82 = .ok (.getfield 125, 3) := by decide +kernel
theorem d_X6_station_85 : decode prog_1_method_7_code 85 = .ok (.iload_n 1, 1) := by decide +kernel
theorem d_X6_station_86 : decode prog_1_method_7_code 86 = .ok (.iaload, 1) := by decide +kernel
theorem d_X6_station_87 : decode prog_1_method_7_code 87 = .ok (.ireturn, 1) := by decide +kernel
theorem d_X6_station_88 : decode prog_1_method_7_code 88 = .ok (.aload_n 0, 1) := by decide +kernel
theorem d_X6_station_89 : decode prog_1_method_7_code 89 = .ok (.getfield 19, 3) := by decide +kernel
theorem d_X6_station_92 : decode prog_1_method_7_code 92 = .ok (.getfield 128, 3) := by decide +kernel
theorem d_X6_station_95 : decode prog_1_method_7_code 95 = .ok (.iload_n 1, 1) := by decide +kernel
theorem d_X6_station_96 : decode prog_1_method_7_code 96 = .ok (.iaload, 1) := by decide +kernel
theorem d_X6_station_97 : decode prog_1_method_7_code 97 = .ok (.ireturn, 1) := by decide +kernel
theorem d_X6_station_98 : decode prog_1_method_7_code 98 = .ok (.aload_n 0, 1) := by decide +kernel
theorem d_X6_station_99 : decode prog_1_method_7_code 99 = .ok (.getfield 19, 3) := by decide +kernel
theorem d_X6_station_102 : decode prog_1_method_7_code 102 = .ok (.getfield 131, 3) := by decide +kernel
theorem d_X6_station_105 : decode prog_1_method_7_code 105 = .ok (.iload_n 1, 1) := by decide +kernel
theorem d_X6_station_106 : decode prog_1_method_7_code 106 = .ok (.iaload, 1) := by decide +kernel
theorem d_X6_station_107 : decode prog_1_method_7_code 107 = .ok (.ireturn, 1) := by decide +kernel
theorem d_X6_station_108 : decode prog_1_method_7_code 108 = .ok (.aload_n 0, 1) := by decide +kernel
theorem d_X6_station_109 : decode prog_1_method_7_code 109 = .ok (.getfield 19, 3) := by decide +kernel
theorem d_X6_station_112 : decode prog_1_method_7_code 112 = .ok (.getfield 134, 3) := by decide +kernel
theorem d_X6_station_115 : decode prog_1_method_7_code 115 = .ok (.iload_n 1, 1) := by decide +kernel
theorem d_X6_station_116 : decode prog_1_method_7_code 116 = .ok (.iaload, 1) := by decide +kernel
theorem d_X6_station_117 : decode prog_1_method_7_code 117 = .ok (.ireturn, 1) := by decide +kernel
theorem d_X6_station_118 : decode prog_1_method_7_code 118 = .ok (.aload_n 0, 1) := by decide +kernel
theorem d_X6_station_119 : decode prog_1_method_7_code 119 = .ok (.getfield 19, 3) := by decide +kernel
theorem d_X6_station_122 : decode prog_1_method_7_code 122 = .ok (.getfield 137, 3) := by decide +kernel
theorem d_X6_station_125 : decode prog_1_method_7_code 125 = .ok (.iload_n 1, 1) := by decide +kernel
theorem d_X6_station_126 : decode prog_1_method_7_code 126 = .ok (.iaload, 1) := by decide +kernel
theorem d_X6_station_127 : decode prog_1_method_7_code 127 = .ok (.ireturn, 1) := by decide +kernel
theorem d_X6_station_128 : decode prog_1_method_7_code 128 = .ok (.aload_n 0, 1) := by decide +kernel
theorem d_X6_station_129 : decode prog_1_method_7_code 129 = .ok (.getfield 19, 3) := by decide +kernel
theorem d_X6_station_132 : decode prog_1_method_7_code 132 = .ok (.getfield 140, 3) := by decide +kernel
theorem d_X6_station_135 : decode prog_1_method_7_code 135 = .ok (.iload_n 1, 1) := by decide +kernel
theorem d_X6_station_136 : decode prog_1_method_7_code 136 = .ok (.iaload, 1) := by decide +kernel
theorem d_X6_station_137 : decode prog_1_method_7_code 137 = .ok (.ireturn, 1) := by decide +kernel
theorem d_X6_station_138 : decode prog_1_method_7_code 138 = .ok (.aload_n 0, 1) := by decide +kernel
theorem d_X6_station_139 : decode prog_1_method_7_code 139 = .ok (.getfield 19, 3) := by decide +kernel
theorem d_X6_station_142 : decode prog_1_method_7_code 142 = .ok (.getfield 143, 3) := by decide +kernel
theorem d_X6_station_145 : decode prog_1_method_7_code 145 = .ok (.iload_n 1, 1) := by decide +kernel
theorem d_X6_station_146 : decode prog_1_method_7_code 146 = .ok (.iaload, 1) := by decide +kernel
theorem d_X6_station_147 : decode prog_1_method_7_code 147 = .ok (.ireturn, 1) := by decide +kernel
theorem d_X6_station_148 : decode prog_1_method_7_code 148 = .ok (.aload_n 0, 1) := by decide +kernel
theorem d_X6_station_149 : decode prog_1_method_7_code 149 = .ok (.getfield 19, 3) := by decide +kernel
theorem d_X6_station_152 : decode prog_1_method_7_code 152 = .ok (.iload_n 1, 1) := by decide +kernel
theorem d_X6_station_153 : decode prog_1_method_7_code 153 = .ok (.invokevirtual 146, 3) := by decide +kernel
theorem d_X6_station_156 : decode prog_1_method_7_code 156 = .ok (.ireturn, 1) := by decide +kernel
theorem d_X6_station_157 : decode prog_1_method_7_code 157 = .ok (.aload_n 0, 1) := by decide +kernel
theorem d_X6_station_158 : decode prog_1_method_7_code 158 = .ok (.getfield 19, 3) := by decide +kernel
theorem d_X6_station_161 : decode prog_1_method_7_code 161 = .ok (.iload_n 1, 1) := by decide +kernel
theorem d_X6_station_162 : decode prog_1_method_7_code 162 = .ok (.invokevirtual 150, 3) := by decide +kernel
theorem d_X6_station_165 : decode prog_1_method_7_code 165 = .ok (.ireturn, 1) := by decide +kernel
theorem d_X6_station_166 : decode prog_1_method_7_code 166 = .ok (.bipush (-2), 2) := by decide +kernel
theorem d_X6_station_168 : decode prog_1_method_7_code 168 = .ok (.ireturn, 1) := by decide +kernel
abbrev M_Slots_station : zMT := (⟨"PeriodSlots", "station", "(II)I"⟩, prog_1_method_7_code, 3, (some .int))
theorem k_Slots_station : zcall M_Slots_station 2 := ⟨zU_in (i := 445) (by decide +kernel) rfl, m54, ⟨by decide, by decide, by decide +kernel⟩, by decide⟩
def o_Slots_station (h : zHp) (station : Int32) (what : Int32) : Int32 :=
  (if (o_Mesh_exists h 3 station) = true then (if what = 0 then (h 4 (zcn station)) else (if what = 1 then (h 6 (zcn station)) else (if what = 2 then (h 7 (zcn station)) else (if what = 3 then (h 12 (zcn station)) else (if what = 4 then (h 13 (zcn station)) else (if what = 5 then (h 5 (zcn station)) else (if what = 6 then (h 9 (zcn station)) else (if what = 7 then (h 10 (zcn station)) else (if what = 8 then (o_Mesh_freeOffsets h 3 (zcn station)) else (if what = 9 then (o_Mesh_netOf h 3 station) else (-2))))))))))) else (-1))
theorem rd_Slots_station {h h2 : zHp} {station : Int32} {what : Int32} (e0 : h2 10 = h 10) (e1 : h2 12 = h 12) (e2 : h2 13 = h 13) (e3 : h2 3 0 = h 3 0) (e4 : h2 4 = h 4) (e5 : h2 5 = h 5) (e6 : h2 6 = h 6) (e7 : h2 7 = h 7) (e8 : h2 8 = h 8) (e9 : h2 9 = h 9) : o_Slots_station h2 station what = o_Slots_station h station what := by
  unfold o_Slots_station
  simp only [e0, e1, e2, e3, e4, e5, e6, e7, e8, e9, rd_Mesh_exists e3, rd_Mesh_freeOffsets e4 e2 e8 e9 e3, rd_Mesh_netOf e5 e3]

set_option maxHeartbeats 400000 in
set_option maxRecDepth 20000 in
theorem c_Slots_station (X : zXT) (h : zHp) (g : zLg) (station : Int32) (what : Int32) (hf0 : zfit h 3 0 8) : zDi X M_Slots_station 3 [zR X 0, .int station, .int what] h g (zI (o_Slots_station h station what)) h g := by
  have hf0_1 := hf0.1
  refine zDi_of "PeriodSlots" prog_1_method_7_code 3 (some .int) rfl (by decide) [zO X 0, zI station, zI what] rfl (fun _ q => q) (Nat.le_of_ble_eq_true rfl) ?_
  intro Γ Q C hQ
  refine zr_aload_n C d_X6_station_0 rfl ?_
  refine gf_Slots_1 C m228 d_X6_station_1 ?_
  refine zr_iload_n C d_X6_station_4 rfl ?_
  refine zr_callVi (As := [.int station]) (st := []) (c := 3) C (c_Mesh_exists X h g 3 station (by decide)) k_Mesh_exists m446 m359 m360 (by decide) (zC_Mesh (by decide) X _ _) rfl rfl (by decide) rfl (Nat.le_of_ble_eq_true rfl) d_X6_station_5 ?_
  refine zr_ifz_ne C 13 d_X6_station_8 (by decide) (fun c8 => ?_) (fun c8 => ?_)
  · have ex1 := zex c8
    have ex1_2 := ex1.2
    have ex1_b := (hf0).1
    refine zr_iload_n C d_X6_station_13 rfl ?_
    by_cases c14_0 : what = 0
    · refine zr_tabIn C 68 (off := 54) d_X6_station_14 (by rw [c14_0]; decide) (by rw [c14_0]; decide) (by rw [c14_0]; rfl) (by decide) ?_
      refine zr_aload_n C d_X6_station_68 rfl ?_
      refine gf_Slots_1 C m228 d_X6_station_69 ?_
      refine gf_Mesh_3 C (by decide) m106 d_X6_station_72 ?_
      refine zr_iload_n C d_X6_station_75 rfl ?_
      refine zr_iald C za_4 (zcn station) (zix ex1.1) (by omega) (by decide) d_X6_station_76 ?_
      have eR : o_Slots_station h station what = (h 4 (zcn station)) := (by unfold o_Slots_station; rw [if_pos c8, if_pos c14_0])
      subst hQ
      rw [eR]
      exact zr_ireti C d_X6_station_77
    · by_cases c14_1 : what = 1
      · refine zr_tabIn C 78 (off := 64) d_X6_station_14 (by rw [c14_1]; decide) (by rw [c14_1]; decide) (by rw [c14_1]; rfl) (by decide) ?_
        refine zr_aload_n C d_X6_station_78 rfl ?_
        refine gf_Slots_1 C m228 d_X6_station_79 ?_
        refine gf_Mesh_5 C (by decide) m113 d_X6_station_82 ?_
        refine zr_iload_n C d_X6_station_85 rfl ?_
        refine zr_iald C za_6 (zcn station) (zix ex1.1) (by omega) (by decide) d_X6_station_86 ?_
        have eR : o_Slots_station h station what = (h 6 (zcn station)) := (by unfold o_Slots_station; rw [if_pos c8, if_neg c14_0, if_pos c14_1])
        subst hQ
        rw [eR]
        exact zr_ireti C d_X6_station_87
      · by_cases c14_2 : what = 2
        · refine zr_tabIn C 88 (off := 74) d_X6_station_14 (by rw [c14_2]; decide) (by rw [c14_2]; decide) (by rw [c14_2]; rfl) (by decide) ?_
          refine zr_aload_n C d_X6_station_88 rfl ?_
          refine gf_Slots_1 C m228 d_X6_station_89 ?_
          refine gf_Mesh_6 C (by decide) m116 d_X6_station_92 ?_
          refine zr_iload_n C d_X6_station_95 rfl ?_
          refine zr_iald C za_7 (zcn station) (zix ex1.1) (by omega) (by decide) d_X6_station_96 ?_
          have eR : o_Slots_station h station what = (h 7 (zcn station)) := (by unfold o_Slots_station; rw [if_pos c8, if_neg c14_0, if_neg c14_1, if_pos c14_2])
          subst hQ
          rw [eR]
          exact zr_ireti C d_X6_station_97
        · by_cases c14_3 : what = 3
          · refine zr_tabIn C 98 (off := 84) d_X6_station_14 (by rw [c14_3]; decide) (by rw [c14_3]; decide) (by rw [c14_3]; rfl) (by decide) ?_
            refine zr_aload_n C d_X6_station_98 rfl ?_
            refine gf_Slots_1 C m228 d_X6_station_99 ?_
            refine gf_Mesh_11 C (by decide) m125 d_X6_station_102 ?_
            refine zr_iload_n C d_X6_station_105 rfl ?_
            refine zr_iald C za_12 (zcn station) (zix ex1.1) (by omega) (by decide) d_X6_station_106 ?_
            have eR : o_Slots_station h station what = (h 12 (zcn station)) := (by unfold o_Slots_station; rw [if_pos c8, if_neg c14_0, if_neg c14_1, if_neg c14_2, if_pos c14_3])
            subst hQ
            rw [eR]
            exact zr_ireti C d_X6_station_107
          · by_cases c14_4 : what = 4
            · refine zr_tabIn C 108 (off := 94) d_X6_station_14 (by rw [c14_4]; decide) (by rw [c14_4]; decide) (by rw [c14_4]; rfl) (by decide) ?_
              refine zr_aload_n C d_X6_station_108 rfl ?_
              refine gf_Slots_1 C m228 d_X6_station_109 ?_
              refine gf_Mesh_12 C (by decide) m127 d_X6_station_112 ?_
              refine zr_iload_n C d_X6_station_115 rfl ?_
              refine zr_iald C za_13 (zcn station) (zix ex1.1) (by omega) (by decide) d_X6_station_116 ?_
              have eR : o_Slots_station h station what = (h 13 (zcn station)) := (by unfold o_Slots_station; rw [if_pos c8, if_neg c14_0, if_neg c14_1, if_neg c14_2, if_neg c14_3, if_pos c14_4])
              subst hQ
              rw [eR]
              exact zr_ireti C d_X6_station_117
            · by_cases c14_5 : what = 5
              · refine zr_tabIn C 118 (off := 104) d_X6_station_14 (by rw [c14_5]; decide) (by rw [c14_5]; decide) (by rw [c14_5]; rfl) (by decide) ?_
                refine zr_aload_n C d_X6_station_118 rfl ?_
                refine gf_Slots_1 C m228 d_X6_station_119 ?_
                refine gf_Mesh_4 C (by decide) m110 d_X6_station_122 ?_
                refine zr_iload_n C d_X6_station_125 rfl ?_
                refine zr_iald C za_5 (zcn station) (zix ex1.1) (by omega) (by decide) d_X6_station_126 ?_
                have eR : o_Slots_station h station what = (h 5 (zcn station)) := (by unfold o_Slots_station; rw [if_pos c8, if_neg c14_0, if_neg c14_1, if_neg c14_2, if_neg c14_3, if_neg c14_4, if_pos c14_5])
                subst hQ
                rw [eR]
                exact zr_ireti C d_X6_station_127
              · by_cases c14_6 : what = 6
                · refine zr_tabIn C 128 (off := 114) d_X6_station_14 (by rw [c14_6]; decide) (by rw [c14_6]; decide) (by rw [c14_6]; rfl) (by decide) ?_
                  refine zr_aload_n C d_X6_station_128 rfl ?_
                  refine gf_Slots_1 C m228 d_X6_station_129 ?_
                  refine gf_Mesh_8 C (by decide) m120 d_X6_station_132 ?_
                  refine zr_iload_n C d_X6_station_135 rfl ?_
                  refine zr_iald C za_9 (zcn station) (zix ex1.1) (by omega) (by decide) d_X6_station_136 ?_
                  have eR : o_Slots_station h station what = (h 9 (zcn station)) := (by unfold o_Slots_station; rw [if_pos c8, if_neg c14_0, if_neg c14_1, if_neg c14_2, if_neg c14_3, if_neg c14_4, if_neg c14_5, if_pos c14_6])
                  subst hQ
                  rw [eR]
                  exact zr_ireti C d_X6_station_137
                · by_cases c14_7 : what = 7
                  · refine zr_tabIn C 138 (off := 124) d_X6_station_14 (by rw [c14_7]; decide) (by rw [c14_7]; decide) (by rw [c14_7]; rfl) (by decide) ?_
                    refine zr_aload_n C d_X6_station_138 rfl ?_
                    refine gf_Slots_1 C m228 d_X6_station_139 ?_
                    refine gf_Mesh_9 C (by decide) m122 d_X6_station_142 ?_
                    refine zr_iload_n C d_X6_station_145 rfl ?_
                    refine zr_iald C za_10 (zcn station) (zix ex1.1) (by omega) (by decide) d_X6_station_146 ?_
                    have eR : o_Slots_station h station what = (h 10 (zcn station)) := (by unfold o_Slots_station; rw [if_pos c8, if_neg c14_0, if_neg c14_1, if_neg c14_2, if_neg c14_3, if_neg c14_4, if_neg c14_5, if_neg c14_6, if_pos c14_7])
                    subst hQ
                    rw [eR]
                    exact zr_ireti C d_X6_station_147
                  · by_cases c14_8 : what = 8
                    · refine zr_tabIn C 148 (off := 134) d_X6_station_14 (by rw [c14_8]; decide) (by rw [c14_8]; decide) (by rw [c14_8]; rfl) (by decide) ?_
                      refine zr_aload_n C d_X6_station_148 rfl ?_
                      refine gf_Slots_1 C m228 d_X6_station_149 ?_
                      refine zr_iload_n C d_X6_station_152 rfl ?_
                      refine zr_callVi (As := [.int station]) (st := []) (c := 3) C (c_Mesh_freeOffsets X h g 3 (zcn station) (zix ex1.1) (by decide) hf0 (by omega)) k_Mesh_freeOffsets m447 m420 m421 (by decide) (zC_Mesh (by decide) X _ _) rfl rfl (by decide) rfl (Nat.le_of_ble_eq_true rfl) d_X6_station_153 ?_
                      have eR : o_Slots_station h station what = (o_Mesh_freeOffsets h 3 (zcn station)) := (by unfold o_Slots_station; rw [if_pos c8, if_neg c14_0, if_neg c14_1, if_neg c14_2, if_neg c14_3, if_neg c14_4, if_neg c14_5, if_neg c14_6, if_neg c14_7, if_pos c14_8])
                      subst hQ
                      rw [eR]
                      exact zr_ireti C d_X6_station_156
                    · by_cases c14_9 : what = 9
                      · refine zr_tabIn C 157 (off := 143) d_X6_station_14 (by rw [c14_9]; decide) (by rw [c14_9]; decide) (by rw [c14_9]; rfl) (by decide) ?_
                        refine zr_aload_n C d_X6_station_157 rfl ?_
                        refine gf_Slots_1 C m228 d_X6_station_158 ?_
                        refine zr_iload_n C d_X6_station_161 rfl ?_
                        refine zr_callVi (As := [.int station]) (st := []) (c := 3) C (c_Mesh_netOf X h g 3 station (by decide) hf0) k_Mesh_netOf m448 m436 m437 (by decide) (zC_Mesh (by decide) X _ _) rfl rfl (by decide) rfl (Nat.le_of_ble_eq_true rfl) d_X6_station_162 ?_
                        have eR : o_Slots_station h station what = (o_Mesh_netOf h 3 station) := (by unfold o_Slots_station; rw [if_pos c8, if_neg c14_0, if_neg c14_1, if_neg c14_2, if_neg c14_3, if_neg c14_4, if_neg c14_5, if_neg c14_6, if_neg c14_7, if_neg c14_8, if_pos c14_9])
                        subst hQ
                        rw [eR]
                        exact zr_ireti C d_X6_station_165
                      · have w14_0 : (what : Int32).toInt ≠ 0 := zne_toInt c14_0 (by decide)
                        have w14_1 : (what : Int32).toInt ≠ 1 := zne_toInt c14_1 (by decide)
                        have w14_2 : (what : Int32).toInt ≠ 2 := zne_toInt c14_2 (by decide)
                        have w14_3 : (what : Int32).toInt ≠ 3 := zne_toInt c14_3 (by decide)
                        have w14_4 : (what : Int32).toInt ≠ 4 := zne_toInt c14_4 (by decide)
                        have w14_5 : (what : Int32).toInt ≠ 5 := zne_toInt c14_5 (by decide)
                        have w14_6 : (what : Int32).toInt ≠ 6 := zne_toInt c14_6 (by decide)
                        have w14_7 : (what : Int32).toInt ≠ 7 := zne_toInt c14_7 (by decide)
                        have w14_8 : (what : Int32).toInt ≠ 8 := zne_toInt c14_8 (by decide)
                        have w14_9 : (what : Int32).toInt ≠ 9 := zne_toInt c14_9 (by decide)
                        refine zr_tabOut C 166 d_X6_station_14 (by omega) (by decide) ?_
                        refine zr_bipush C (v := (-2)) d_X6_station_166 (by decide) ?_
                        have eR : o_Slots_station h station what = (-2) := (by unfold o_Slots_station; rw [if_pos c8, if_neg c14_0, if_neg c14_1, if_neg c14_2, if_neg c14_3, if_neg c14_4, if_neg c14_5, if_neg c14_6, if_neg c14_7, if_neg c14_8, if_neg c14_9])
                        subst hQ
                        rw [eR]
                        exact zr_ireti C d_X6_station_168
  · refine zr_iconst C (v := (-1)) d_X6_station_11 (by decide) ?_
    have eR : o_Slots_station h station what = (-1) := (by unfold o_Slots_station; rw [if_neg (zbf c8)])
    subst hQ
    rw [eR]
    exact zr_ireti C d_X6_station_12
theorem d_X6_round_0 : decode prog_1_method_8_code 0 = .ok (.aload_n 0, 1) := by decide +kernel
theorem d_X6_round_1 : decode prog_1_method_8_code 1 = .ok (.getfield 39, 3) := by decide +kernel
theorem d_X6_round_4 : decode prog_1_method_8_code 4 = .ok (.aload_n 0, 1) := by decide +kernel
theorem d_X6_round_5 : decode prog_1_method_8_code 5 = .ok (.getfield 19, 3) := by decide +kernel
theorem d_X6_round_8 : decode prog_1_method_8_code 8 = .ok (.invokevirtual 153, 3) := by decide +kernel
theorem d_X6_round_11 : decode prog_1_method_8_code 11 = .ok (.aload_n 0, 1) := by decide +kernel
theorem d_X6_round_12 : decode prog_1_method_8_code 12 = .ok (.getfield 19, 3) := by decide +kernel
theorem d_X6_round_15 : decode prog_1_method_8_code 15 = .ok (.invokevirtual 156, 3) := by decide +kernel
theorem d_X6_round_18 : decode prog_1_method_8_code 18 = .ok (.invokestatic 159, 3) := by decide +kernel
theorem d_X6_round_21 : decode prog_1_method_8_code 21 = .ok (.ireturn, 1) := by decide +kernel
abbrev M_Slots_round : zMT := (⟨"PeriodSlots", "round", "()I"⟩, prog_1_method_8_code, 1, (some .int))
theorem k_Slots_round : zcall M_Slots_round 0 := ⟨zU_in (i := 452) (by decide +kernel) rfl, m54, ⟨by decide, by decide, by decide +kernel⟩, by decide⟩
def o_Slots_round (h : zHp) : Int32 × zHp :=
  ((o_Int_bitCount ((o_Mesh_advance (o_Acts_remember h 3) 3).1)), ((o_Mesh_advance (o_Acts_remember h 3) 3).2))
theorem fr_Slots_round {h : zHp} (c k : Nat) (q0 : ¬ (c = 41 ∧ k = 0)) (q1 : ¬ (c = 41 ∧ k = 1)) (q2 : c ≠ 43) (q3 : ¬ (c = 42 ∧ k = 1)) (q4 : ¬ (c = 3 ∧ k = 1)) (q5 : c ≠ 6) (q6 : c ≠ 7) (q7 : c ≠ 10) (q8 : c ≠ 11) (q9 : c ≠ 12) (q10 : c ≠ 13) (q11 : c ≠ 14) : (o_Slots_round h).2 c k = h c k := by
  unfold o_Slots_round
  try dsimp only
  first | done | exact ((fr_Mesh_advance _ _ (by assumption) (by assumption) (by assumption) (by assumption) (by assumption) (by assumption) (by assumption) (by assumption)).trans (fr_Acts_remember _ _ (by assumption) (by assumption) (by assumption) (by assumption)))
set_option maxHeartbeats 400000 in
set_option maxRecDepth 20000 in
theorem c_Slots_round (X : zXT) (h : zHp) (g : zLg) (hf0 : zfit h 41 0 13) (hf1 : zfit h 41 1 14) (hf2 : zfit h 42 0 14) (hf3 : zfit h 3 0 8) : zDi X M_Slots_round 4 [zR X 0] h g (zI ((o_Slots_round h).1)) ((o_Slots_round h).2) g := by
  have hf0_1 := hf0.1
  have hf1_1 := hf1.1
  have hf2_1 := hf2.1
  have hf3_1 := hf3.1
  refine zDi_of "PeriodSlots" prog_1_method_8_code 1 (some .int) rfl (by decide) [zO X 0] rfl (fun _ q => q) (Nat.le_of_ble_eq_true rfl) ?_
  intro Γ Q C hQ
  refine zr_aload_n C d_X6_round_0 rfl ?_
  refine gf_Slots_5 C m232 d_X6_round_1 ?_
  refine zr_aload_n C d_X6_round_4 rfl ?_
  refine gf_Slots_1 C m228 d_X6_round_5 ?_
  refine zr_callVv (As := [zR X 3]) (st := []) (c := 41) C (c_Acts_remember X h g 3 (by decide) hf0 hf1 hf2) k_Acts_remember m453 m454 m455 (by decide) (zC_Acts X _ _) rfl rfl (by decide) rfl (Nat.le_of_ble_eq_true rfl) d_X6_round_8 ?_
  refine zr_h (fun h1 eh1 => ?_)
  have hph1 : zfit h1 41 0 13 := by rw [← eh1]; exact pf_rem0 hf0
  have hph1_1 := hph1.1
  have hph1 : zfit h1 41 1 14 := by rw [← eh1]; exact pf_rem1 hf1
  have hph1_1 := hph1.1
  refine zr_aload_n C d_X6_round_11 rfl ?_
  refine gf_Slots_1 C m228 d_X6_round_12 ?_
  refine zr_callVi (As := []) (st := []) (c := 3) C (c_Mesh_advance X h1 g 3 (by decide) (zfit_fr ((congrFun (congrFun eh1.symm _) _).trans (fr_Acts_remember _ _ (by omega) (by omega) (by omega) (by omega))) hf3)) k_Mesh_advance m465 m466 m467 (by decide) (zC_Mesh (by decide) X _ _) rfl rfl (by decide) rfl (Nat.le_of_ble_eq_true rfl) d_X6_round_15 ?_
  refine zr_vi (fun y2 ey2 => ?_)
  refine zr_h (fun h3 eh3 => ?_)
  refine zr_callSi (As := [.int y2]) (st := []) C (c_Int_bitCount X h3 g y2) k_Int_bitCount m480 m349 rfl (by decide) rfl (Nat.le_of_ble_eq_true rfl) d_X6_round_18 ?_
  have eR : o_Slots_round h = ((o_Int_bitCount y2), h3) := (by subst eh3 ey2 eh1; unfold o_Slots_round; exact rfl)
  subst hQ
  exact zTQ_Ih eR (zr_ireti C d_X6_round_21)
theorem zpair {h : zHp} {b : Nat} {i j : Int32} (e : o_Mesh_pairError h b i j = 0) : (¬ i < 0 ∧ zcn i < zcn (h b 0)) ∧ (¬ j < 0 ∧ zcn j < zcn (h b 0)) ∧ ¬ i = j := by
  unfold o_Mesh_pairError at e
  repeat' split at e
  all_goals first
    | (exact absurd e (by decide))
    | (refine ⟨zex (by assumption), zex (by assumption), by assumption⟩)
theorem zoffE {h : zHp} {b : Nat} {v o : Int32} (e : o_Mesh_offsetError h b v o = 0) : ¬ v < 0 ∧ zcn v < zcn (h b 0) := by
  unfold o_Mesh_offsetError at e
  repeat' split at e
  all_goals first
    | (exact absurd e (by decide))
    | (exact zex (by assumption))
theorem zdistE {h : zHp} {b : Nat} {v d : Int32} (e : o_Mesh_distanceError h b v d = 0) : ¬ v < 0 ∧ zcn v < zcn (h b 0) := by
  unfold o_Mesh_distanceError at e
  repeat' split at e
  all_goals first
    | (exact absurd e (by decide))
    | (exact zex (by assumption))

theorem d_X6_turn_0 : decode prog_1_method_9_code 0 = .ok (.aload_n 0, 1) := by decide +kernel
theorem d_X6_turn_1 : decode prog_1_method_9_code 1 = .ok (.getfield 19, 3) := by decide +kernel
theorem d_X6_turn_4 : decode prog_1_method_9_code 4 = .ok (.iload_n 1, 1) := by decide +kernel
theorem d_X6_turn_5 : decode prog_1_method_9_code 5 = .ok (.iload_n 2, 1) := by decide +kernel
theorem d_X6_turn_6 : decode prog_1_method_9_code 6 = .ok (.invokevirtual 164, 3) := by decide +kernel
theorem d_X6_turn_9 : decode prog_1_method_9_code 9 = .ok (.istore_n 3, 1) := by decide +kernel
theorem d_X6_turn_10 : decode prog_1_method_9_code 10 = .ok (.iload_n 3, 1) := by decide +kernel
theorem d_X6_turn_11 : decode prog_1_method_9_code 11 = .ok (.ifCond .eq 5, 3) := by decide +kernel
theorem d_X6_turn_14 : decode prog_1_method_9_code 14 = .ok (.iload_n 3, 1) := by decide +kernel
theorem d_X6_turn_15 : decode prog_1_method_9_code 15 = .ok (.ireturn, 1) := by decide +kernel
theorem d_X6_turn_16 : decode prog_1_method_9_code 16 = .ok (.aload_n 0, 1) := by decide +kernel
theorem d_X6_turn_17 : decode prog_1_method_9_code 17 = .ok (.getfield 39, 3) := by decide +kernel
theorem d_X6_turn_20 : decode prog_1_method_9_code 20 = .ok (.aload_n 0, 1) := by decide +kernel
theorem d_X6_turn_21 : decode prog_1_method_9_code 21 = .ok (.getfield 19, 3) := by decide +kernel
theorem d_X6_turn_24 : decode prog_1_method_9_code 24 = .ok (.invokevirtual 153, 3) := by decide +kernel
theorem d_X6_turn_27 : decode prog_1_method_9_code 27 = .ok (.aload_n 0, 1) := by decide +kernel
theorem d_X6_turn_28 : decode prog_1_method_9_code 28 = .ok (.getfield 19, 3) := by decide +kernel
theorem d_X6_turn_31 : decode prog_1_method_9_code 31 = .ok (.iload_n 1, 1) := by decide +kernel
theorem d_X6_turn_32 : decode prog_1_method_9_code 32 = .ok (.iload_n 2, 1) := by decide +kernel
theorem d_X6_turn_33 : decode prog_1_method_9_code 33 = .ok (.invokevirtual 168, 3) := by decide +kernel
theorem d_X6_turn_36 : decode prog_1_method_9_code 36 = .ok (.aload_n 0, 1) := by decide +kernel
theorem d_X6_turn_37 : decode prog_1_method_9_code 37 = .ok (.getfield 19, 3) := by decide +kernel
theorem d_X6_turn_40 : decode prog_1_method_9_code 40 = .ok (.getfield 137, 3) := by decide +kernel
theorem d_X6_turn_43 : decode prog_1_method_9_code 43 = .ok (.iload_n 1, 1) := by decide +kernel
theorem d_X6_turn_44 : decode prog_1_method_9_code 44 = .ok (.iaload, 1) := by decide +kernel
theorem d_X6_turn_45 : decode prog_1_method_9_code 45 = .ok (.iload_n 2, 1) := by decide +kernel
theorem d_X6_turn_46 : decode prog_1_method_9_code 46 = .ok (.invokestatic 172, 3) := by decide +kernel
theorem d_X6_turn_49 : decode prog_1_method_9_code 49 = .ok (.ifCond .eq 7, 3) := by decide +kernel
theorem d_X6_turn_52 : decode prog_1_method_9_code 52 = .ok (.iconst 1, 1) := by decide +kernel
theorem d_X6_turn_53 : decode prog_1_method_9_code 53 = .ok (.goto 4, 3) := by decide +kernel
theorem d_X6_turn_56 : decode prog_1_method_9_code 56 = .ok (.iconst 0, 1) := by decide +kernel
theorem d_X6_turn_57 : decode prog_1_method_9_code 57 = .ok (.ireturn, 1) := by decide +kernel
abbrev M_Slots_turn : zMT := (⟨"PeriodSlots", "turn", "(II)I"⟩, prog_1_method_9_code, 4, (some .int))
theorem k_Slots_turn : zcall M_Slots_turn 2 := ⟨zU_in (i := 484) (by decide +kernel) rfl, m54, ⟨by decide, by decide, by decide +kernel⟩, by decide⟩
def o_Slots_turn (h : zHp) (i : Int32) (j : Int32) : Int32 × zHp :=
  (if (o_Mesh_pairError h 3 i j) = 0 then ((zb (o_Slots_has ((o_Mesh_flipLink (o_Acts_remember h 3) 3 (zcn i) (zcn j)) 5 (zcn i)) j)), (o_Mesh_flipLink (o_Acts_remember h 3) 3 (zcn i) (zcn j))) else ((o_Mesh_pairError h 3 i j), h))
theorem fr_Slots_turn {h : zHp} {i : Int32} {j : Int32} (c k : Nat) (q0 : ¬ (c = 41 ∧ k = 0)) (q1 : ¬ (c = 41 ∧ k = 1)) (q2 : c ≠ 43) (q3 : ¬ (c = 42 ∧ k = 1)) (q4 : c ≠ 5) (q5 : c ≠ 7) (q6 : c ≠ 9) (q7 : c ≠ 10) (q8 : c ≠ 11) (q9 : c ≠ 12) (q10 : c ≠ 13) : (o_Slots_turn h i j).2 c k = h c k := by
  unfold o_Slots_turn
  by_cases f1 : (o_Mesh_pairError h 3 i j) = 0
  · rw [if_pos f1]
    try dsimp only
    first | done | exact ((fr_Mesh_flipLink _ _ (by assumption) (by assumption) (by assumption) (by assumption) (by assumption) (by assumption) (by assumption)).trans (fr_Acts_remember _ _ (by assumption) (by assumption) (by assumption) (by assumption)))
  · rw [if_neg f1]
    try dsimp only
    first | done | exact rfl
set_option maxHeartbeats 400000 in
set_option maxRecDepth 20000 in
theorem c_Slots_turn (X : zXT) (h : zHp) (g : zLg) (i : Int32) (j : Int32) (hf0 : zfit h 41 0 13) (hf1 : zfit h 41 1 14) (hf2 : zfit h 42 0 14) (hf3 : zfit h 3 0 8) : zDi X M_Slots_turn 4 [zR X 0, .int i, .int j] h g (zI ((o_Slots_turn h i j).1)) ((o_Slots_turn h i j).2) g := by
  have hf0_1 := hf0.1
  have hf1_1 := hf1.1
  have hf2_1 := hf2.1
  have hf3_1 := hf3.1
  refine zDi_of "PeriodSlots" prog_1_method_9_code 4 (some .int) rfl (by decide) [zO X 0, zI i, zI j, none] rfl (fun _ q => q) (Nat.le_of_ble_eq_true rfl) ?_
  intro Γ Q C hQ
  refine zr_aload_n C d_X6_turn_0 rfl ?_
  refine gf_Slots_1 C m228 d_X6_turn_1 ?_
  refine zr_iload_n C d_X6_turn_4 rfl ?_
  refine zr_iload_n C d_X6_turn_5 rfl ?_
  refine zr_callVi (As := [.int i, .int j]) (st := []) (c := 3) C (c_Mesh_pairError X h g 3 i j (by decide)) k_Mesh_pairError m485 m486 m487 (by decide) (zC_Mesh (by decide) X _ _) rfl rfl (by decide) rfl (Nat.le_of_ble_eq_true rfl) d_X6_turn_6 ?_
  refine zr_istore_n C [zO X 0, zI i, zI j, zI (o_Mesh_pairError h 3 i j)] d_X6_turn_9 (Nat.le_of_ble_eq_true rfl) rfl rfl ?_
  refine zr_iload_n C d_X6_turn_10 rfl ?_
  refine zr_if_eq C 16 d_X6_turn_11 (by decide) (fun c11 => ?_) (fun c11 => ?_)
  · have ex1 := zpair c11
    have ex1_2 := ex1.1.2
    have ex1_3 := ex1.2.1.2
    have ex1_b := (hf3).1
    refine zr_aload_n C d_X6_turn_16 rfl ?_
    refine gf_Slots_5 C m232 d_X6_turn_17 ?_
    refine zr_aload_n C d_X6_turn_20 rfl ?_
    refine gf_Slots_1 C m228 d_X6_turn_21 ?_
    refine zr_callVv (As := [zR X 3]) (st := []) (c := 41) C (c_Acts_remember X h g 3 (by decide) hf0 hf1 hf2) k_Acts_remember m453 m454 m455 (by decide) (zC_Acts X _ _) rfl rfl (by decide) rfl (Nat.le_of_ble_eq_true rfl) d_X6_turn_24 ?_
    refine zr_h (fun h2 eh2 => ?_)
    have hph2 : zfit h2 41 0 13 := by rw [← eh2]; exact pf_rem0 hf0
    have hph2_1 := hph2.1
    have hph2 : zfit h2 41 1 14 := by rw [← eh2]; exact pf_rem1 hf1
    have hph2_1 := hph2.1
    refine zr_aload_n C d_X6_turn_27 rfl ?_
    refine gf_Slots_1 C m228 d_X6_turn_28 ?_
    refine zr_iload_n C d_X6_turn_31 rfl ?_
    refine zr_iload_n C d_X6_turn_32 rfl ?_
    refine zr_callVv (As := [.int i, .int j]) (st := []) (c := 3) C (c_Mesh_flipLink X h2 g 3 (zcn i) (zcn j) (zix ex1.1.1) (zix ex1.2.1.1) (by decide) (zfit_fr ((congrFun (congrFun eh2.symm _) _).trans (fr_Acts_remember _ _ (by omega) (by omega) (by omega) (by omega))) hf3) (by omega) (by omega)) k_Mesh_flipLink m490 m368 m369 (by decide) (zC_Mesh (by decide) X _ _) rfl rfl (by decide) rfl (Nat.le_of_ble_eq_true rfl) d_X6_turn_33 ?_
    refine zr_h (fun h3 eh3 => ?_)
    refine zr_aload_n C d_X6_turn_36 rfl ?_
    refine gf_Slots_1 C m228 d_X6_turn_37 ?_
    refine gf_Mesh_4 C (by decide) m110 d_X6_turn_40 ?_
    refine zr_iload_n C d_X6_turn_43 rfl ?_
    refine zr_iald C za_5 (zcn i) (zix ex1.1.1) (by omega) (by decide) d_X6_turn_44 ?_
    refine zr_iload_n C d_X6_turn_45 rfl ?_
    refine zr_callSi (As := [.int (h3 5 (zcn i)), .int j]) (st := []) C (c_Slots_has X h3 g (h3 5 (zcn i)) j) k_Slots_has m491 m322 rfl (by decide) rfl (Nat.le_of_ble_eq_true rfl) d_X6_turn_46 ?_
    suffices hJ49 : ∀ (y4 : Bool), (o_Slots_has (h3 5 (zcn i)) j) = y4 → zV X Γ Q 57 [none, none, none, none] [.int (zb y4)] h3 g by
      refine zr_ifz_eq C 56 d_X6_turn_49 (by decide) (fun c49 => ?_) (fun c49 => ?_)
      · refine zr_iconst C (v := 0) d_X6_turn_56 (by decide) ?_
        refine zr_lv [none, none, none, none] (by simp [zle]) ?_
        exact hJ49 false (by simp [c49])
      · refine zr_iconst C (v := 1) d_X6_turn_52 (by decide) ?_
        refine zr_goto C 57 d_X6_turn_53 (by decide) ?_
        refine zr_lv [none, none, none, none] (by simp [zle]) ?_
        exact hJ49 true (by simp [c49])
    intro y4 ey4
    have eR : o_Slots_turn h i j = ((zb y4), h3) := (by subst ey4 eh3 eh2; unfold o_Slots_turn; rw [if_pos c11])
    subst hQ
    exact zTQ_Ih eR (zr_ireti C d_X6_turn_57)
  · refine zr_iload_n C d_X6_turn_14 rfl ?_
    have eR : o_Slots_turn h i j = ((o_Mesh_pairError h 3 i j), h) := (by unfold o_Slots_turn; rw [if_neg c11])
    subst hQ
    exact zTQ_Ih eR (zr_ireti C d_X6_turn_15)
theorem d_X6_lay_0 : decode prog_1_method_10_code 0 = .ok (.aload_n 0, 1) := by decide +kernel
theorem d_X6_lay_1 : decode prog_1_method_10_code 1 = .ok (.getfield 19, 3) := by decide +kernel
theorem d_X6_lay_4 : decode prog_1_method_10_code 4 = .ok (.iload_n 1, 1) := by decide +kernel
theorem d_X6_lay_5 : decode prog_1_method_10_code 5 = .ok (.iload_n 2, 1) := by decide +kernel
theorem d_X6_lay_6 : decode prog_1_method_10_code 6 = .ok (.invokevirtual 176, 3) := by decide +kernel
theorem d_X6_lay_9 : decode prog_1_method_10_code 9 = .ok (.istore_n 3, 1) := by decide +kernel
theorem d_X6_lay_10 : decode prog_1_method_10_code 10 = .ok (.iload_n 3, 1) := by decide +kernel
theorem d_X6_lay_11 : decode prog_1_method_10_code 11 = .ok (.ifCond .eq 5, 3) := by decide +kernel
theorem d_X6_lay_14 : decode prog_1_method_10_code 14 = .ok (.iload_n 3, 1) := by decide +kernel
theorem d_X6_lay_15 : decode prog_1_method_10_code 15 = .ok (.ireturn, 1) := by decide +kernel
theorem d_X6_lay_16 : decode prog_1_method_10_code 16 = .ok (.aload_n 0, 1) := by decide +kernel
theorem d_X6_lay_17 : decode prog_1_method_10_code 17 = .ok (.getfield 39, 3) := by decide +kernel
theorem d_X6_lay_20 : decode prog_1_method_10_code 20 = .ok (.aload_n 0, 1) := by decide +kernel
theorem d_X6_lay_21 : decode prog_1_method_10_code 21 = .ok (.getfield 19, 3) := by decide +kernel
theorem d_X6_lay_24 : decode prog_1_method_10_code 24 = .ok (.invokevirtual 153, 3) := by decide +kernel
theorem d_X6_lay_27 : decode prog_1_method_10_code 27 = .ok (.aload_n 0, 1) := by decide +kernel
theorem d_X6_lay_28 : decode prog_1_method_10_code 28 = .ok (.getfield 19, 3) := by decide +kernel
theorem d_X6_lay_31 : decode prog_1_method_10_code 31 = .ok (.getfield 125, 3) := by decide +kernel
theorem d_X6_lay_34 : decode prog_1_method_10_code 34 = .ok (.iload_n 1, 1) := by decide +kernel
theorem d_X6_lay_35 : decode prog_1_method_10_code 35 = .ok (.iaload, 1) := by decide +kernel
theorem d_X6_lay_36 : decode prog_1_method_10_code 36 = .ok (.istore 4, 2) := by decide +kernel
theorem d_X6_lay_38 : decode prog_1_method_10_code 38 = .ok (.aload_n 0, 1) := by decide +kernel
theorem d_X6_lay_39 : decode prog_1_method_10_code 39 = .ok (.getfield 19, 3) := by decide +kernel
theorem d_X6_lay_42 : decode prog_1_method_10_code 42 = .ok (.iload_n 1, 1) := by decide +kernel
theorem d_X6_lay_43 : decode prog_1_method_10_code 43 = .ok (.iload_n 2, 1) := by decide +kernel
theorem d_X6_lay_44 : decode prog_1_method_10_code 44 = .ok (.invokevirtual 179, 3) := by decide +kernel
theorem d_X6_lay_47 : decode prog_1_method_10_code 47 = .ok (.iload 4, 2) := by decide +kernel
theorem d_X6_lay_49 : decode prog_1_method_10_code 49 = .ok (.ireturn, 1) := by decide +kernel
abbrev M_Slots_lay : zMT := (⟨"PeriodSlots", "lay", "(II)I"⟩, prog_1_method_10_code, 5, (some .int))
theorem k_Slots_lay : zcall M_Slots_lay 2 := ⟨zU_in (i := 495) (by decide +kernel) rfl, m54, ⟨by decide, by decide, by decide +kernel⟩, by decide⟩
def o_Slots_lay (h : zHp) (station : Int32) (offset : Int32) : Int32 × zHp :=
  (if (o_Mesh_offsetError h 3 station offset) = 0 then ((h 6 (zcn station)), (o_Mesh_place (o_Acts_remember h 3) 3 (zcn station) offset)) else ((o_Mesh_offsetError h 3 station offset), h))
theorem fr_Slots_lay {h : zHp} {station : Int32} {offset : Int32} (c k : Nat) (q0 : ¬ (c = 41 ∧ k = 0)) (q1 : ¬ (c = 41 ∧ k = 1)) (q2 : c ≠ 43) (q3 : ¬ (c = 42 ∧ k = 1)) (q4 : c ≠ 6) (q5 : c ≠ 7) (q6 : c ≠ 12) (q7 : c ≠ 13) : (o_Slots_lay h station offset).2 c k = h c k := by
  unfold o_Slots_lay
  by_cases f1 : (o_Mesh_offsetError h 3 station offset) = 0
  · rw [if_pos f1]
    try dsimp only
    first | done | exact ((fr_Mesh_place _ _ (by assumption) (by assumption) (by assumption) (by assumption)).trans (fr_Acts_remember _ _ (by assumption) (by assumption) (by assumption) (by assumption)))
  · rw [if_neg f1]
    try dsimp only
    first | done | exact rfl
set_option maxHeartbeats 400000 in
set_option maxRecDepth 20000 in
theorem c_Slots_lay (X : zXT) (h : zHp) (g : zLg) (station : Int32) (offset : Int32) (hf0 : zfit h 41 0 13) (hf1 : zfit h 41 1 14) (hf2 : zfit h 42 0 14) (hf3 : zfit h 3 0 8) : zDi X M_Slots_lay 4 [zR X 0, .int station, .int offset] h g (zI ((o_Slots_lay h station offset).1)) ((o_Slots_lay h station offset).2) g := by
  have hf0_1 := hf0.1
  have hf1_1 := hf1.1
  have hf2_1 := hf2.1
  have hf3_1 := hf3.1
  refine zDi_of "PeriodSlots" prog_1_method_10_code 5 (some .int) rfl (by decide) [zO X 0, zI station, zI offset, none, none] rfl (fun _ q => q) (Nat.le_of_ble_eq_true rfl) ?_
  intro Γ Q C hQ
  refine zr_aload_n C d_X6_lay_0 rfl ?_
  refine gf_Slots_1 C m228 d_X6_lay_1 ?_
  refine zr_iload_n C d_X6_lay_4 rfl ?_
  refine zr_iload_n C d_X6_lay_5 rfl ?_
  refine zr_callVi (As := [.int station, .int offset]) (st := []) (c := 3) C (c_Mesh_offsetError X h g 3 station offset (by decide) hf3) k_Mesh_offsetError m496 m497 m498 (by decide) (zC_Mesh (by decide) X _ _) rfl rfl (by decide) rfl (Nat.le_of_ble_eq_true rfl) d_X6_lay_6 ?_
  refine zr_istore_n C [zO X 0, zI station, zI offset, zI (o_Mesh_offsetError h 3 station offset), none] d_X6_lay_9 (Nat.le_of_ble_eq_true rfl) rfl rfl ?_
  refine zr_iload_n C d_X6_lay_10 rfl ?_
  refine zr_if_eq C 16 d_X6_lay_11 (by decide) (fun c11 => ?_) (fun c11 => ?_)
  · have ex1 := zoffE c11
    have ex1_2 := ex1.2
    have ex1_b := (hf3).1
    refine zr_aload_n C d_X6_lay_16 rfl ?_
    refine gf_Slots_5 C m232 d_X6_lay_17 ?_
    refine zr_aload_n C d_X6_lay_20 rfl ?_
    refine gf_Slots_1 C m228 d_X6_lay_21 ?_
    refine zr_callVv (As := [zR X 3]) (st := []) (c := 41) C (c_Acts_remember X h g 3 (by decide) hf0 hf1 hf2) k_Acts_remember m453 m454 m455 (by decide) (zC_Acts X _ _) rfl rfl (by decide) rfl (Nat.le_of_ble_eq_true rfl) d_X6_lay_24 ?_
    refine zr_h (fun h2 eh2 => ?_)
    have hph2 : zfit h2 41 0 13 := by rw [← eh2]; exact pf_rem0 hf0
    have hph2_1 := hph2.1
    have hph2 : zfit h2 41 1 14 := by rw [← eh2]; exact pf_rem1 hf1
    have hph2_1 := hph2.1
    refine zr_aload_n C d_X6_lay_27 rfl ?_
    refine gf_Slots_1 C m228 d_X6_lay_28 ?_
    refine gf_Mesh_5 C (by decide) m113 d_X6_lay_31 ?_
    refine zr_iload_n C d_X6_lay_34 rfl ?_
    refine zr_iald C za_6 (zcn station) (zix ex1.1) (by omega) (by decide) d_X6_lay_35 ?_
    refine zr_top ((congrFun (congrFun eh2.symm _) _).trans (fr_Acts_remember _ _ (by omega) (by omega) (by omega) (by omega))) ?_
    refine zr_istore C [zO X 0, zI station, zI offset, zI (o_Mesh_offsetError h 3 station offset), zI (h 6 (zcn station))] d_X6_lay_36 (Nat.le_of_ble_eq_true rfl) rfl rfl ?_
    refine zr_aload_n C d_X6_lay_38 rfl ?_
    refine gf_Slots_1 C m228 d_X6_lay_39 ?_
    refine zr_iload_n C d_X6_lay_42 rfl ?_
    refine zr_iload_n C d_X6_lay_43 rfl ?_
    refine zr_callVv (As := [.int station, .int offset]) (st := []) (c := 3) C (c_Mesh_place X h2 g 3 (zcn station) offset (zix ex1.1) (by decide) (zfit_fr ((congrFun (congrFun eh2.symm _) _).trans (fr_Acts_remember _ _ (by omega) (by omega) (by omega) (by omega))) hf3) (by omega)) k_Mesh_place m500 m501 m502 (by decide) (zC_Mesh (by decide) X _ _) rfl rfl (by decide) rfl (Nat.le_of_ble_eq_true rfl) d_X6_lay_44 ?_
    refine zr_h (fun h3 eh3 => ?_)
    refine zr_iload C d_X6_lay_47 rfl ?_
    have eR : o_Slots_lay h station offset = ((h 6 (zcn station)), h3) := (by subst eh3 eh2; unfold o_Slots_lay; rw [if_pos c11])
    subst hQ
    exact zTQ_Ih eR (zr_ireti C d_X6_lay_49)
  · refine zr_iload_n C d_X6_lay_14 rfl ?_
    have eR : o_Slots_lay h station offset = ((o_Mesh_offsetError h 3 station offset), h) := (by unfold o_Slots_lay; rw [if_neg c11])
    subst hQ
    exact zTQ_Ih eR (zr_ireti C d_X6_lay_15)
theorem d_X6_shift_0 : decode prog_1_method_11_code 0 = .ok (.aload_n 0, 1) := by decide +kernel
theorem d_X6_shift_1 : decode prog_1_method_11_code 1 = .ok (.getfield 19, 3) := by decide +kernel
theorem d_X6_shift_4 : decode prog_1_method_11_code 4 = .ok (.iload_n 1, 1) := by decide +kernel
theorem d_X6_shift_5 : decode prog_1_method_11_code 5 = .ok (.iload_n 2, 1) := by decide +kernel
theorem d_X6_shift_6 : decode prog_1_method_11_code 6 = .ok (.invokevirtual 182, 3) := by decide +kernel
theorem d_X6_shift_9 : decode prog_1_method_11_code 9 = .ok (.istore_n 3, 1) := by decide +kernel
theorem d_X6_shift_10 : decode prog_1_method_11_code 10 = .ok (.iload_n 3, 1) := by decide +kernel
theorem d_X6_shift_11 : decode prog_1_method_11_code 11 = .ok (.ifCond .eq 5, 3) := by decide +kernel
theorem d_X6_shift_14 : decode prog_1_method_11_code 14 = .ok (.iload_n 3, 1) := by decide +kernel
theorem d_X6_shift_15 : decode prog_1_method_11_code 15 = .ok (.ireturn, 1) := by decide +kernel
theorem d_X6_shift_16 : decode prog_1_method_11_code 16 = .ok (.aload_n 0, 1) := by decide +kernel
theorem d_X6_shift_17 : decode prog_1_method_11_code 17 = .ok (.getfield 39, 3) := by decide +kernel
theorem d_X6_shift_20 : decode prog_1_method_11_code 20 = .ok (.aload_n 0, 1) := by decide +kernel
theorem d_X6_shift_21 : decode prog_1_method_11_code 21 = .ok (.getfield 19, 3) := by decide +kernel
theorem d_X6_shift_24 : decode prog_1_method_11_code 24 = .ok (.invokevirtual 153, 3) := by decide +kernel
theorem d_X6_shift_27 : decode prog_1_method_11_code 27 = .ok (.aload_n 0, 1) := by decide +kernel
theorem d_X6_shift_28 : decode prog_1_method_11_code 28 = .ok (.getfield 19, 3) := by decide +kernel
theorem d_X6_shift_31 : decode prog_1_method_11_code 31 = .ok (.aload_n 0, 1) := by decide +kernel
theorem d_X6_shift_32 : decode prog_1_method_11_code 32 = .ok (.getfield 19, 3) := by decide +kernel
theorem d_X6_shift_35 : decode prog_1_method_11_code 35 = .ok (.iload_n 1, 1) := by decide +kernel
theorem d_X6_shift_36 : decode prog_1_method_11_code 36 = .ok (.invokevirtual 150, 3) := by decide +kernel
theorem d_X6_shift_39 : decode prog_1_method_11_code 39 = .ok (.iload_n 2, 1) := by decide +kernel
theorem d_X6_shift_40 : decode prog_1_method_11_code 40 = .ok (.invokevirtual 185, 3) := by decide +kernel
theorem d_X6_shift_43 : decode prog_1_method_11_code 43 = .ok (.aload_n 0, 1) := by decide +kernel
theorem d_X6_shift_44 : decode prog_1_method_11_code 44 = .ok (.getfield 19, 3) := by decide +kernel
theorem d_X6_shift_47 : decode prog_1_method_11_code 47 = .ok (.invokevirtual 95, 3) := by decide +kernel
theorem d_X6_shift_50 : decode prog_1_method_11_code 50 = .ok (.ireturn, 1) := by decide +kernel
abbrev M_Slots_shift : zMT := (⟨"PeriodSlots", "shift", "(II)I"⟩, prog_1_method_11_code, 4, (some .int))
theorem k_Slots_shift : zcall M_Slots_shift 2 := ⟨zU_in (i := 507) (by decide +kernel) rfl, m54, ⟨by decide, by decide, by decide +kernel⟩, by decide⟩
def o_Slots_shift (h : zHp) (station : Int32) (d : Int32) : Int32 × zHp :=
  (if (o_Mesh_distanceError h 3 station d) = 0 then ((o_Mesh_conflicts (o_Mesh_moveAll (o_Acts_remember h 3) 3 (o_Mesh_netOf h 3 station) d) 3), (o_Mesh_moveAll (o_Acts_remember h 3) 3 (o_Mesh_netOf h 3 station) d)) else ((o_Mesh_distanceError h 3 station d), h))
theorem fr_Slots_shift {h : zHp} {station : Int32} {d : Int32} (c k : Nat) (q0 : ¬ (c = 41 ∧ k = 0)) (q1 : ¬ (c = 41 ∧ k = 1)) (q2 : c ≠ 43) (q3 : ¬ (c = 42 ∧ k = 1)) (q4 : c ≠ 6) (q5 : c ≠ 7) (q6 : c ≠ 12) (q7 : c ≠ 13) : (o_Slots_shift h station d).2 c k = h c k := by
  unfold o_Slots_shift
  by_cases f1 : (o_Mesh_distanceError h 3 station d) = 0
  · rw [if_pos f1]
    try dsimp only
    first | done | exact ((fr_Mesh_moveAll _ _ (by assumption) (by assumption) (by assumption) (by assumption)).trans (fr_Acts_remember _ _ (by assumption) (by assumption) (by assumption) (by assumption)))
  · rw [if_neg f1]
    try dsimp only
    first | done | exact rfl
set_option maxHeartbeats 400000 in
set_option maxRecDepth 20000 in
theorem c_Slots_shift (X : zXT) (h : zHp) (g : zLg) (station : Int32) (d : Int32) (hf0 : zfit h 41 0 13) (hf1 : zfit h 41 1 14) (hf2 : zfit h 42 0 14) (hf3 : zfit h 3 0 8) : zDi X M_Slots_shift 4 [zR X 0, .int station, .int d] h g (zI ((o_Slots_shift h station d).1)) ((o_Slots_shift h station d).2) g := by
  have hf0_1 := hf0.1
  have hf1_1 := hf1.1
  have hf2_1 := hf2.1
  have hf3_1 := hf3.1
  refine zDi_of "PeriodSlots" prog_1_method_11_code 4 (some .int) rfl (by decide) [zO X 0, zI station, zI d, none] rfl (fun _ q => q) (Nat.le_of_ble_eq_true rfl) ?_
  intro Γ Q C hQ
  refine zr_aload_n C d_X6_shift_0 rfl ?_
  refine gf_Slots_1 C m228 d_X6_shift_1 ?_
  refine zr_iload_n C d_X6_shift_4 rfl ?_
  refine zr_iload_n C d_X6_shift_5 rfl ?_
  refine zr_callVi (As := [.int station, .int d]) (st := []) (c := 3) C (c_Mesh_distanceError X h g 3 station d (by decide)) k_Mesh_distanceError m508 m509 m510 (by decide) (zC_Mesh (by decide) X _ _) rfl rfl (by decide) rfl (Nat.le_of_ble_eq_true rfl) d_X6_shift_6 ?_
  refine zr_istore_n C [zO X 0, zI station, zI d, zI (o_Mesh_distanceError h 3 station d)] d_X6_shift_9 (Nat.le_of_ble_eq_true rfl) rfl rfl ?_
  refine zr_iload_n C d_X6_shift_10 rfl ?_
  refine zr_if_eq C 16 d_X6_shift_11 (by decide) (fun c11 => ?_) (fun c11 => ?_)
  · have ex1 := zdistE c11
    have ex1_2 := ex1.2
    have ex1_b := (hf3).1
    refine zr_aload_n C d_X6_shift_16 rfl ?_
    refine gf_Slots_5 C m232 d_X6_shift_17 ?_
    refine zr_aload_n C d_X6_shift_20 rfl ?_
    refine gf_Slots_1 C m228 d_X6_shift_21 ?_
    refine zr_callVv (As := [zR X 3]) (st := []) (c := 41) C (c_Acts_remember X h g 3 (by decide) hf0 hf1 hf2) k_Acts_remember m453 m454 m455 (by decide) (zC_Acts X _ _) rfl rfl (by decide) rfl (Nat.le_of_ble_eq_true rfl) d_X6_shift_24 ?_
    refine zr_h (fun h2 eh2 => ?_)
    have hph2 : zfit h2 41 0 13 := by rw [← eh2]; exact pf_rem0 hf0
    have hph2_1 := hph2.1
    have hph2 : zfit h2 41 1 14 := by rw [← eh2]; exact pf_rem1 hf1
    have hph2_1 := hph2.1
    refine zr_aload_n C d_X6_shift_27 rfl ?_
    refine gf_Slots_1 C m228 d_X6_shift_28 ?_
    refine zr_aload_n C d_X6_shift_31 rfl ?_
    refine gf_Slots_1 C m228 d_X6_shift_32 ?_
    refine zr_iload_n C d_X6_shift_35 rfl ?_
    refine zr_callVi (As := [.int station]) (st := [zR X 3]) (c := 3) C (c_Mesh_netOf X h2 g 3 station (by decide) (zfit_fr ((congrFun (congrFun eh2.symm _) _).trans (fr_Acts_remember _ _ (by omega) (by omega) (by omega) (by omega))) hf3)) k_Mesh_netOf m448 m436 m437 (by decide) (zC_Mesh (by decide) X _ _) rfl rfl (by decide) rfl (Nat.le_of_ble_eq_true rfl) d_X6_shift_36 ?_
    refine zr_top (rd_Mesh_netOf (funext fun kk => ((congrFun (congrFun eh2.symm _) _).trans (fr_Acts_remember _ _ (by omega) (by omega) (by omega) (by omega)))) ((congrFun (congrFun eh2.symm _) _).trans (fr_Acts_remember _ _ (by omega) (by omega) (by omega) (by omega)))) ?_
    refine zr_iload_n C d_X6_shift_39 rfl ?_
    refine zr_callVv (As := [.int (o_Mesh_netOf h 3 station), .int d]) (st := []) (c := 3) C (c_Mesh_moveAll X h2 g 3 (o_Mesh_netOf h 3 station) d (by decide) (zfit_fr ((congrFun (congrFun eh2.symm _) _).trans (fr_Acts_remember _ _ (by omega) (by omega) (by omega) (by omega))) hf3)) k_Mesh_moveAll m512 m513 m514 (by decide) (zC_Mesh (by decide) X _ _) rfl rfl (by decide) rfl (Nat.le_of_ble_eq_true rfl) d_X6_shift_40 ?_
    refine zr_h (fun h3 eh3 => ?_)
    refine zr_aload_n C d_X6_shift_43 rfl ?_
    refine gf_Slots_1 C m228 d_X6_shift_44 ?_
    refine zr_callVi (As := []) (st := []) (c := 3) C (c_Mesh_conflicts X h3 g 3 (by decide) (zfit_fr ((congrFun (congrFun eh3.symm _) _).trans ((fr_Mesh_moveAll _ _ (by omega) (by omega) (by omega) (by omega)).trans ((congrFun (congrFun eh2.symm _) _).trans (fr_Acts_remember _ _ (by omega) (by omega) (by omega) (by omega))))) hf3)) k_Mesh_conflicts m398 m399 m400 (by decide) (zC_Mesh (by decide) X _ _) rfl rfl (by decide) rfl (Nat.le_of_ble_eq_true rfl) d_X6_shift_47 ?_
    have eR : o_Slots_shift h station d = ((o_Mesh_conflicts h3 3), h3) := (by subst eh3 eh2; unfold o_Slots_shift; rw [if_pos c11])
    subst hQ
    exact zTQ_Ih eR (zr_ireti C d_X6_shift_50)
  · refine zr_iload_n C d_X6_shift_14 rfl ?_
    have eR : o_Slots_shift h station d = ((o_Mesh_distanceError h 3 station d), h) := (by unfold o_Slots_shift; rw [if_neg c11])
    subst hQ
    exact zTQ_Ih eR (zr_ireti C d_X6_shift_15)
theorem d_X6_netToMove_0 : decode prog_1_method_13_code 0 = .ok (.iload_n 0, 1) := by decide +kernel
theorem d_X6_netToMove_1 : decode prog_1_method_13_code 1 = .ok (.invokestatic 159, 3) := by decide +kernel
theorem d_X6_netToMove_4 : decode prog_1_method_13_code 4 = .ok (.iload_n 1, 1) := by decide +kernel
theorem d_X6_netToMove_5 : decode prog_1_method_13_code 5 = .ok (.invokestatic 159, 3) := by decide +kernel
theorem d_X6_netToMove_8 : decode prog_1_method_13_code 8 = .ok (.isub, 1) := by decide +kernel
theorem d_X6_netToMove_9 : decode prog_1_method_13_code 9 = .ok (.istore_n 2, 1) := by decide +kernel
theorem d_X6_netToMove_10 : decode prog_1_method_13_code 10 = .ok (.iload_n 2, 1) := by decide +kernel
theorem d_X6_netToMove_11 : decode prog_1_method_13_code 11 = .ok (.ifCond .ne 13, 3) := by decide +kernel
theorem d_X6_netToMove_14 : decode prog_1_method_13_code 14 = .ok (.iload_n 1, 1) := by decide +kernel
theorem d_X6_netToMove_15 : decode prog_1_method_13_code 15 = .ok (.invokestatic 194, 3) := by decide +kernel
theorem d_X6_netToMove_18 : decode prog_1_method_13_code 18 = .ok (.iload_n 0, 1) := by decide +kernel
theorem d_X6_netToMove_19 : decode prog_1_method_13_code 19 = .ok (.invokestatic 194, 3) := by decide +kernel
theorem d_X6_netToMove_22 : decode prog_1_method_13_code 22 = .ok (.isub, 1) := by decide +kernel
theorem d_X6_netToMove_23 : decode prog_1_method_13_code 23 = .ok (.istore_n 2, 1) := by decide +kernel
theorem d_X6_netToMove_24 : decode prog_1_method_13_code 24 = .ok (.iload_n 2, 1) := by decide +kernel
theorem d_X6_netToMove_25 : decode prog_1_method_13_code 25 = .ok (.ifCond .ge 7, 3) := by decide +kernel
theorem d_X6_netToMove_28 : decode prog_1_method_13_code 28 = .ok (.iload_n 0, 1) := by decide +kernel
theorem d_X6_netToMove_29 : decode prog_1_method_13_code 29 = .ok (.goto 4, 3) := by decide +kernel
theorem d_X6_netToMove_32 : decode prog_1_method_13_code 32 = .ok (.iload_n 1, 1) := by decide +kernel
theorem d_X6_netToMove_33 : decode prog_1_method_13_code 33 = .ok (.ireturn, 1) := by decide +kernel
abbrev M_Slots_netToMove : zMT := (⟨"PeriodSlots", "netToMove", "(II)I"⟩, prog_1_method_13_code, 3, (some .int))
theorem k_Slots_netToMove : zcall M_Slots_netToMove 2 := ⟨zU_in (i := 522) (by decide +kernel) rfl, m54, ⟨by decide, by decide, by decide +kernel⟩, by decide⟩
def o_Slots_netToMove (one : Int32) (other : Int32) : Int32 :=
  (if 0 ≤ (if ((o_Int_bitCount one) - (o_Int_bitCount other)) = 0 then ((o_Int_lowestOneBit other) - (o_Int_lowestOneBit one)) else ((o_Int_bitCount one) - (o_Int_bitCount other))) then other else one)
set_option maxHeartbeats 400000 in
set_option maxRecDepth 20000 in
theorem c_Slots_netToMove (X : zXT) (h : zHp) (g : zLg) (one : Int32) (other : Int32) : zDi X M_Slots_netToMove 1 [.int one, .int other] h g (zI (o_Slots_netToMove one other)) h g := by
  refine zDi_of "PeriodSlots" prog_1_method_13_code 3 (some .int) rfl (by decide) [zI one, zI other, none] rfl (fun _ q => q) (Nat.le_of_ble_eq_true rfl) ?_
  intro Γ Q C hQ
  refine zr_iload_n C d_X6_netToMove_0 rfl ?_
  refine zr_callSi (As := [.int one]) (st := []) C (c_Int_bitCount X h g one) k_Int_bitCount m480 m349 rfl (by decide) rfl (Nat.le_of_ble_eq_true rfl) d_X6_netToMove_1 ?_
  refine zr_iload_n C d_X6_netToMove_4 rfl ?_
  refine zr_callSi (As := [.int other]) (st := [.int (o_Int_bitCount one)]) C (c_Int_bitCount X h g other) k_Int_bitCount m480 m349 rfl (by decide) rfl (Nat.le_of_ble_eq_true rfl) d_X6_netToMove_5 ?_
  refine zr_isub C d_X6_netToMove_8 ?_
  refine zr_istore_n C [zI one, zI other, zI ((o_Int_bitCount one) - (o_Int_bitCount other))] d_X6_netToMove_9 (Nat.le_of_ble_eq_true rfl) rfl rfl ?_
  refine zr_iload_n C d_X6_netToMove_10 rfl ?_
  suffices hJ11 : ∀ (y1 : Int32), (if ((o_Int_bitCount one) - (o_Int_bitCount other)) = 0 then ((o_Int_lowestOneBit other) - (o_Int_lowestOneBit one)) else ((o_Int_bitCount one) - (o_Int_bitCount other))) = y1 → zV X Γ Q 24 [zI one, zI other, zI y1] [] h g by
    refine zr_if_ne C 24 d_X6_netToMove_11 (by decide) (fun c11 => ?_) (fun c11 => ?_)
    · exact hJ11 ((o_Int_bitCount one) - (o_Int_bitCount other)) (((if_neg c11)))
    · refine zr_iload_n C d_X6_netToMove_14 rfl ?_
      refine zr_callSi (As := [.int other]) (st := []) C (c_Int_lowestOneBit X h g other) k_Int_lowestOneBit m523 m440 rfl (by decide) rfl (Nat.le_of_ble_eq_true rfl) d_X6_netToMove_15 ?_
      refine zr_iload_n C d_X6_netToMove_18 rfl ?_
      refine zr_callSi (As := [.int one]) (st := [.int (o_Int_lowestOneBit other)]) C (c_Int_lowestOneBit X h g one) k_Int_lowestOneBit m523 m440 rfl (by decide) rfl (Nat.le_of_ble_eq_true rfl) d_X6_netToMove_19 ?_
      refine zr_isub C d_X6_netToMove_22 ?_
      refine zr_istore_n C [zI one, zI other, zI ((o_Int_lowestOneBit other) - (o_Int_lowestOneBit one))] d_X6_netToMove_23 (Nat.le_of_ble_eq_true rfl) rfl rfl ?_
      exact hJ11 ((o_Int_lowestOneBit other) - (o_Int_lowestOneBit one)) (((if_pos c11)))
  intro y1 ey1
  refine zr_iload_n C d_X6_netToMove_24 rfl ?_
  suffices hJ25 : ∀ (y2 : Int32), (if 0 ≤ y1 then other else one) = y2 → zV X Γ Q 33 [none, none, none] [.int y2] h g by
    refine zr_if_ge C 32 d_X6_netToMove_25 (by decide) (fun c25 => ?_) (fun c25 => ?_)
    · refine zr_iload_n C d_X6_netToMove_32 rfl ?_
      refine zr_lv [none, none, none] (by simp [zle]) ?_
      exact hJ25 other (((if_pos c25)))
    · refine zr_iload_n C d_X6_netToMove_28 rfl ?_
      refine zr_goto C 33 d_X6_netToMove_29 (by decide) ?_
      refine zr_lv [none, none, none] (by simp [zle]) ?_
      exact hJ25 one (((if_neg c25)))
  intro y2 ey2
  have eR : o_Slots_netToMove one other = y2 := (by subst ey2 ey1; unfold o_Slots_netToMove; exact rfl)
  subst hQ
  rw [eR]
  exact zr_ireti C d_X6_netToMove_33
theorem d_X6_conflictsAfter_0 : decode prog_1_method_15_code 0 = .ok (.aload_n 0, 1) := by decide +kernel
theorem d_X6_conflictsAfter_1 : decode prog_1_method_15_code 1 = .ok (.getfield 26, 3) := by decide +kernel
theorem d_X6_conflictsAfter_4 : decode prog_1_method_15_code 4 = .ok (.aload_n 0, 1) := by decide +kernel
theorem d_X6_conflictsAfter_5 : decode prog_1_method_15_code 5 = .ok (.getfield 19, 3) := by decide +kernel
theorem d_X6_conflictsAfter_8 : decode prog_1_method_15_code 8 = .ok (.invokevirtual 78, 3) := by decide +kernel
theorem d_X6_conflictsAfter_11 : decode prog_1_method_15_code 11 = .ok (.aload_n 0, 1) := by decide +kernel
theorem d_X6_conflictsAfter_12 : decode prog_1_method_15_code 12 = .ok (.getfield 26, 3) := by decide +kernel
theorem d_X6_conflictsAfter_15 : decode prog_1_method_15_code 15 = .ok (.iload_n 1, 1) := by decide +kernel
theorem d_X6_conflictsAfter_16 : decode prog_1_method_15_code 16 = .ok (.iload_n 2, 1) := by decide +kernel
theorem d_X6_conflictsAfter_17 : decode prog_1_method_15_code 17 = .ok (.invokevirtual 185, 3) := by decide +kernel
theorem d_X6_conflictsAfter_20 : decode prog_1_method_15_code 20 = .ok (.aload_n 0, 1) := by decide +kernel
theorem d_X6_conflictsAfter_21 : decode prog_1_method_15_code 21 = .ok (.getfield 26, 3) := by decide +kernel
theorem d_X6_conflictsAfter_24 : decode prog_1_method_15_code 24 = .ok (.invokevirtual 95, 3) := by decide +kernel
theorem d_X6_conflictsAfter_27 : decode prog_1_method_15_code 27 = .ok (.ireturn, 1) := by decide +kernel
abbrev M_Slots_conflictsAfter : zMT := (⟨"PeriodSlots", "conflictsAfter", "(II)I"⟩, prog_1_method_15_code, 3, (some .int))
theorem k_Slots_conflictsAfter : zcall M_Slots_conflictsAfter 2 := ⟨zU_in (i := 531) (by decide +kernel) rfl, m54, ⟨by decide, by decide, by decide +kernel⟩, by decide⟩
def o_Slots_conflictsAfter (h : zHp) (moved : Int32) (d : Int32) : Int32 × zHp :=
  ((o_Mesh_conflicts (o_Mesh_moveAll (o_Mesh_copyFrom h 27 3) 27 moved d) 27), (o_Mesh_moveAll (o_Mesh_copyFrom h 27 3) 27 moved d))
theorem fr_Slots_conflictsAfter {h : zHp} {moved : Int32} {d : Int32} (c k : Nat) (q0 : ¬ (c = 27 ∧ k = 0)) (q1 : ¬ (c = 27 ∧ k = 1)) (q2 : ¬ (c = 27 ∧ k = 2)) (q3 : c ≠ 28) (q4 : c ≠ 29) (q5 : c ≠ 30) (q6 : c ≠ 31) (q7 : c ≠ 32) (q8 : c ≠ 33) (q9 : c ≠ 34) (q10 : c ≠ 35) (q11 : c ≠ 36) (q12 : c ≠ 37) (q13 : c ≠ 38) : (o_Slots_conflictsAfter h moved d).2 c k = h c k := by
  unfold o_Slots_conflictsAfter
  try dsimp only
  first | done | exact ((fr_Mesh_moveAll _ _ (by assumption) (by assumption) (by assumption) (by assumption)).trans (fr_Mesh_copyFrom _ _ (by assumption) (by assumption) (by assumption) (by assumption) (by assumption) (by assumption) (by assumption) (by assumption) (by assumption) (by assumption) (by assumption) (by assumption)))
set_option maxHeartbeats 400000 in
set_option maxRecDepth 20000 in
theorem c_Slots_conflictsAfter (X : zXT) (h : zHp) (g : zLg) (moved : Int32) (d : Int32) (hf0 : zfit h 3 0 8) : zDi X M_Slots_conflictsAfter 4 [zR X 0, .int moved, .int d] h g (zI ((o_Slots_conflictsAfter h moved d).1)) ((o_Slots_conflictsAfter h moved d).2) g := by
  have hf0_1 := hf0.1
  refine zDi_of "PeriodSlots" prog_1_method_15_code 3 (some .int) rfl (by decide) [zO X 0, zI moved, zI d] rfl (fun _ q => q) (Nat.le_of_ble_eq_true rfl) ?_
  intro Γ Q C hQ
  refine zr_aload_n C d_X6_conflictsAfter_0 rfl ?_
  refine gf_Slots_3 C m230 d_X6_conflictsAfter_1 ?_
  refine zr_aload_n C d_X6_conflictsAfter_4 rfl ?_
  refine gf_Slots_1 C m228 d_X6_conflictsAfter_5 ?_
  refine zr_callVv (As := [zR X 3]) (st := []) (c := 27) C (c_Mesh_copyFrom X h g 27 3 (by decide) (by decide)) k_Mesh_copyFrom m375 m376 m377 (by decide) (zC_Mesh (by decide) X _ _) rfl rfl (by decide) rfl (Nat.le_of_ble_eq_true rfl) d_X6_conflictsAfter_8 ?_
  refine zr_h (fun h1 eh1 => ?_)
  have hph1 : zfit h1 27 0 8 := by rw [← eh1]; exact pf_copyFrom hf0
  have hph1_1 := hph1.1
  refine zr_aload_n C d_X6_conflictsAfter_11 rfl ?_
  refine gf_Slots_3 C m230 d_X6_conflictsAfter_12 ?_
  refine zr_iload_n C d_X6_conflictsAfter_15 rfl ?_
  refine zr_iload_n C d_X6_conflictsAfter_16 rfl ?_
  refine zr_callVv (As := [.int moved, .int d]) (st := []) (c := 27) C (c_Mesh_moveAll X h1 g 27 moved d (by decide) hph1) k_Mesh_moveAll m512 m513 m514 (by decide) (zC_Mesh (by decide) X _ _) rfl rfl (by decide) rfl (Nat.le_of_ble_eq_true rfl) d_X6_conflictsAfter_17 ?_
  refine zr_h (fun h2 eh2 => ?_)
  refine zr_aload_n C d_X6_conflictsAfter_20 rfl ?_
  refine gf_Slots_3 C m230 d_X6_conflictsAfter_21 ?_
  refine zr_callVi (As := []) (st := []) (c := 27) C (c_Mesh_conflicts X h2 g 27 (by decide) (zfit_fr ((congrFun (congrFun eh2.symm _) _).trans (fr_Mesh_moveAll _ _ (by omega) (by omega) (by omega) (by omega))) hph1)) k_Mesh_conflicts m398 m399 m400 (by decide) (zC_Mesh (by decide) X _ _) rfl rfl (by decide) rfl (Nat.le_of_ble_eq_true rfl) d_X6_conflictsAfter_24 ?_
  have eR : o_Slots_conflictsAfter h moved d = ((o_Mesh_conflicts h2 27), h2) := (by subst eh2 eh1; unfold o_Slots_conflictsAfter; exact rfl)
  subst hQ
  exact zTQ_Ih eR (zr_ireti C d_X6_conflictsAfter_27)
theorem d_X6_bestDistance_0 : decode prog_1_method_14_code 0 = .ok (.iconst 0, 1) := by decide +kernel
theorem d_X6_bestDistance_1 : decode prog_1_method_14_code 1 = .ok (.istore_n 2, 1) := by decide +kernel
theorem d_X6_bestDistance_2 : decode prog_1_method_14_code 2 = .ok (.aload_n 0, 1) := by decide +kernel
theorem d_X6_bestDistance_3 : decode prog_1_method_14_code 3 = .ok (.iload_n 1, 1) := by decide +kernel
theorem d_X6_bestDistance_4 : decode prog_1_method_14_code 4 = .ok (.iconst 0, 1) := by decide +kernel
theorem d_X6_bestDistance_5 : decode prog_1_method_14_code 5 = .ok (.invokevirtual 197, 3) := by decide +kernel
theorem d_X6_bestDistance_8 : decode prog_1_method_14_code 8 = .ok (.istore_n 3, 1) := by decide +kernel
theorem d_X6_bestDistance_9 : decode prog_1_method_14_code 9 = .ok (.iconst 1, 1) := by decide +kernel
theorem d_X6_bestDistance_10 : decode prog_1_method_14_code 10 = .ok (.istore 4, 2) := by decide +kernel
theorem d_X6_bestDistance_12 : decode prog_1_method_14_code 12 = .ok (.iload 4, 2) := by decide +kernel
theorem d_X6_bestDistance_14 : decode prog_1_method_14_code 14 = .ok (.bipush 8, 2) := by decide +kernel
theorem d_X6_bestDistance_16 : decode prog_1_method_14_code 16 = .ok (.if_icmp .ge 30, 3) := by decide +kernel
theorem d_X6_bestDistance_19 : decode prog_1_method_14_code 19 = .ok (.aload_n 0, 1) := by decide +kernel
theorem d_X6_bestDistance_20 : decode prog_1_method_14_code 20 = .ok (.iload_n 1, 1) := by decide +kernel
theorem d_X6_bestDistance_21 : decode prog_1_method_14_code 21 = .ok (.iload 4, 2) := by decide +kernel
theorem d_X6_bestDistance_23 : decode prog_1_method_14_code 23 = .ok (.invokevirtual 197, 3) := by decide +kernel
theorem d_X6_bestDistance_26 : decode prog_1_method_14_code 26 = .ok (.istore 5, 2) := by decide +kernel
theorem d_X6_bestDistance_28 : decode prog_1_method_14_code 28 = .ok (.iload 5, 2) := by decide +kernel
theorem d_X6_bestDistance_30 : decode prog_1_method_14_code 30 = .ok (.iload_n 3, 1) := by decide +kernel
theorem d_X6_bestDistance_31 : decode prog_1_method_14_code 31 = .ok (.if_icmp .ge 9, 3) := by decide +kernel
theorem d_X6_bestDistance_34 : decode prog_1_method_14_code 34 = .ok (.iload 5, 2) := by decide +kernel
theorem d_X6_bestDistance_36 : decode prog_1_method_14_code 36 = .ok (.istore_n 3, 1) := by decide +kernel
theorem d_X6_bestDistance_37 : decode prog_1_method_14_code 37 = .ok (.iload 4, 2) := by decide +kernel
theorem d_X6_bestDistance_39 : decode prog_1_method_14_code 39 = .ok (.istore_n 2, 1) := by decide +kernel
theorem d_X6_bestDistance_40 : decode prog_1_method_14_code 40 = .ok (.iinc 4 1, 3) := by decide +kernel
theorem d_X6_bestDistance_43 : decode prog_1_method_14_code 43 = .ok (.goto (-31), 3) := by decide +kernel
theorem d_X6_bestDistance_46 : decode prog_1_method_14_code 46 = .ok (.iload_n 2, 1) := by decide +kernel
theorem d_X6_bestDistance_47 : decode prog_1_method_14_code 47 = .ok (.ireturn, 1) := by decide +kernel
abbrev M_Slots_bestDistance : zMT := (⟨"PeriodSlots", "bestDistance", "(I)I"⟩, prog_1_method_14_code, 6, (some .int))
theorem k_Slots_bestDistance : zcall M_Slots_bestDistance 1 := ⟨zU_in (i := 527) (by decide +kernel) rfl, m54, ⟨by decide, by decide, by decide +kernel⟩, by decide⟩
def o_Slots_bestDistance (h : zHp) (moved : Int32) : Int32 × zHp :=
  ((zrep (fun (i12_3 : Nat) (s12_3 : Int32 × Int32 × zHp) => ((if s12_3.2.1 ≤ ((o_Slots_conflictsAfter s12_3.2.2 moved (nI (1 + i12_3))).1) then s12_3.1 else (nI (1 + i12_3))), (if s12_3.2.1 ≤ ((o_Slots_conflictsAfter s12_3.2.2 moved (nI (1 + i12_3))).1) then s12_3.2.1 else ((o_Slots_conflictsAfter s12_3.2.2 moved (nI (1 + i12_3))).1)), ((o_Slots_conflictsAfter s12_3.2.2 moved (nI (1 + i12_3))).2))) (0, ((o_Slots_conflictsAfter h moved 0).1), ((o_Slots_conflictsAfter h moved 0).2)) 7).1, (zrep (fun (i12_3 : Nat) (s12_3 : Int32 × Int32 × zHp) => ((if s12_3.2.1 ≤ ((o_Slots_conflictsAfter s12_3.2.2 moved (nI (1 + i12_3))).1) then s12_3.1 else (nI (1 + i12_3))), (if s12_3.2.1 ≤ ((o_Slots_conflictsAfter s12_3.2.2 moved (nI (1 + i12_3))).1) then s12_3.2.1 else ((o_Slots_conflictsAfter s12_3.2.2 moved (nI (1 + i12_3))).1)), ((o_Slots_conflictsAfter s12_3.2.2 moved (nI (1 + i12_3))).2))) (0, ((o_Slots_conflictsAfter h moved 0).1), ((o_Slots_conflictsAfter h moved 0).2)) 7).2.2)
theorem fr_Slots_bestDistance {h : zHp} {moved : Int32} (c k : Nat) (q0 : ¬ (c = 27 ∧ k = 0)) (q1 : ¬ (c = 27 ∧ k = 1)) (q2 : ¬ (c = 27 ∧ k = 2)) (q3 : c ≠ 28) (q4 : c ≠ 29) (q5 : c ≠ 30) (q6 : c ≠ 31) (q7 : c ≠ 32) (q8 : c ≠ 33) (q9 : c ≠ 34) (q10 : c ≠ 35) (q11 : c ≠ 36) (q12 : c ≠ 37) (q13 : c ≠ 38) : (o_Slots_bestDistance h moved).2 c k = h c k := by
  unfold o_Slots_bestDistance
  have hI12_3 := zrep_inv (f := (fun (i12_3 : Nat) (s12_3 : Int32 × Int32 × zHp) => ((if s12_3.2.1 ≤ ((o_Slots_conflictsAfter s12_3.2.2 moved (nI (1 + i12_3))).1) then s12_3.1 else (nI (1 + i12_3))), (if s12_3.2.1 ≤ ((o_Slots_conflictsAfter s12_3.2.2 moved (nI (1 + i12_3))).1) then s12_3.2.1 else ((o_Slots_conflictsAfter s12_3.2.2 moved (nI (1 + i12_3))).1)), ((o_Slots_conflictsAfter s12_3.2.2 moved (nI (1 + i12_3))).2)))) (a := (0, ((o_Slots_conflictsAfter h moved 0).1), ((o_Slots_conflictsAfter h moved 0).2))) (fun _ s12_3 => ∀ c k : Nat, ¬ (c = 27 ∧ k = 0) → ¬ (c = 27 ∧ k = 1) → ¬ (c = 27 ∧ k = 2) → c ≠ 28 → c ≠ 29 → c ≠ 30 → c ≠ 31 → c ≠ 32 → c ≠ 33 → c ≠ 34 → c ≠ 35 → c ≠ 36 → c ≠ 37 → c ≠ 38 → s12_3.2.2 c k = ((o_Slots_conflictsAfter h moved 0).2) c k) (7) (fun _ _ _ _ _ _ _ _ _ _ _ _ _ _ _ _ => (by dsimp only)) (fun i12_3 s12_3 hi12_3 hI12_3 => (fun c k q0 q1 q2 q3 q4 q5 q6 q7 q8 q9 q10 q11 q12 q13 => (by (try dsimp only); exact ((fr_Slots_conflictsAfter _ _ (by assumption) (by assumption) (by assumption) (by assumption) (by assumption) (by assumption) (by assumption) (by assumption) (by assumption) (by assumption) (by assumption) (by assumption) (by assumption) (by assumption)).trans (hI12_3 _ _ (by assumption) (by assumption) (by assumption) (by assumption) (by assumption) (by assumption) (by assumption) (by assumption) (by assumption) (by assumption) (by assumption) (by assumption) (by assumption) (by assumption))))))
  try dsimp only
  first | done | exact ((hI12_3 _ _ (by assumption) (by assumption) (by assumption) (by assumption) (by assumption) (by assumption) (by assumption) (by assumption) (by assumption) (by assumption) (by assumption) (by assumption) (by assumption) (by assumption)).trans (fr_Slots_conflictsAfter _ _ (by assumption) (by assumption) (by assumption) (by assumption) (by assumption) (by assumption) (by assumption) (by assumption) (by assumption) (by assumption) (by assumption) (by assumption) (by assumption) (by assumption)))
set_option maxHeartbeats 400000 in
set_option maxRecDepth 20000 in
theorem c_Slots_bestDistance (X : zXT) (h : zHp) (g : zLg) (moved : Int32) (hf0 : zfit h 3 0 8) : zDi X M_Slots_bestDistance 5 [zR X 0, .int moved] h g (zI ((o_Slots_bestDistance h moved).1)) ((o_Slots_bestDistance h moved).2) g := by
  have hf0_1 := hf0.1
  refine zDi_of "PeriodSlots" prog_1_method_14_code 6 (some .int) rfl (by decide) [zO X 0, zI moved, none, none, none, none] rfl (fun _ q => q) (Nat.le_of_ble_eq_true rfl) ?_
  intro Γ Q C hQ
  refine zr_iconst C (v := 0) d_X6_bestDistance_0 (by decide) ?_
  refine zr_istore_n C [zO X 0, zI moved, zI 0, none, none, none] d_X6_bestDistance_1 (Nat.le_of_ble_eq_true rfl) rfl rfl ?_
  refine zr_aload_n C d_X6_bestDistance_2 rfl ?_
  refine zr_iload_n C d_X6_bestDistance_3 rfl ?_
  refine zr_iconst C (v := 0) d_X6_bestDistance_4 (by decide) ?_
  refine zr_callVi (As := [.int moved, .int 0]) (st := []) (c := 0) C (c_Slots_conflictsAfter X h g moved 0 hf0) k_Slots_conflictsAfter m528 m530 m10 (by decide) (zC_Slots X _ _) rfl rfl (by decide) rfl (Nat.le_of_ble_eq_true rfl) d_X6_bestDistance_5 ?_
  refine zr_vi (fun y1 ey1 => ?_)
  refine zr_h (fun h2 eh2 => ?_)
  refine zr_istore_n C [zO X 0, zI moved, zI 0, zI y1, none, none] d_X6_bestDistance_8 (Nat.le_of_ble_eq_true rfl) rfl rfl ?_
  refine zr_iconst C (v := 1) d_X6_bestDistance_9 (by decide) ?_
  refine zr_istore C [zO X 0, zI moved, zI 0, zI y1, zI 1, none] d_X6_bestDistance_10 (Nat.le_of_ble_eq_true rfl) rfl rfl ?_
  refine zfor (f := (fun (i12_3 : Nat) (s12_3 : Int32 × Int32 × zHp) => ((if s12_3.2.1 ≤ ((o_Slots_conflictsAfter s12_3.2.2 moved (nI (1 + i12_3))).1) then s12_3.1 else (nI (1 + i12_3))), (if s12_3.2.1 ≤ ((o_Slots_conflictsAfter s12_3.2.2 moved (nI (1 + i12_3))).1) then s12_3.2.1 else ((o_Slots_conflictsAfter s12_3.2.2 moved (nI (1 + i12_3))).1)), ((o_Slots_conflictsAfter s12_3.2.2 moved (nI (1 + i12_3))).2)))) (a := (0, y1, h2)) (fun i12_3 s12_3 => zV X Γ Q 12 [zO X 0, zI moved, zI s12_3.1, zI s12_3.2.1, zI (nI (1 + i12_3)), none] [] s12_3.2.2 g) (fun _ s12_3 => ∀ c k : Nat, ¬ (c = 27 ∧ k = 0) → ¬ (c = 27 ∧ k = 1) → ¬ (c = 27 ∧ k = 2) → c ≠ 28 → c ≠ 29 → c ≠ 30 → c ≠ 31 → c ≠ 32 → c ≠ 33 → c ≠ 34 → c ≠ 35 → c ≠ 36 → c ≠ 37 → c ≠ 38 → s12_3.2.2 c k = h2 c k) (7) (fun _ _ _ _ _ _ _ _ _ _ _ _ _ _ _ _ => (by dsimp only)) (fun i12_3 s12_3 hi12_3 hI12_3 => ⟨(fun c k q0 q1 q2 q3 q4 q5 q6 q7 q8 q9 q10 q11 q12 q13 => (by (try dsimp only); exact ((fr_Slots_conflictsAfter _ _ (by assumption) (by assumption) (by assumption) (by assumption) (by assumption) (by assumption) (by assumption) (by assumption) (by assumption) (by assumption) (by assumption) (by assumption) (by assumption) (by assumption)).trans (hI12_3 _ _ (by assumption) (by assumption) (by assumption) (by assumption) (by assumption) (by assumption) (by assumption) (by assumption) (by assumption) (by assumption) (by assumption) (by assumption) (by assumption) (by assumption))))), fun hk12_3 => ?_⟩) (fun r12_3 er12_3 hI12_3 => ?_)
  · refine zr_iload C d_X6_bestDistance_12 rfl ?_
    refine zr_bipush C (v := 8) d_X6_bestDistance_14 (by decide) ?_
    refine zr_icmp_ge C 46 d_X6_bestDistance_16 (by decide) (fun c => absurd c (zge_noN (B := 8) rfl (by omega) (by omega))) (fun _ => ?_)
    refine zr_aload_n C d_X6_bestDistance_19 rfl ?_
    refine zr_iload_n C d_X6_bestDistance_20 rfl ?_
    refine zr_iload C d_X6_bestDistance_21 rfl ?_
    refine zr_callVi (As := [.int moved, .int (nI (1 + i12_3))]) (st := []) (c := 0) C (c_Slots_conflictsAfter X s12_3.2.2 g moved (nI (1 + i12_3)) (zfit_fr ((hI12_3 _ _ (by omega) (by omega) (by omega) (by omega) (by omega) (by omega) (by omega) (by omega) (by omega) (by omega) (by omega) (by omega) (by omega) (by omega)).trans ((congrFun (congrFun eh2.symm _) _).trans (fr_Slots_conflictsAfter _ _ (by omega) (by omega) (by omega) (by omega) (by omega) (by omega) (by omega) (by omega) (by omega) (by omega) (by omega) (by omega) (by omega) (by omega)))) hf0)) k_Slots_conflictsAfter m528 m530 m10 (by decide) (zC_Slots X _ _) rfl rfl (by decide) rfl (Nat.le_of_ble_eq_true rfl) d_X6_bestDistance_23 ?_
    refine zr_vi (fun y4 ey4 => ?_)
    refine zr_h (fun h5 eh5 => ?_)
    refine zr_istore C [zO X 0, zI moved, zI s12_3.1, zI s12_3.2.1, zI (nI (1 + i12_3)), zI y4] d_X6_bestDistance_26 (Nat.le_of_ble_eq_true rfl) rfl rfl ?_
    refine zr_iload C d_X6_bestDistance_28 rfl ?_
    refine zr_iload_n C d_X6_bestDistance_30 rfl ?_
    suffices hJ31 : ∀ (y6 : Int32) (y7 : Int32), (if s12_3.2.1 ≤ y4 then s12_3.1 else (nI (1 + i12_3))) = y6 → (if s12_3.2.1 ≤ y4 then s12_3.2.1 else y4) = y7 → zV X Γ Q 40 [zO X 0, zI moved, zI y6, zI y7, zI (nI (1 + i12_3)), none] [] h5 g by
      refine zr_icmp_ge C 40 d_X6_bestDistance_31 (by decide) (fun c31 => ?_) (fun c31 => ?_)
      · refine zr_lv [zO X 0, zI moved, zI s12_3.1, zI s12_3.2.1, zI (nI (1 + i12_3)), none] (by simp [zle]) ?_
        exact hJ31 s12_3.1 s12_3.2.1 (((if_pos c31))) (((if_pos c31)))
      · refine zr_iload C d_X6_bestDistance_34 rfl ?_
        refine zr_istore_n C [zO X 0, zI moved, zI s12_3.1, zI y4, zI (nI (1 + i12_3)), zI y4] d_X6_bestDistance_36 (Nat.le_of_ble_eq_true rfl) rfl rfl ?_
        refine zr_iload C d_X6_bestDistance_37 rfl ?_
        refine zr_istore_n C [zO X 0, zI moved, zI (nI (1 + i12_3)), zI y4, zI (nI (1 + i12_3)), zI y4] d_X6_bestDistance_39 (Nat.le_of_ble_eq_true rfl) rfl rfl ?_
        refine zr_lv [zO X 0, zI moved, zI (nI (1 + i12_3)), zI y4, zI (nI (1 + i12_3)), none] (by simp [zle]) ?_
        exact hJ31 (nI (1 + i12_3)) y4 (((if_neg c31))) (((if_neg c31)))
    intro y6 y7 ey6 ey7
    refine zr_iinc C [zO X 0, zI moved, zI y6, zI y7, zI (nI ((1 + i12_3) + 1)), none] (v := (nI ((1 + i12_3) + 1))) d_X6_bestDistance_40 rfl (zn_add rfl rfl) (Nat.le_of_ble_eq_true rfl) rfl rfl ?_
    refine zr_goto C 12 d_X6_bestDistance_43 (by decide) ?_
    exact hk12_3 (y6, y7, h5) (by subst ey7 ey6 eh5 ey4; exact rfl)
  refine zr_iload C d_X6_bestDistance_12 rfl ?_
  refine zr_bipush C (v := 8) d_X6_bestDistance_14 (by decide) ?_
  refine zr_icmp_ge C 46 d_X6_bestDistance_16 (by decide) (fun _ => ?_) (fun c => absurd (zge_yesN (B := 8) rfl (by omega) (by omega)) c)
  refine zr_iload_n C d_X6_bestDistance_46 rfl ?_
  have eR : o_Slots_bestDistance h moved = (r12_3.1, r12_3.2.2) := (by subst er12_3 eh2 ey1; unfold o_Slots_bestDistance; exact rfl)
  subst hQ
  exact zTQ_Ih eR (zr_ireti C d_X6_bestDistance_47)
theorem d_X6_join_0 : decode prog_1_method_12_code 0 = .ok (.aload_n 0, 1) := by decide +kernel
theorem d_X6_join_1 : decode prog_1_method_12_code 1 = .ok (.getfield 19, 3) := by decide +kernel
theorem d_X6_join_4 : decode prog_1_method_12_code 4 = .ok (.iload_n 1, 1) := by decide +kernel
theorem d_X6_join_5 : decode prog_1_method_12_code 5 = .ok (.iload_n 2, 1) := by decide +kernel
theorem d_X6_join_6 : decode prog_1_method_12_code 6 = .ok (.invokevirtual 164, 3) := by decide +kernel
theorem d_X6_join_9 : decode prog_1_method_12_code 9 = .ok (.istore_n 3, 1) := by decide +kernel
theorem d_X6_join_10 : decode prog_1_method_12_code 10 = .ok (.iload_n 3, 1) := by decide +kernel
theorem d_X6_join_11 : decode prog_1_method_12_code 11 = .ok (.ifCond .eq 5, 3) := by decide +kernel
theorem d_X6_join_14 : decode prog_1_method_12_code 14 = .ok (.iload_n 3, 1) := by decide +kernel
theorem d_X6_join_15 : decode prog_1_method_12_code 15 = .ok (.ireturn, 1) := by decide +kernel
theorem d_X6_join_16 : decode prog_1_method_12_code 16 = .ok (.aload_n 0, 1) := by decide +kernel
theorem d_X6_join_17 : decode prog_1_method_12_code 17 = .ok (.getfield 19, 3) := by decide +kernel
theorem d_X6_join_20 : decode prog_1_method_12_code 20 = .ok (.iload_n 1, 1) := by decide +kernel
theorem d_X6_join_21 : decode prog_1_method_12_code 21 = .ok (.invokevirtual 150, 3) := by decide +kernel
theorem d_X6_join_24 : decode prog_1_method_12_code 24 = .ok (.iload_n 2, 1) := by decide +kernel
theorem d_X6_join_25 : decode prog_1_method_12_code 25 = .ok (.invokestatic 172, 3) := by decide +kernel
theorem d_X6_join_28 : decode prog_1_method_12_code 28 = .ok (.ifCond .eq 6, 3) := by decide +kernel
theorem d_X6_join_31 : decode prog_1_method_12_code 31 = .ok (.bipush (-3), 2) := by decide +kernel
theorem d_X6_join_33 : decode prog_1_method_12_code 33 = .ok (.ireturn, 1) := by decide +kernel
theorem d_X6_join_34 : decode prog_1_method_12_code 34 = .ok (.aload_n 0, 1) := by decide +kernel
theorem d_X6_join_35 : decode prog_1_method_12_code 35 = .ok (.getfield 39, 3) := by decide +kernel
theorem d_X6_join_38 : decode prog_1_method_12_code 38 = .ok (.aload_n 0, 1) := by decide +kernel
theorem d_X6_join_39 : decode prog_1_method_12_code 39 = .ok (.getfield 19, 3) := by decide +kernel
theorem d_X6_join_42 : decode prog_1_method_12_code 42 = .ok (.invokevirtual 153, 3) := by decide +kernel
theorem d_X6_join_45 : decode prog_1_method_12_code 45 = .ok (.aload_n 0, 1) := by decide +kernel
theorem d_X6_join_46 : decode prog_1_method_12_code 46 = .ok (.getfield 19, 3) := by decide +kernel
theorem d_X6_join_49 : decode prog_1_method_12_code 49 = .ok (.iload_n 1, 1) := by decide +kernel
theorem d_X6_join_50 : decode prog_1_method_12_code 50 = .ok (.invokevirtual 150, 3) := by decide +kernel
theorem d_X6_join_53 : decode prog_1_method_12_code 53 = .ok (.aload_n 0, 1) := by decide +kernel
theorem d_X6_join_54 : decode prog_1_method_12_code 54 = .ok (.getfield 19, 3) := by decide +kernel
theorem d_X6_join_57 : decode prog_1_method_12_code 57 = .ok (.iload_n 2, 1) := by decide +kernel
theorem d_X6_join_58 : decode prog_1_method_12_code 58 = .ok (.invokevirtual 150, 3) := by decide +kernel
theorem d_X6_join_61 : decode prog_1_method_12_code 61 = .ok (.invokestatic 188, 3) := by decide +kernel
theorem d_X6_join_64 : decode prog_1_method_12_code 64 = .ok (.istore 4, 2) := by decide +kernel
theorem d_X6_join_66 : decode prog_1_method_12_code 66 = .ok (.aload_n 0, 1) := by decide +kernel
theorem d_X6_join_67 : decode prog_1_method_12_code 67 = .ok (.getfield 19, 3) := by decide +kernel
theorem d_X6_join_70 : decode prog_1_method_12_code 70 = .ok (.iload_n 1, 1) := by decide +kernel
theorem d_X6_join_71 : decode prog_1_method_12_code 71 = .ok (.iload_n 2, 1) := by decide +kernel
theorem d_X6_join_72 : decode prog_1_method_12_code 72 = .ok (.invokevirtual 168, 3) := by decide +kernel
theorem d_X6_join_75 : decode prog_1_method_12_code 75 = .ok (.aload_n 0, 1) := by decide +kernel
theorem d_X6_join_76 : decode prog_1_method_12_code 76 = .ok (.iload 4, 2) := by decide +kernel
theorem d_X6_join_78 : decode prog_1_method_12_code 78 = .ok (.invokevirtual 191, 3) := by decide +kernel
theorem d_X6_join_81 : decode prog_1_method_12_code 81 = .ok (.istore 5, 2) := by decide +kernel
theorem d_X6_join_83 : decode prog_1_method_12_code 83 = .ok (.aload_n 0, 1) := by decide +kernel
theorem d_X6_join_84 : decode prog_1_method_12_code 84 = .ok (.getfield 19, 3) := by decide +kernel
theorem d_X6_join_87 : decode prog_1_method_12_code 87 = .ok (.iload 4, 2) := by decide +kernel
theorem d_X6_join_89 : decode prog_1_method_12_code 89 = .ok (.iload 5, 2) := by decide +kernel
theorem d_X6_join_91 : decode prog_1_method_12_code 91 = .ok (.invokevirtual 185, 3) := by decide +kernel
theorem d_X6_join_94 : decode prog_1_method_12_code 94 = .ok (.iload 5, 2) := by decide +kernel
theorem d_X6_join_96 : decode prog_1_method_12_code 96 = .ok (.ireturn, 1) := by decide +kernel
abbrev M_Slots_join : zMT := (⟨"PeriodSlots", "join", "(II)I"⟩, prog_1_method_12_code, 6, (some .int))
theorem k_Slots_join : zcall M_Slots_join 2 := ⟨zU_in (i := 519) (by decide +kernel) rfl, m54, ⟨by decide, by decide, by decide +kernel⟩, by decide⟩
def o_Slots_join (h : zHp) (i : Int32) (j : Int32) : Int32 × zHp :=
  (if (o_Mesh_pairError h 3 i j) = 0 then (if (o_Slots_has (o_Mesh_netOf h 3 i) j) = true then ((-3), h) else (((o_Slots_bestDistance (o_Mesh_flipLink (o_Acts_remember h 3) 3 (zcn i) (zcn j)) (o_Slots_netToMove (o_Mesh_netOf h 3 i) (o_Mesh_netOf h 3 j))).1), (o_Mesh_moveAll ((o_Slots_bestDistance (o_Mesh_flipLink (o_Acts_remember h 3) 3 (zcn i) (zcn j)) (o_Slots_netToMove (o_Mesh_netOf h 3 i) (o_Mesh_netOf h 3 j))).2) 3 (o_Slots_netToMove (o_Mesh_netOf h 3 i) (o_Mesh_netOf h 3 j)) ((o_Slots_bestDistance (o_Mesh_flipLink (o_Acts_remember h 3) 3 (zcn i) (zcn j)) (o_Slots_netToMove (o_Mesh_netOf h 3 i) (o_Mesh_netOf h 3 j))).1)))) else ((o_Mesh_pairError h 3 i j), h))
theorem fr_Slots_join {h : zHp} {i : Int32} {j : Int32} (c k : Nat) (q0 : ¬ (c = 41 ∧ k = 0)) (q1 : ¬ (c = 41 ∧ k = 1)) (q2 : c ≠ 43) (q3 : ¬ (c = 42 ∧ k = 1)) (q4 : ¬ (c = 27 ∧ k = 0)) (q5 : ¬ (c = 27 ∧ k = 1)) (q6 : ¬ (c = 27 ∧ k = 2)) (q7 : c ≠ 28) (q8 : c ≠ 29) (q9 : c ≠ 30) (q10 : c ≠ 31) (q11 : c ≠ 32) (q12 : c ≠ 33) (q13 : c ≠ 34) (q14 : c ≠ 35) (q15 : c ≠ 36) (q16 : c ≠ 37) (q17 : c ≠ 38) (q18 : c ≠ 5) (q19 : c ≠ 6) (q20 : c ≠ 7) (q21 : c ≠ 9) (q22 : c ≠ 10) (q23 : c ≠ 11) (q24 : c ≠ 12) (q25 : c ≠ 13) : (o_Slots_join h i j).2 c k = h c k := by
  unfold o_Slots_join
  by_cases f1 : (o_Mesh_pairError h 3 i j) = 0
  · rw [if_pos f1]
    by_cases f2 : (o_Slots_has (o_Mesh_netOf h 3 i) j) = true
    · rw [if_pos f2]
      try dsimp only
      first | done | exact rfl
    · rw [if_neg f2]
      try dsimp only
      first | done | exact ((fr_Mesh_moveAll _ _ (by assumption) (by assumption) (by assumption) (by assumption)).trans ((fr_Slots_bestDistance _ _ (by assumption) (by assumption) (by assumption) (by assumption) (by assumption) (by assumption) (by assumption) (by assumption) (by assumption) (by assumption) (by assumption) (by assumption) (by assumption) (by assumption)).trans ((fr_Mesh_flipLink _ _ (by assumption) (by assumption) (by assumption) (by assumption) (by assumption) (by assumption) (by assumption)).trans (fr_Acts_remember _ _ (by assumption) (by assumption) (by assumption) (by assumption)))))
  · rw [if_neg f1]
    try dsimp only
    first | done | exact rfl
set_option maxHeartbeats 400000 in
set_option maxRecDepth 20000 in
theorem c_Slots_join (X : zXT) (h : zHp) (g : zLg) (i : Int32) (j : Int32) (hf0 : zfit h 41 0 13) (hf1 : zfit h 41 1 14) (hf2 : zfit h 42 0 14) (hf3 : zfit h 3 0 8) : zDi X M_Slots_join 6 [zR X 0, .int i, .int j] h g (zI ((o_Slots_join h i j).1)) ((o_Slots_join h i j).2) g := by
  have hf0_1 := hf0.1
  have hf1_1 := hf1.1
  have hf2_1 := hf2.1
  have hf3_1 := hf3.1
  refine zDi_of "PeriodSlots" prog_1_method_12_code 6 (some .int) rfl (by decide) [zO X 0, zI i, zI j, none, none, none] rfl (fun _ q => q) (Nat.le_of_ble_eq_true rfl) ?_
  intro Γ Q C hQ
  refine zr_aload_n C d_X6_join_0 rfl ?_
  refine gf_Slots_1 C m228 d_X6_join_1 ?_
  refine zr_iload_n C d_X6_join_4 rfl ?_
  refine zr_iload_n C d_X6_join_5 rfl ?_
  refine zr_callVi (As := [.int i, .int j]) (st := []) (c := 3) C (c_Mesh_pairError X h g 3 i j (by decide)) k_Mesh_pairError m485 m486 m487 (by decide) (zC_Mesh (by decide) X _ _) rfl rfl (by decide) rfl (Nat.le_of_ble_eq_true rfl) d_X6_join_6 ?_
  refine zr_istore_n C [zO X 0, zI i, zI j, zI (o_Mesh_pairError h 3 i j), none, none] d_X6_join_9 (Nat.le_of_ble_eq_true rfl) rfl rfl ?_
  refine zr_iload_n C d_X6_join_10 rfl ?_
  refine zr_if_eq C 16 d_X6_join_11 (by decide) (fun c11 => ?_) (fun c11 => ?_)
  · have ex1 := zpair c11
    have ex1_2 := ex1.1.2
    have ex1_3 := ex1.2.1.2
    have ex1_b := (hf3).1
    refine zr_aload_n C d_X6_join_16 rfl ?_
    refine gf_Slots_1 C m228 d_X6_join_17 ?_
    refine zr_iload_n C d_X6_join_20 rfl ?_
    refine zr_callVi (As := [.int i]) (st := []) (c := 3) C (c_Mesh_netOf X h g 3 i (by decide) hf3) k_Mesh_netOf m448 m436 m437 (by decide) (zC_Mesh (by decide) X _ _) rfl rfl (by decide) rfl (Nat.le_of_ble_eq_true rfl) d_X6_join_21 ?_
    refine zr_iload_n C d_X6_join_24 rfl ?_
    refine zr_callSi (As := [.int (o_Mesh_netOf h 3 i), .int j]) (st := []) C (c_Slots_has X h g (o_Mesh_netOf h 3 i) j) k_Slots_has m491 m322 rfl (by decide) rfl (Nat.le_of_ble_eq_true rfl) d_X6_join_25 ?_
    refine zr_ifz_eq C 34 d_X6_join_28 (by decide) (fun c28 => ?_) (fun c28 => ?_)
    · refine zr_aload_n C d_X6_join_34 rfl ?_
      refine gf_Slots_5 C m232 d_X6_join_35 ?_
      refine zr_aload_n C d_X6_join_38 rfl ?_
      refine gf_Slots_1 C m228 d_X6_join_39 ?_
      refine zr_callVv (As := [zR X 3]) (st := []) (c := 41) C (c_Acts_remember X h g 3 (by decide) hf0 hf1 hf2) k_Acts_remember m453 m454 m455 (by decide) (zC_Acts X _ _) rfl rfl (by decide) rfl (Nat.le_of_ble_eq_true rfl) d_X6_join_42 ?_
      refine zr_h (fun h2 eh2 => ?_)
      have hph2 : zfit h2 41 0 13 := by rw [← eh2]; exact pf_rem0 hf0
      have hph2_1 := hph2.1
      have hph2 : zfit h2 41 1 14 := by rw [← eh2]; exact pf_rem1 hf1
      have hph2_1 := hph2.1
      refine zr_aload_n C d_X6_join_45 rfl ?_
      refine gf_Slots_1 C m228 d_X6_join_46 ?_
      refine zr_iload_n C d_X6_join_49 rfl ?_
      refine zr_callVi (As := [.int i]) (st := []) (c := 3) C (c_Mesh_netOf X h2 g 3 i (by decide) (zfit_fr ((congrFun (congrFun eh2.symm _) _).trans (fr_Acts_remember _ _ (by omega) (by omega) (by omega) (by omega))) hf3)) k_Mesh_netOf m448 m436 m437 (by decide) (zC_Mesh (by decide) X _ _) rfl rfl (by decide) rfl (Nat.le_of_ble_eq_true rfl) d_X6_join_50 ?_
      refine zr_top (rd_Mesh_netOf (funext fun kk => ((congrFun (congrFun eh2.symm _) _).trans (fr_Acts_remember _ _ (by omega) (by omega) (by omega) (by omega)))) ((congrFun (congrFun eh2.symm _) _).trans (fr_Acts_remember _ _ (by omega) (by omega) (by omega) (by omega)))) ?_
      refine zr_aload_n C d_X6_join_53 rfl ?_
      refine gf_Slots_1 C m228 d_X6_join_54 ?_
      refine zr_iload_n C d_X6_join_57 rfl ?_
      refine zr_callVi (As := [.int j]) (st := [.int (o_Mesh_netOf h 3 i)]) (c := 3) C (c_Mesh_netOf X h2 g 3 j (by decide) (zfit_fr ((congrFun (congrFun eh2.symm _) _).trans (fr_Acts_remember _ _ (by omega) (by omega) (by omega) (by omega))) hf3)) k_Mesh_netOf m448 m436 m437 (by decide) (zC_Mesh (by decide) X _ _) rfl rfl (by decide) rfl (Nat.le_of_ble_eq_true rfl) d_X6_join_58 ?_
      refine zr_top (rd_Mesh_netOf (funext fun kk => ((congrFun (congrFun eh2.symm _) _).trans (fr_Acts_remember _ _ (by omega) (by omega) (by omega) (by omega)))) ((congrFun (congrFun eh2.symm _) _).trans (fr_Acts_remember _ _ (by omega) (by omega) (by omega) (by omega)))) ?_
      refine zr_callSi (As := [.int (o_Mesh_netOf h 3 i), .int (o_Mesh_netOf h 3 j)]) (st := []) C (c_Slots_netToMove X h2 g (o_Mesh_netOf h 3 i) (o_Mesh_netOf h 3 j)) k_Slots_netToMove m520 m521 rfl (by decide) rfl (Nat.le_of_ble_eq_true rfl) d_X6_join_61 ?_
      refine zr_istore C [zO X 0, zI i, zI j, zI (o_Mesh_pairError h 3 i j), zI (o_Slots_netToMove (o_Mesh_netOf h 3 i) (o_Mesh_netOf h 3 j)), none] d_X6_join_64 (Nat.le_of_ble_eq_true rfl) rfl rfl ?_
      refine zr_aload_n C d_X6_join_66 rfl ?_
      refine gf_Slots_1 C m228 d_X6_join_67 ?_
      refine zr_iload_n C d_X6_join_70 rfl ?_
      refine zr_iload_n C d_X6_join_71 rfl ?_
      refine zr_callVv (As := [.int i, .int j]) (st := []) (c := 3) C (c_Mesh_flipLink X h2 g 3 (zcn i) (zcn j) (zix ex1.1.1) (zix ex1.2.1.1) (by decide) (zfit_fr ((congrFun (congrFun eh2.symm _) _).trans (fr_Acts_remember _ _ (by omega) (by omega) (by omega) (by omega))) hf3) (by omega) (by omega)) k_Mesh_flipLink m490 m368 m369 (by decide) (zC_Mesh (by decide) X _ _) rfl rfl (by decide) rfl (Nat.le_of_ble_eq_true rfl) d_X6_join_72 ?_
      refine zr_h (fun h3 eh3 => ?_)
      refine zr_aload_n C d_X6_join_75 rfl ?_
      refine zr_iload C d_X6_join_76 rfl ?_
      refine zr_callVi (As := [.int (o_Slots_netToMove (o_Mesh_netOf h 3 i) (o_Mesh_netOf h 3 j))]) (st := []) (c := 0) C (c_Slots_bestDistance X h3 g (o_Slots_netToMove (o_Mesh_netOf h 3 i) (o_Mesh_netOf h 3 j)) (zfit_fr ((congrFun (congrFun eh3.symm _) _).trans ((fr_Mesh_flipLink _ _ (by omega) (by omega) (by omega) (by omega) (by omega) (by omega) (by omega)).trans ((congrFun (congrFun eh2.symm _) _).trans (fr_Acts_remember _ _ (by omega) (by omega) (by omega) (by omega))))) hf3)) k_Slots_bestDistance m524 m526 m9 (by decide) (zC_Slots X _ _) rfl rfl (by decide) rfl (Nat.le_of_ble_eq_true rfl) d_X6_join_78 ?_
      refine zr_vi (fun y4 ey4 => ?_)
      refine zr_h (fun h5 eh5 => ?_)
      refine zr_istore C [zO X 0, zI i, zI j, zI (o_Mesh_pairError h 3 i j), zI (o_Slots_netToMove (o_Mesh_netOf h 3 i) (o_Mesh_netOf h 3 j)), zI y4] d_X6_join_81 (Nat.le_of_ble_eq_true rfl) rfl rfl ?_
      refine zr_aload_n C d_X6_join_83 rfl ?_
      refine gf_Slots_1 C m228 d_X6_join_84 ?_
      refine zr_iload C d_X6_join_87 rfl ?_
      refine zr_iload C d_X6_join_89 rfl ?_
      refine zr_callVv (As := [.int (o_Slots_netToMove (o_Mesh_netOf h 3 i) (o_Mesh_netOf h 3 j)), .int y4]) (st := []) (c := 3) C (c_Mesh_moveAll X h5 g 3 (o_Slots_netToMove (o_Mesh_netOf h 3 i) (o_Mesh_netOf h 3 j)) y4 (by decide) (zfit_fr ((congrFun (congrFun eh5.symm _) _).trans ((fr_Slots_bestDistance _ _ (by omega) (by omega) (by omega) (by omega) (by omega) (by omega) (by omega) (by omega) (by omega) (by omega) (by omega) (by omega) (by omega) (by omega)).trans ((congrFun (congrFun eh3.symm _) _).trans ((fr_Mesh_flipLink _ _ (by omega) (by omega) (by omega) (by omega) (by omega) (by omega) (by omega)).trans ((congrFun (congrFun eh2.symm _) _).trans (fr_Acts_remember _ _ (by omega) (by omega) (by omega) (by omega))))))) hf3)) k_Mesh_moveAll m512 m513 m514 (by decide) (zC_Mesh (by decide) X _ _) rfl rfl (by decide) rfl (Nat.le_of_ble_eq_true rfl) d_X6_join_91 ?_
      refine zr_h (fun h6 eh6 => ?_)
      refine zr_iload C d_X6_join_94 rfl ?_
      have eR : o_Slots_join h i j = (y4, h6) := (by subst eh6 eh5 ey4 eh3 eh2; unfold o_Slots_join; rw [if_pos c11, if_neg (zbf c28)])
      subst hQ
      exact zTQ_Ih eR (zr_ireti C d_X6_join_96)
    · refine zr_bipush C (v := (-3)) d_X6_join_31 (by decide) ?_
      have eR : o_Slots_join h i j = ((-3), h) := (by unfold o_Slots_join; rw [if_pos c11, if_pos c28])
      subst hQ
      exact zTQ_Ih eR (zr_ireti C d_X6_join_33)
  · refine zr_iload_n C d_X6_join_14 rfl ?_
    have eR : o_Slots_join h i j = ((o_Mesh_pairError h 3 i j), h) := (by unfold o_Slots_join; rw [if_neg c11])
    subst hQ
    exact zTQ_Ih eR (zr_ireti C d_X6_join_15)
theorem d_X6_run_0 : decode prog_1_method_16_code 0 = .ok (.aload_n 0, 1) := by decide +kernel
theorem d_X6_run_1 : decode prog_1_method_16_code 1 = .ok (.getfield 39, 3) := by decide +kernel
theorem d_X6_run_4 : decode prog_1_method_16_code 4 = .ok (.aload_n 0, 1) := by decide +kernel
theorem d_X6_run_5 : decode prog_1_method_16_code 5 = .ok (.getfield 19, 3) := by decide +kernel
theorem d_X6_run_8 : decode prog_1_method_16_code 8 = .ok (.invokevirtual 153, 3) := by decide +kernel
theorem d_X6_run_11 : decode prog_1_method_16_code 11 = .ok (.aload_n 0, 1) := by decide +kernel
theorem d_X6_run_12 : decode prog_1_method_16_code 12 = .ok (.getfield 19, 3) := by decide +kernel
theorem d_X6_run_15 : decode prog_1_method_16_code 15 = .ok (.invokevirtual 200, 3) := by decide +kernel
theorem d_X6_run_18 : decode prog_1_method_16_code 18 = .ok (.istore_n 1, 1) := by decide +kernel
theorem d_X6_run_19 : decode prog_1_method_16_code 19 = .ok (.aload_n 0, 1) := by decide +kernel
theorem d_X6_run_20 : decode prog_1_method_16_code 20 = .ok (.getfield 19, 3) := by decide +kernel
theorem d_X6_run_23 : decode prog_1_method_16_code 23 = .ok (.invokevirtual 203, 3) := by decide +kernel
theorem d_X6_run_26 : decode prog_1_method_16_code 26 = .ok (.iload_n 1, 1) := by decide +kernel
theorem d_X6_run_27 : decode prog_1_method_16_code 27 = .ok (.ireturn, 1) := by decide +kernel
abbrev M_Slots_run : zMT := (⟨"PeriodSlots", "run", "()I"⟩, prog_1_method_16_code, 2, (some .int))
theorem k_Slots_run : zcall M_Slots_run 0 := ⟨zU_in (i := 535) (by decide +kernel) rfl, m54, ⟨by decide, by decide, by decide +kernel⟩, by decide⟩
def o_Slots_run (h : zHp) : Int32 × zHp :=
  (((o_Mesh_settle (o_Acts_remember h 3) 3).1), (o_Mesh_dropOlds ((o_Mesh_settle (o_Acts_remember h 3) 3).2) 3))
theorem fr_Slots_run {h : zHp} (c k : Nat) (q0 : ¬ (c = 41 ∧ k = 0)) (q1 : ¬ (c = 41 ∧ k = 1)) (q2 : c ≠ 43) (q3 : ¬ (c = 42 ∧ k = 1)) (q4 : ¬ (c = 3 ∧ k = 1)) (q5 : ¬ (c = 3 ∧ k = 2)) (q6 : c ≠ 6) (q7 : c ≠ 7) (q8 : c ≠ 10) (q9 : c ≠ 11) (q10 : c ≠ 12) (q11 : c ≠ 13) (q12 : c ≠ 14) : (o_Slots_run h).2 c k = h c k := by
  unfold o_Slots_run
  try dsimp only
  first | done | exact ((fr_Mesh_dropOlds _ _ (by assumption) (by assumption) (by assumption)).trans ((fr_Mesh_settle _ _ (by assumption) (by assumption) (by assumption) (by assumption) (by assumption) (by assumption) (by assumption) (by assumption) (by assumption)).trans (fr_Acts_remember _ _ (by assumption) (by assumption) (by assumption) (by assumption))))
set_option maxHeartbeats 400000 in
set_option maxRecDepth 20000 in
theorem c_Slots_run (X : zXT) (h : zHp) (g : zLg) (hf0 : zfit h 41 0 13) (hf1 : zfit h 41 1 14) (hf2 : zfit h 42 0 14) (hf3 : zfit h 3 0 8) : zDi X M_Slots_run 5 [zR X 0] h g (zI ((o_Slots_run h).1)) ((o_Slots_run h).2) g := by
  have hf0_1 := hf0.1
  have hf1_1 := hf1.1
  have hf2_1 := hf2.1
  have hf3_1 := hf3.1
  refine zDi_of "PeriodSlots" prog_1_method_16_code 2 (some .int) rfl (by decide) [zO X 0, none] rfl (fun _ q => q) (Nat.le_of_ble_eq_true rfl) ?_
  intro Γ Q C hQ
  refine zr_aload_n C d_X6_run_0 rfl ?_
  refine gf_Slots_5 C m232 d_X6_run_1 ?_
  refine zr_aload_n C d_X6_run_4 rfl ?_
  refine gf_Slots_1 C m228 d_X6_run_5 ?_
  refine zr_callVv (As := [zR X 3]) (st := []) (c := 41) C (c_Acts_remember X h g 3 (by decide) hf0 hf1 hf2) k_Acts_remember m453 m454 m455 (by decide) (zC_Acts X _ _) rfl rfl (by decide) rfl (Nat.le_of_ble_eq_true rfl) d_X6_run_8 ?_
  refine zr_h (fun h1 eh1 => ?_)
  have hph1 : zfit h1 41 0 13 := by rw [← eh1]; exact pf_rem0 hf0
  have hph1_1 := hph1.1
  have hph1 : zfit h1 41 1 14 := by rw [← eh1]; exact pf_rem1 hf1
  have hph1_1 := hph1.1
  refine zr_aload_n C d_X6_run_11 rfl ?_
  refine gf_Slots_1 C m228 d_X6_run_12 ?_
  refine zr_callVi (As := []) (st := []) (c := 3) C (c_Mesh_settle X h1 g 3 (by decide) (zfit_fr ((congrFun (congrFun eh1.symm _) _).trans (fr_Acts_remember _ _ (by omega) (by omega) (by omega) (by omega))) hf3)) k_Mesh_settle m536 m537 m538 (by decide) (zC_Mesh (by decide) X _ _) rfl rfl (by decide) rfl (Nat.le_of_ble_eq_true rfl) d_X6_run_15 ?_
  refine zr_vi (fun y2 ey2 => ?_)
  refine zr_h (fun h3 eh3 => ?_)
  refine zr_istore_n C [zO X 0, zI y2] d_X6_run_18 (Nat.le_of_ble_eq_true rfl) rfl rfl ?_
  refine zr_aload_n C d_X6_run_19 rfl ?_
  refine gf_Slots_1 C m228 d_X6_run_20 ?_
  refine zr_callVv (As := []) (st := []) (c := 3) C (c_Mesh_dropOlds X h3 g 3 (by decide) (zfit_fr ((congrFun (congrFun eh3.symm _) _).trans ((fr_Mesh_settle _ _ (by omega) (by omega) (by omega) (by omega) (by omega) (by omega) (by omega) (by omega) (by omega)).trans ((congrFun (congrFun eh1.symm _) _).trans (fr_Acts_remember _ _ (by omega) (by omega) (by omega) (by omega))))) hf3)) k_Mesh_dropOlds m543 m299 m300 (by decide) (zC_Mesh (by decide) X _ _) rfl rfl (by decide) rfl (Nat.le_of_ble_eq_true rfl) d_X6_run_23 ?_
  refine zr_h (fun h4 eh4 => ?_)
  refine zr_iload_n C d_X6_run_26 rfl ?_
  have eR : o_Slots_run h = (y2, h4) := (by subst eh4 eh3 ey2 eh1; unfold o_Slots_run; exact rfl)
  subst hQ
  exact zTQ_Ih eR (zr_ireti C d_X6_run_27)
theorem d_X6_undo_0 : decode prog_1_method_17_code 0 = .ok (.aload_n 0, 1) := by decide +kernel
theorem d_X6_undo_1 : decode prog_1_method_17_code 1 = .ok (.getfield 39, 3) := by decide +kernel
theorem d_X6_undo_4 : decode prog_1_method_17_code 4 = .ok (.getfield 114, 3) := by decide +kernel
theorem d_X6_undo_7 : decode prog_1_method_17_code 7 = .ok (.ifCond .ne 6, 3) := by decide +kernel
theorem d_X6_undo_10 : decode prog_1_method_17_code 10 = .ok (.bipush (-3), 2) := by decide +kernel
theorem d_X6_undo_12 : decode prog_1_method_17_code 12 = .ok (.ireturn, 1) := by decide +kernel
theorem d_X6_undo_13 : decode prog_1_method_17_code 13 = .ok (.aload_n 0, 1) := by decide +kernel
theorem d_X6_undo_14 : decode prog_1_method_17_code 14 = .ok (.getfield 39, 3) := by decide +kernel
theorem d_X6_undo_17 : decode prog_1_method_17_code 17 = .ok (.aload_n 0, 1) := by decide +kernel
theorem d_X6_undo_18 : decode prog_1_method_17_code 18 = .ok (.getfield 19, 3) := by decide +kernel
theorem d_X6_undo_21 : decode prog_1_method_17_code 21 = .ok (.invokevirtual 206, 3) := by decide +kernel
theorem d_X6_undo_24 : decode prog_1_method_17_code 24 = .ok (.aload_n 0, 1) := by decide +kernel
theorem d_X6_undo_25 : decode prog_1_method_17_code 25 = .ok (.getfield 39, 3) := by decide +kernel
theorem d_X6_undo_28 : decode prog_1_method_17_code 28 = .ok (.getfield 114, 3) := by decide +kernel
theorem d_X6_undo_31 : decode prog_1_method_17_code 31 = .ok (.ireturn, 1) := by decide +kernel
abbrev M_Slots_undo : zMT := (⟨"PeriodSlots", "undo", "()I"⟩, prog_1_method_17_code, 1, (some .int))
theorem k_Slots_undo : zcall M_Slots_undo 0 := ⟨zU_in (i := 547) (by decide +kernel) rfl, m54, ⟨by decide, by decide, by decide +kernel⟩, by decide⟩
def o_Slots_undo (h : zHp) : Int32 × zHp :=
  (if (h 41 1) = 0 then ((-3), h) else (((o_Acts_takeBack h 3) 41 1), (o_Acts_takeBack h 3)))
theorem fr_Slots_undo {h : zHp} (c k : Nat) (q0 : ¬ (c = 41 ∧ k = 0)) (q1 : ¬ (c = 41 ∧ k = 1)) (q2 : ¬ (c = 3 ∧ k = 1)) (q3 : c ≠ 5) (q4 : c ≠ 6) (q5 : c ≠ 7) (q6 : c ≠ 9) (q7 : c ≠ 10) (q8 : c ≠ 11) (q9 : c ≠ 12) (q10 : c ≠ 13) : (o_Slots_undo h).2 c k = h c k := by
  unfold o_Slots_undo
  by_cases f1 : (h 41 1) = 0
  · rw [if_pos f1]
    try dsimp only
    first | done | exact rfl
  · rw [if_neg f1]
    try dsimp only
    first | done | exact (fr_Acts_takeBack _ _ (by assumption) (by assumption) (by assumption) (by assumption) (by assumption) (by assumption) (by assumption) (by assumption) (by assumption) (by assumption) (by assumption))
set_option maxHeartbeats 400000 in
set_option maxRecDepth 20000 in
theorem c_Slots_undo (X : zXT) (h : zHp) (g : zLg) (hf0 : zfit h 41 0 13) (hf1 : zfit h 41 1 14) (hf2 : zfit h 42 0 14) (hf3 : zfit h 3 0 8) : zDi X M_Slots_undo 5 [zR X 0] h g (zI ((o_Slots_undo h).1)) ((o_Slots_undo h).2) g := by
  have hf0_1 := hf0.1
  have hf1_1 := hf1.1
  have hf2_1 := hf2.1
  have hf3_1 := hf3.1
  refine zDi_of "PeriodSlots" prog_1_method_17_code 1 (some .int) rfl (by decide) [zO X 0] rfl (fun _ q => q) (Nat.le_of_ble_eq_true rfl) ?_
  intro Γ Q C hQ
  refine zr_aload_n C d_X6_undo_0 rfl ?_
  refine gf_Slots_5 C m232 d_X6_undo_1 ?_
  refine gf_Acts_2 C m197 d_X6_undo_4 ?_
  refine zr_if_ne C 13 d_X6_undo_7 (by decide) (fun c7 => ?_) (fun c7 => ?_)
  · have en1 := zn_ne (a := zcn (h 41 1)) (b := 0) hf1.2 rfl c7 (zcn_small _) (by decide)
    refine zr_aload_n C d_X6_undo_13 rfl ?_
    refine gf_Slots_5 C m232 d_X6_undo_14 ?_
    refine zr_aload_n C d_X6_undo_17 rfl ?_
    refine gf_Slots_1 C m228 d_X6_undo_18 ?_
    refine zr_callVv (As := [zR X 3]) (st := []) (c := 41) C (c_Acts_takeBack X h g 3 (by decide) hf0 hf1 hf2 hf3) k_Acts_takeBack m548 m549 m550 (by decide) (zC_Acts X _ _) rfl rfl (by decide) rfl (Nat.le_of_ble_eq_true rfl) d_X6_undo_21 ?_
    refine zr_h (fun h2 eh2 => ?_)
    refine zr_aload_n C d_X6_undo_24 rfl ?_
    refine gf_Slots_5 C m232 d_X6_undo_25 ?_
    refine gf_Acts_2 C m197 d_X6_undo_28 ?_
    have eR : o_Slots_undo h = ((h2 41 1), h2) := (by subst eh2; unfold o_Slots_undo; rw [if_neg c7])
    subst hQ
    exact zTQ_Ih eR (zr_ireti C d_X6_undo_31)
  · have en3 := zn_nne (a := zcn (h 41 1)) (b := 0) hf1.2 rfl c7 (zcn_small _) (by decide)
    refine zr_bipush C (v := (-3)) d_X6_undo_10 (by decide) ?_
    have eR : o_Slots_undo h = ((-3), h) := (by unfold o_Slots_undo; rw [if_pos c7])
    subst hQ
    exact zTQ_Ih eR (zr_ireti C d_X6_undo_12)
theorem d_X6_ahead_0 : decode prog_1_method_18_code 0 = .ok (.iload_n 1, 1) := by decide +kernel
theorem d_X6_ahead_1 : decode prog_1_method_18_code 1 = .ok (.ifCond .lt 8, 3) := by decide +kernel
theorem d_X6_ahead_4 : decode prog_1_method_18_code 4 = .ok (.iload_n 1, 1) := by decide +kernel
theorem d_X6_ahead_5 : decode prog_1_method_18_code 5 = .ok (.iconst 3, 1) := by decide +kernel
theorem d_X6_ahead_6 : decode prog_1_method_18_code 6 = .ok (.if_icmp .le 6, 3) := by decide +kernel
theorem d_X6_ahead_9 : decode prog_1_method_18_code 9 = .ok (.bipush (-2), 2) := by decide +kernel
theorem d_X6_ahead_11 : decode prog_1_method_18_code 11 = .ok (.ireturn, 1) := by decide +kernel
theorem d_X6_ahead_12 : decode prog_1_method_18_code 12 = .ok (.aload_n 0, 1) := by decide +kernel
theorem d_X6_ahead_13 : decode prog_1_method_18_code 13 = .ok (.getfield 26, 3) := by decide +kernel
theorem d_X6_ahead_16 : decode prog_1_method_18_code 16 = .ok (.aload_n 0, 1) := by decide +kernel
theorem d_X6_ahead_17 : decode prog_1_method_18_code 17 = .ok (.getfield 19, 3) := by decide +kernel
theorem d_X6_ahead_20 : decode prog_1_method_18_code 20 = .ok (.invokevirtual 78, 3) := by decide +kernel
theorem d_X6_ahead_23 : decode prog_1_method_18_code 23 = .ok (.aload_n 0, 1) := by decide +kernel
theorem d_X6_ahead_24 : decode prog_1_method_18_code 24 = .ok (.getfield 26, 3) := by decide +kernel
theorem d_X6_ahead_27 : decode prog_1_method_18_code 27 = .ok (.invokevirtual 200, 3) := by decide +kernel
theorem d_X6_ahead_30 : decode prog_1_method_18_code 30 = .ok (.istore_n 2, 1) := by decide +kernel
theorem d_X6_ahead_31 : decode prog_1_method_18_code 31 = .ok (.iload_n 2, 1) := by decide +kernel
theorem d_X6_ahead_32 : decode prog_1_method_18_code 32 = .ok (.bipush (-9), 2) := by decide +kernel
theorem d_X6_ahead_34 : decode prog_1_method_18_code 34 = .ok (.if_icmp .ne 6, 3) := by decide +kernel
theorem d_X6_ahead_37 : decode prog_1_method_18_code 37 = .ok (.bipush (-9), 2) := by decide +kernel
theorem d_X6_ahead_39 : decode prog_1_method_18_code 39 = .ok (.ireturn, 1) := by decide +kernel
theorem d_X6_ahead_40 : decode prog_1_method_18_code 40 = .ok (.iload_n 1, 1) := by decide +kernel
theorem d_X6_ahead_41 : decode prog_1_method_18_code 41 = .ok (.tableswitch 49 0 2 #[27, 29, 37], 27) := by decide +kernel
theorem d_X6_ahead_68 : decode prog_1_method_18_code 68 = .ok (.iload_n 2, 1) := by decide +kernel
theorem d_X6_ahead_69 : decode prog_1_method_18_code 69 = .ok (.ireturn, 1) := by decide +kernel
theorem d_X6_ahead_70 : decode prog_1_method_18_code 70 = .ok (.aload_n 0, 1) := by decide +kernel
theorem d_X6_ahead_71 : decode prog_1_method_18_code 71 = .ok (.getfield 26, 3) := by decide +kernel
theorem d_X6_ahead_74 : decode prog_1_method_18_code 74 = .ok (.invokevirtual 104, 3) := by decide +kernel
theorem d_X6_ahead_77 : decode prog_1_method_18_code 77 = .ok (.ireturn, 1) := by decide +kernel
theorem d_X6_ahead_78 : decode prog_1_method_18_code 78 = .ok (.aload_n 0, 1) := by decide +kernel
theorem d_X6_ahead_79 : decode prog_1_method_18_code 79 = .ok (.getfield 26, 3) := by decide +kernel
theorem d_X6_ahead_82 : decode prog_1_method_18_code 82 = .ok (.aload_n 0, 1) := by decide +kernel
theorem d_X6_ahead_83 : decode prog_1_method_18_code 83 = .ok (.getfield 19, 3) := by decide +kernel
theorem d_X6_ahead_86 : decode prog_1_method_18_code 86 = .ok (.invokevirtual 209, 3) := by decide +kernel
theorem d_X6_ahead_89 : decode prog_1_method_18_code 89 = .ok (.ireturn, 1) := by decide +kernel
theorem d_X6_ahead_90 : decode prog_1_method_18_code 90 = .ok (.aload_n 0, 1) := by decide +kernel
theorem d_X6_ahead_91 : decode prog_1_method_18_code 91 = .ok (.getfield 26, 3) := by decide +kernel
theorem d_X6_ahead_94 : decode prog_1_method_18_code 94 = .ok (.getfield 212, 3) := by decide +kernel
theorem d_X6_ahead_97 : decode prog_1_method_18_code 97 = .ok (.ireturn, 1) := by decide +kernel
abbrev M_Slots_ahead : zMT := (⟨"PeriodSlots", "ahead", "(I)I"⟩, prog_1_method_18_code, 3, (some .int))
theorem k_Slots_ahead : zcall M_Slots_ahead 1 := ⟨zU_in (i := 567) (by decide +kernel) rfl, m54, ⟨by decide, by decide, by decide +kernel⟩, by decide⟩
def o_Slots_ahead (h : zHp) (what : Int32) : Int32 × zHp :=
  (if what < 0 then ((-2), h) else (if what ≤ 3 then (if ((o_Mesh_settle (o_Mesh_copyFrom h 27 3) 27).1) = (-9) then ((-9), ((o_Mesh_settle (o_Mesh_copyFrom h 27 3) 27).2)) else (if what = 0 then (((o_Mesh_settle (o_Mesh_copyFrom h 27 3) 27).1), ((o_Mesh_settle (o_Mesh_copyFrom h 27 3) 27).2)) else (if what = 1 then ((o_Mesh_placedSet ((o_Mesh_settle (o_Mesh_copyFrom h 27 3) 27).2) 27), ((o_Mesh_settle (o_Mesh_copyFrom h 27 3) 27).2)) else (if what = 2 then ((o_Mesh_differenceTo ((o_Mesh_settle (o_Mesh_copyFrom h 27 3) 27).2) 27 3), ((o_Mesh_settle (o_Mesh_copyFrom h 27 3) 27).2)) else ((((o_Mesh_settle (o_Mesh_copyFrom h 27 3) 27).2) 27 2), ((o_Mesh_settle (o_Mesh_copyFrom h 27 3) 27).2)))))) else ((-2), h)))
theorem fr_Slots_ahead {h : zHp} {what : Int32} (c k : Nat) (q0 : ¬ (c = 27 ∧ k = 0)) (q1 : ¬ (c = 27 ∧ k = 1)) (q2 : ¬ (c = 27 ∧ k = 2)) (q3 : c ≠ 28) (q4 : c ≠ 29) (q5 : c ≠ 30) (q6 : c ≠ 31) (q7 : c ≠ 32) (q8 : c ≠ 33) (q9 : c ≠ 34) (q10 : c ≠ 35) (q11 : c ≠ 36) (q12 : c ≠ 37) (q13 : c ≠ 38) : (o_Slots_ahead h what).2 c k = h c k := by
  unfold o_Slots_ahead
  by_cases f1 : what < 0
  · rw [if_pos f1]
    try dsimp only
    first | done | exact rfl
  · rw [if_neg f1]
    by_cases f2 : what ≤ 3
    · rw [if_pos f2]
      by_cases f3 : ((o_Mesh_settle (o_Mesh_copyFrom h 27 3) 27).1) = (-9)
      · rw [if_pos f3]
        try dsimp only
        first | done | exact ((fr_Mesh_settle _ _ (by assumption) (by assumption) (by assumption) (by assumption) (by assumption) (by assumption) (by assumption) (by assumption) (by assumption)).trans (fr_Mesh_copyFrom _ _ (by assumption) (by assumption) (by assumption) (by assumption) (by assumption) (by assumption) (by assumption) (by assumption) (by assumption) (by assumption) (by assumption) (by assumption)))
      · rw [if_neg f3]
        by_cases f4 : what = 0
        · rw [if_pos f4]
          try dsimp only
          first | done | exact ((fr_Mesh_settle _ _ (by assumption) (by assumption) (by assumption) (by assumption) (by assumption) (by assumption) (by assumption) (by assumption) (by assumption)).trans (fr_Mesh_copyFrom _ _ (by assumption) (by assumption) (by assumption) (by assumption) (by assumption) (by assumption) (by assumption) (by assumption) (by assumption) (by assumption) (by assumption) (by assumption)))
        · rw [if_neg f4]
          by_cases f5 : what = 1
          · rw [if_pos f5]
            try dsimp only
            first | done | exact ((fr_Mesh_settle _ _ (by assumption) (by assumption) (by assumption) (by assumption) (by assumption) (by assumption) (by assumption) (by assumption) (by assumption)).trans (fr_Mesh_copyFrom _ _ (by assumption) (by assumption) (by assumption) (by assumption) (by assumption) (by assumption) (by assumption) (by assumption) (by assumption) (by assumption) (by assumption) (by assumption)))
          · rw [if_neg f5]
            by_cases f6 : what = 2
            · rw [if_pos f6]
              try dsimp only
              first | done | exact ((fr_Mesh_settle _ _ (by assumption) (by assumption) (by assumption) (by assumption) (by assumption) (by assumption) (by assumption) (by assumption) (by assumption)).trans (fr_Mesh_copyFrom _ _ (by assumption) (by assumption) (by assumption) (by assumption) (by assumption) (by assumption) (by assumption) (by assumption) (by assumption) (by assumption) (by assumption) (by assumption)))
            · rw [if_neg f6]
              try dsimp only
              first | done | exact ((fr_Mesh_settle _ _ (by assumption) (by assumption) (by assumption) (by assumption) (by assumption) (by assumption) (by assumption) (by assumption) (by assumption)).trans (fr_Mesh_copyFrom _ _ (by assumption) (by assumption) (by assumption) (by assumption) (by assumption) (by assumption) (by assumption) (by assumption) (by assumption) (by assumption) (by assumption) (by assumption)))
    · rw [if_neg f2]
      try dsimp only
      first | done | exact rfl
set_option maxHeartbeats 400000 in
set_option maxRecDepth 20000 in
theorem c_Slots_ahead (X : zXT) (h : zHp) (g : zLg) (what : Int32) (hf0 : zfit h 3 0 8) : zDi X M_Slots_ahead 5 [zR X 0, .int what] h g (zI ((o_Slots_ahead h what).1)) ((o_Slots_ahead h what).2) g := by
  have hf0_1 := hf0.1
  refine zDi_of "PeriodSlots" prog_1_method_18_code 3 (some .int) rfl (by decide) [zO X 0, zI what, none] rfl (fun _ q => q) (Nat.le_of_ble_eq_true rfl) ?_
  intro Γ Q C hQ
  refine zr_iload_n C d_X6_ahead_0 rfl ?_
  refine zr_if_lt C 9 d_X6_ahead_1 (by decide) (fun c1 => ?_) (fun c1 => ?_)
  · refine zr_bipush C (v := (-2)) d_X6_ahead_9 (by decide) ?_
    have eR : o_Slots_ahead h what = ((-2), h) := (by unfold o_Slots_ahead; rw [if_pos c1])
    subst hQ
    exact zTQ_Ih eR (zr_ireti C d_X6_ahead_11)
  · refine zr_iload_n C d_X6_ahead_4 rfl ?_
    refine zr_iconst C (v := 3) d_X6_ahead_5 (by decide) ?_
    refine zr_icmp_le C 12 d_X6_ahead_6 (by decide) (fun c6 => ?_) (fun c6 => ?_)
    · have en1 := zn_le (a := zcn what) (b := 3) (zix c1) rfl c6 (zcn_small _) (by decide)
      refine zr_aload_n C d_X6_ahead_12 rfl ?_
      refine gf_Slots_3 C m230 d_X6_ahead_13 ?_
      refine zr_aload_n C d_X6_ahead_16 rfl ?_
      refine gf_Slots_1 C m228 d_X6_ahead_17 ?_
      refine zr_callVv (As := [zR X 3]) (st := []) (c := 27) C (c_Mesh_copyFrom X h g 27 3 (by decide) (by decide)) k_Mesh_copyFrom m375 m376 m377 (by decide) (zC_Mesh (by decide) X _ _) rfl rfl (by decide) rfl (Nat.le_of_ble_eq_true rfl) d_X6_ahead_20 ?_
      refine zr_h (fun h2 eh2 => ?_)
      have hph2 : zfit h2 27 0 8 := by rw [← eh2]; exact pf_copyFrom hf0
      have hph2_1 := hph2.1
      refine zr_aload_n C d_X6_ahead_23 rfl ?_
      refine gf_Slots_3 C m230 d_X6_ahead_24 ?_
      refine zr_callVi (As := []) (st := []) (c := 27) C (c_Mesh_settle X h2 g 27 (by decide) hph2) k_Mesh_settle m536 m537 m538 (by decide) (zC_Mesh (by decide) X _ _) rfl rfl (by decide) rfl (Nat.le_of_ble_eq_true rfl) d_X6_ahead_27 ?_
      refine zr_vi (fun y3 ey3 => ?_)
      refine zr_h (fun h4 eh4 => ?_)
      refine zr_istore_n C [zO X 0, zI what, zI y3] d_X6_ahead_30 (Nat.le_of_ble_eq_true rfl) rfl rfl ?_
      refine zr_iload_n C d_X6_ahead_31 rfl ?_
      refine zr_bipush C (v := (-9)) d_X6_ahead_32 (by decide) ?_
      refine zr_icmp_ne C 40 d_X6_ahead_34 (by decide) (fun c34 => ?_) (fun c34 => ?_)
      · refine zr_iload_n C d_X6_ahead_40 rfl ?_
        by_cases c41_0 : what = 0
        · refine zr_tabIn C 68 (off := 27) d_X6_ahead_41 (by rw [c41_0]; decide) (by rw [c41_0]; decide) (by rw [c41_0]; rfl) (by decide) ?_
          refine zr_iload_n C d_X6_ahead_68 rfl ?_
          have eR : o_Slots_ahead h what = (y3, h4) := (by subst eh4 ey3 eh2; unfold o_Slots_ahead; rw [if_neg c1, if_pos c6, if_neg c34, if_pos c41_0])
          subst hQ
          exact zTQ_Ih eR (zr_ireti C d_X6_ahead_69)
        · by_cases c41_1 : what = 1
          · refine zr_tabIn C 70 (off := 29) d_X6_ahead_41 (by rw [c41_1]; decide) (by rw [c41_1]; decide) (by rw [c41_1]; rfl) (by decide) ?_
            refine zr_aload_n C d_X6_ahead_70 rfl ?_
            refine gf_Slots_3 C m230 d_X6_ahead_71 ?_
            refine zr_callVi (As := []) (st := []) (c := 27) C (c_Mesh_placedSet X h4 g 27 (by decide) (zfit_fr ((congrFun (congrFun eh4.symm _) _).trans (fr_Mesh_settle _ _ (by omega) (by omega) (by omega) (by omega) (by omega) (by omega) (by omega) (by omega) (by omega))) hph2)) k_Mesh_placedSet m410 m411 m412 (by decide) (zC_Mesh (by decide) X _ _) rfl rfl (by decide) rfl (Nat.le_of_ble_eq_true rfl) d_X6_ahead_74 ?_
            have eR : o_Slots_ahead h what = ((o_Mesh_placedSet h4 27), h4) := (by subst eh4 ey3 eh2; unfold o_Slots_ahead; rw [if_neg c1, if_pos c6, if_neg c34, if_neg c41_0, if_pos c41_1])
            subst hQ
            exact zTQ_Ih eR (zr_ireti C d_X6_ahead_77)
          · by_cases c41_2 : what = 2
            · refine zr_tabIn C 78 (off := 37) d_X6_ahead_41 (by rw [c41_2]; decide) (by rw [c41_2]; decide) (by rw [c41_2]; rfl) (by decide) ?_
              refine zr_aload_n C d_X6_ahead_78 rfl ?_
              refine gf_Slots_3 C m230 d_X6_ahead_79 ?_
              refine zr_aload_n C d_X6_ahead_82 rfl ?_
              refine gf_Slots_1 C m228 d_X6_ahead_83 ?_
              refine zr_callVi (As := [zR X 3]) (st := []) (c := 27) C (c_Mesh_differenceTo X h4 g 27 3 (by decide) (by decide) (zfit_fr ((congrFun (congrFun eh4.symm _) _).trans (fr_Mesh_settle _ _ (by omega) (by omega) (by omega) (by omega) (by omega) (by omega) (by omega) (by omega) (by omega))) hph2)) k_Mesh_differenceTo m568 m569 m570 (by decide) (zC_Mesh (by decide) X _ _) rfl rfl (by decide) rfl (Nat.le_of_ble_eq_true rfl) d_X6_ahead_86 ?_
              have eR : o_Slots_ahead h what = ((o_Mesh_differenceTo h4 27 3), h4) := (by subst eh4 ey3 eh2; unfold o_Slots_ahead; rw [if_neg c1, if_pos c6, if_neg c34, if_neg c41_0, if_neg c41_1, if_pos c41_2])
              subst hQ
              exact zTQ_Ih eR (zr_ireti C d_X6_ahead_89)
            · have w41_0 : (what : Int32).toInt ≠ 0 := zne_toInt c41_0 (by decide)
              have w41_1 : (what : Int32).toInt ≠ 1 := zne_toInt c41_1 (by decide)
              have w41_2 : (what : Int32).toInt ≠ 2 := zne_toInt c41_2 (by decide)
              refine zr_tabOut C 90 d_X6_ahead_41 (by omega) (by decide) ?_
              refine zr_aload_n C d_X6_ahead_90 rfl ?_
              refine gf_Slots_3 C m230 d_X6_ahead_91 ?_
              refine gf_Mesh_2 C (by decide) m102 d_X6_ahead_94 ?_
              have eR : o_Slots_ahead h what = ((h4 27 2), h4) := (by subst eh4 ey3 eh2; unfold o_Slots_ahead; rw [if_neg c1, if_pos c6, if_neg c34, if_neg c41_0, if_neg c41_1, if_neg c41_2])
              subst hQ
              exact zTQ_Ih eR (zr_ireti C d_X6_ahead_97)
      · refine zr_bipush C (v := (-9)) d_X6_ahead_37 (by decide) ?_
        have eR : o_Slots_ahead h what = ((-9), h4) := (by subst eh4 ey3 eh2; unfold o_Slots_ahead; rw [if_neg c1, if_pos c6, if_pos c34])
        subst hQ
        exact zTQ_Ih eR (zr_ireti C d_X6_ahead_39)
    · have en5 := zn_nle (a := zcn what) (b := 3) (zix c1) rfl c6 (zcn_small _) (by decide)
      refine zr_bipush C (v := (-2)) d_X6_ahead_9 (by decide) ?_
      have eR : o_Slots_ahead h what = ((-2), h) := (by unfold o_Slots_ahead; rw [if_neg c1, if_neg c6])
      subst hQ
      exact zTQ_Ih eR (zr_ireti C d_X6_ahead_11)
theorem d_X6_plan_0 : decode prog_1_method_19_code 0 = .ok (.iload_n 1, 1) := by decide +kernel
theorem d_X6_plan_1 : decode prog_1_method_19_code 1 = .ok (.iconst (-1), 1) := by decide +kernel
theorem d_X6_plan_2 : decode prog_1_method_19_code 2 = .ok (.if_icmp .eq 16, 3) := by decide +kernel
theorem d_X6_plan_5 : decode prog_1_method_19_code 5 = .ok (.aload_n 0, 1) := by decide +kernel
theorem d_X6_plan_6 : decode prog_1_method_19_code 6 = .ok (.getfield 19, 3) := by decide +kernel
theorem d_X6_plan_9 : decode prog_1_method_19_code 9 = .ok (.iload_n 1, 1) := by decide +kernel
theorem d_X6_plan_10 : decode prog_1_method_19_code 10 = .ok (.invokevirtual 118, 3) := by decide +kernel
theorem d_X6_plan_13 : decode prog_1_method_19_code 13 = .ok (.ifCond .ne 5, 3) := by decide +kernel
theorem d_X6_plan_16 : decode prog_1_method_19_code 16 = .ok (.iconst (-1), 1) := by decide +kernel
theorem d_X6_plan_17 : decode prog_1_method_19_code 17 = .ok (.ireturn, 1) := by decide +kernel
theorem d_X6_plan_18 : decode prog_1_method_19_code 18 = .ok (.aload_n 0, 1) := by decide +kernel
theorem d_X6_plan_19 : decode prog_1_method_19_code 19 = .ok (.getfield 32, 3) := by decide +kernel
theorem d_X6_plan_22 : decode prog_1_method_19_code 22 = .ok (.aload_n 0, 1) := by decide +kernel
theorem d_X6_plan_23 : decode prog_1_method_19_code 23 = .ok (.getfield 19, 3) := by decide +kernel
theorem d_X6_plan_26 : decode prog_1_method_19_code 26 = .ok (.invokevirtual 215, 3) := by decide +kernel
theorem d_X6_plan_29 : decode prog_1_method_19_code 29 = .ok (.istore_n 2, 1) := by decide +kernel
theorem d_X6_plan_30 : decode prog_1_method_19_code 30 = .ok (.iload_n 1, 1) := by decide +kernel
theorem d_X6_plan_31 : decode prog_1_method_19_code 31 = .ok (.iconst (-1), 1) := by decide +kernel
theorem d_X6_plan_32 : decode prog_1_method_19_code 32 = .ok (.if_icmp .ne 13, 3) := by decide +kernel
theorem d_X6_plan_35 : decode prog_1_method_19_code 35 = .ok (.iload_n 2, 1) := by decide +kernel
theorem d_X6_plan_36 : decode prog_1_method_19_code 36 = .ok (.ifCond .eq 7, 3) := by decide +kernel
theorem d_X6_plan_39 : decode prog_1_method_19_code 39 = .ok (.iconst 1, 1) := by decide +kernel
theorem d_X6_plan_40 : decode prog_1_method_19_code 40 = .ok (.goto 4, 3) := by decide +kernel
theorem d_X6_plan_43 : decode prog_1_method_19_code 43 = .ok (.iconst 0, 1) := by decide +kernel
theorem d_X6_plan_44 : decode prog_1_method_19_code 44 = .ok (.ireturn, 1) := by decide +kernel
theorem d_X6_plan_45 : decode prog_1_method_19_code 45 = .ok (.iload_n 2, 1) := by decide +kernel
theorem d_X6_plan_46 : decode prog_1_method_19_code 46 = .ok (.ifCond .eq 15, 3) := by decide +kernel
theorem d_X6_plan_49 : decode prog_1_method_19_code 49 = .ok (.aload_n 0, 1) := by decide +kernel
theorem d_X6_plan_50 : decode prog_1_method_19_code 50 = .ok (.getfield 32, 3) := by decide +kernel
theorem d_X6_plan_53 : decode prog_1_method_19_code 53 = .ok (.getfield 219, 3) := by decide +kernel
theorem d_X6_plan_56 : decode prog_1_method_19_code 56 = .ok (.iload_n 1, 1) := by decide +kernel
theorem d_X6_plan_57 : decode prog_1_method_19_code 57 = .ok (.iaload, 1) := by decide +kernel
theorem d_X6_plan_58 : decode prog_1_method_19_code 58 = .ok (.goto 5, 3) := by decide +kernel
theorem d_X6_plan_61 : decode prog_1_method_19_code 61 = .ok (.bipush (-9), 2) := by decide +kernel
theorem d_X6_plan_63 : decode prog_1_method_19_code 63 = .ok (.ireturn, 1) := by decide +kernel
abbrev M_Slots_plan : zMT := (⟨"PeriodSlots", "plan", "(I)I"⟩, prog_1_method_19_code, 3, (some .int))
theorem k_Slots_plan : zcall M_Slots_plan 1 := ⟨zU_in (i := 575) (by decide +kernel) rfl, m54, ⟨by decide, by decide, by decide +kernel⟩, by decide⟩
def o_Slots_plan (h : zHp) (station : Int32) : Int32 × zHp :=
  (if station = (-1) then ((zb ((o_Planner_succeeds h 3).1)), ((o_Planner_succeeds h 3).2)) else (if (o_Mesh_exists h 3 station) = true then ((if ((o_Planner_succeeds h 3).1) = true then (((o_Planner_succeeds h 3).2) 40 (zcn station)) else (-9)), ((o_Planner_succeeds h 3).2)) else ((-1), h)))
theorem fr_Slots_plan {h : zHp} {station : Int32} (c k : Nat) (q0 : c ≠ 40) : (o_Slots_plan h station).2 c k = h c k := by
  unfold o_Slots_plan
  by_cases f1 : station = (-1)
  · rw [if_pos f1]
    try dsimp only
    first | done | exact (fr_Planner_succeeds _ _ (by assumption))
  · rw [if_neg f1]
    by_cases f2 : (o_Mesh_exists h 3 station) = true
    · rw [if_pos f2]
      try dsimp only
      first | done | exact (fr_Planner_succeeds _ _ (by assumption))
    · rw [if_neg f2]
      try dsimp only
      first | done | exact rfl
set_option maxHeartbeats 400000 in
set_option maxRecDepth 20000 in
theorem c_Slots_plan (X : zXT) (h : zHp) (g : zLg) (station : Int32) (hf0 : zfit h 3 0 8) : zDi X M_Slots_plan 16 [zR X 0, .int station] h g (zI ((o_Slots_plan h station).1)) ((o_Slots_plan h station).2) g := by
  have hf0_1 := hf0.1
  refine zDi_of "PeriodSlots" prog_1_method_19_code 3 (some .int) rfl (by decide) [zO X 0, zI station, none] rfl (fun _ q => q) (Nat.le_of_ble_eq_true rfl) ?_
  intro Γ Q C hQ
  refine zr_iload_n C d_X6_plan_0 rfl ?_
  refine zr_iconst C (v := (-1)) d_X6_plan_1 (by decide) ?_
  refine zr_icmp_eq C 18 d_X6_plan_2 (by decide) (fun c2 => ?_) (fun c2 => ?_)
  · refine zr_aload_n C d_X6_plan_18 rfl ?_
    refine gf_Slots_4 C m231 d_X6_plan_19 ?_
    refine zr_aload_n C d_X6_plan_22 rfl ?_
    refine gf_Slots_1 C m228 d_X6_plan_23 ?_
    refine zr_callVi (As := [zR X 3]) (st := []) (c := 39) C (c_Planner_succeeds X h g 3 (by decide) hf0) k_Planner_succeeds m576 m577 m578 (by decide) (zC_Planner X _ _) rfl rfl (by decide) rfl (Nat.le_of_ble_eq_true rfl) d_X6_plan_26 ?_
    refine zr_vz (fun y1 ey1 => ?_)
    refine zr_h (fun h2 eh2 => ?_)
    refine zr_istore_n C [zO X 0, zI station, zI (zb y1)] d_X6_plan_29 (Nat.le_of_ble_eq_true rfl) rfl rfl ?_
    refine zr_iload_n C d_X6_plan_30 rfl ?_
    refine zr_iconst C (v := (-1)) d_X6_plan_31 (by decide) ?_
    refine zr_icmp_ne C 45 d_X6_plan_32 (by decide) (fun c => absurd c2 c) (fun _ => ?_)
    refine zr_iload_n C d_X6_plan_35 rfl ?_
    suffices hJ36 : ∀ (y3 : Bool), y1 = y3 → zV X Γ Q 44 [none, none, none] [.int (zb y3)] h2 g by
      refine zr_ifz_eq C 43 d_X6_plan_36 (by decide) (fun c36 => ?_) (fun c36 => ?_)
      · refine zr_iconst C (v := 0) d_X6_plan_43 (by decide) ?_
        refine zr_lv [none, none, none] (by simp [zle]) ?_
        exact hJ36 false (by simp [c36])
      · refine zr_iconst C (v := 1) d_X6_plan_39 (by decide) ?_
        refine zr_goto C 44 d_X6_plan_40 (by decide) ?_
        refine zr_lv [none, none, none] (by simp [zle]) ?_
        exact hJ36 true (by simp [c36])
    intro y3 ey3
    have eR : o_Slots_plan h station = ((zb y3), h2) := (by subst ey3 eh2 ey1; unfold o_Slots_plan; rw [if_pos c2])
    subst hQ
    exact zTQ_Ih eR (zr_ireti C d_X6_plan_44)
  · refine zr_aload_n C d_X6_plan_5 rfl ?_
    refine gf_Slots_1 C m228 d_X6_plan_6 ?_
    refine zr_iload_n C d_X6_plan_9 rfl ?_
    refine zr_callVi (As := [.int station]) (st := []) (c := 3) C (c_Mesh_exists X h g 3 station (by decide)) k_Mesh_exists m446 m359 m360 (by decide) (zC_Mesh (by decide) X _ _) rfl rfl (by decide) rfl (Nat.le_of_ble_eq_true rfl) d_X6_plan_10 ?_
    refine zr_ifz_ne C 18 d_X6_plan_13 (by decide) (fun c13 => ?_) (fun c13 => ?_)
    · have ex4 := zex c13
      have ex4_2 := ex4.2
      have ex4_b := (hf0).1
      refine zr_aload_n C d_X6_plan_18 rfl ?_
      refine gf_Slots_4 C m231 d_X6_plan_19 ?_
      refine zr_aload_n C d_X6_plan_22 rfl ?_
      refine gf_Slots_1 C m228 d_X6_plan_23 ?_
      refine zr_callVi (As := [zR X 3]) (st := []) (c := 39) C (c_Planner_succeeds X h g 3 (by decide) hf0) k_Planner_succeeds m576 m577 m578 (by decide) (zC_Planner X _ _) rfl rfl (by decide) rfl (Nat.le_of_ble_eq_true rfl) d_X6_plan_26 ?_
      refine zr_vz (fun y5 ey5 => ?_)
      refine zr_h (fun h6 eh6 => ?_)
      refine zr_istore_n C [zO X 0, zI station, zI (zb y5)] d_X6_plan_29 (Nat.le_of_ble_eq_true rfl) rfl rfl ?_
      refine zr_iload_n C d_X6_plan_30 rfl ?_
      refine zr_iconst C (v := (-1)) d_X6_plan_31 (by decide) ?_
      refine zr_icmp_ne C 45 d_X6_plan_32 (by decide) (fun _ => ?_) (fun c => absurd c c2)
      refine zr_iload_n C d_X6_plan_45 rfl ?_
      suffices hJ46 : ∀ (y7 : Int32), (if y5 = true then (h6 40 (zcn station)) else (-9)) = y7 → zV X Γ Q 63 [none, none, none] [.int y7] h6 g by
        refine zr_ifz_eq C 61 d_X6_plan_46 (by decide) (fun c46 => ?_) (fun c46 => ?_)
        · refine zr_bipush C (v := (-9)) d_X6_plan_61 (by decide) ?_
          refine zr_lv [none, none, none] (by simp [zle]) ?_
          exact hJ46 (-9) (((if_neg (zbf c46))))
        · refine zr_aload_n C d_X6_plan_49 rfl ?_
          refine gf_Slots_4 C m231 d_X6_plan_50 ?_
          refine gf_Planner_0 C m165 d_X6_plan_53 ?_
          refine zr_iload_n C d_X6_plan_56 rfl ?_
          refine zr_iald C za_40 (zcn station) (zix ex4.1) (by omega) (by decide) d_X6_plan_57 ?_
          refine zr_goto C 63 d_X6_plan_58 (by decide) ?_
          refine zr_lv [none, none, none] (by simp [zle]) ?_
          exact hJ46 (h6 40 (zcn station)) (((if_pos c46)))
      intro y7 ey7
      have eR : o_Slots_plan h station = (y7, h6) := (by subst ey7 eh6 ey5; unfold o_Slots_plan; rw [if_neg c2, if_pos c13])
      subst hQ
      exact zTQ_Ih eR (zr_ireti C d_X6_plan_63)
    · refine zr_iconst C (v := (-1)) d_X6_plan_16 (by decide) ?_
      have eR : o_Slots_plan h station = ((-1), h) := (by unfold o_Slots_plan; rw [if_neg c2, if_neg (zbf c13)])
      subst hQ
      exact zTQ_Ih eR (zr_ireti C d_X6_plan_17)
