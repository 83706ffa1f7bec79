/-! Walks of methods, by program (wip/whole/gen). -/
theorem d_X4_clear_0 : decode prog_6_method_2_code 0 = .ok (.aload_n 0, 1) := by decide +kernel
theorem d_X4_clear_1 : decode prog_6_method_2_code 1 = .ok (.iconst 0, 1) := by decide +kernel
theorem d_X4_clear_2 : decode prog_6_method_2_code 2 = .ok (.putfield 25, 3) := by decide +kernel
theorem d_X4_clear_5 : decode prog_6_method_2_code 5 = .ok (.return_, 1) := by decide +kernel
abbrev M_Shelf_clear : zMT := (⟨"PeriodSlots$Shelf", "clear", "()V"⟩, prog_6_method_2_code, 1, none)
theorem k_Shelf_clear : zcall M_Shelf_clear 0 := ⟨zU_in (i := 392) (by decide +kernel) rfl, m59, ⟨by decide, by decide, by decide +kernel⟩, by decide⟩
def o_Shelf42_clear (h : zHp) : zHp :=
  (zup h 42 1 0)
theorem fr_Shelf42_clear {h : zHp} (c k : Nat) (q0 : ¬ (c = 42 ∧ k = 1)) : (o_Shelf42_clear h) c k = h c k := by
  unfold o_Shelf42_clear
  first | done | exact (zup_fr (by omega))
set_option maxHeartbeats 400000 in
set_option maxRecDepth 20000 in
theorem c_Shelf42_clear (X : zXT) (h : zHp) (g : zLg)  : zDi X M_Shelf_clear 0 [zR X 42] h g none (o_Shelf42_clear h) g := by
  refine zDi_of "PeriodSlots$Shelf" prog_6_method_2_code 1 none rfl (by decide) [zO X 42] rfl (fun _ q => q) (Nat.le_of_ble_eq_true rfl) ?_
  intro Γ Q C hQ
  refine zr_aload_n C d_X4_clear_0 rfl ?_
  refine zr_iconst C (v := 0) d_X4_clear_1 (by decide) ?_
  refine pf_Shelf_2 C (by decide) m186 d_X4_clear_2 ?_
  refine zr_h (fun h1 eh1 => ?_)
  have eR : o_Shelf42_clear h = h1 := (by subst eh1; unfold o_Shelf42_clear; exact rfl)
  subst hQ
  rw [eR]
  exact zr_vret C d_X4_clear_5
def o_Shelf44_clear (h : zHp) : zHp :=
  (zup h 44 1 0)
theorem fr_Shelf44_clear {h : zHp} (c k : Nat) (q0 : ¬ (c = 44 ∧ k = 1)) : (o_Shelf44_clear h) c k = h c k := by
  unfold o_Shelf44_clear
  first | done | exact (zup_fr (by omega))
set_option maxHeartbeats 400000 in
set_option maxRecDepth 20000 in
theorem c_Shelf44_clear (X : zXT) (h : zHp) (g : zLg)  : zDi X M_Shelf_clear 0 [zR X 44] h g none (o_Shelf44_clear h) g := by
  refine zDi_of "PeriodSlots$Shelf" prog_6_method_2_code 1 none rfl (by decide) [zO X 44] rfl (fun _ q => q) (Nat.le_of_ble_eq_true rfl) ?_
  intro Γ Q C hQ
  refine zr_aload_n C d_X4_clear_0 rfl ?_
  refine zr_iconst C (v := 0) d_X4_clear_1 (by decide) ?_
  refine pf_Shelf_2 C (by decide) m186 d_X4_clear_2 ?_
  refine zr_h (fun h1 eh1 => ?_)
  have eR : o_Shelf44_clear h = h1 := (by subst eh1; unfold o_Shelf44_clear; exact rfl)
  subst hQ
  rw [eR]
  exact zr_vret C d_X4_clear_5
theorem d_X4_holds_0 : decode prog_6_method_3_code 0 = .ok (.iload_n 1, 1) := by decide +kernel
theorem d_X4_holds_1 : decode prog_6_method_3_code 1 = .ok (.ifCond .lt 26, 3) := by decide +kernel
theorem d_X4_holds_4 : decode prog_6_method_3_code 4 = .ok (.iload_n 1, 1) := by decide +kernel
theorem d_X4_holds_5 : decode prog_6_method_3_code 5 = .ok (.aload_n 0, 1) := by decide +kernel
theorem d_X4_holds_6 : decode prog_6_method_3_code 6 = .ok (.getfield 15, 3) := by decide +kernel
theorem d_X4_holds_9 : decode prog_6_method_3_code 9 = .ok (.if_icmp .ge 18, 3) := by decide +kernel
theorem d_X4_holds_12 : decode prog_6_method_3_code 12 = .ok (.aload_n 0, 1) := by decide +kernel
theorem d_X4_holds_13 : decode prog_6_method_3_code 13 = .ok (.getfield 25, 3) := by decide +kernel
theorem d_X4_holds_16 : decode prog_6_method_3_code 16 = .ok (.iload_n 1, 1) := by decide +kernel
theorem d_X4_holds_17 : decode prog_6_method_3_code 17 = .ok (.invokestatic 28, 3) := by decide +kernel
theorem d_X4_holds_20 : decode prog_6_method_3_code 20 = .ok (.ifCond .eq 7, 3) := by decide +kernel
theorem d_X4_holds_23 : decode prog_6_method_3_code 23 = .ok (.iconst 1, 1) := by decide +kernel
theorem d_X4_holds_24 : decode prog_6_method_3_code 24 = .ok (.goto 4, 3) := by decide +kernel
theorem d_X4_holds_27 : decode prog_6_method_3_code 27 = .ok (.iconst 0, 1) := by decide +kernel
theorem d_X4_holds_28 : decode prog_6_method_3_code 28 = .ok (.ireturn, 1) := by decide +kernel
abbrev M_Shelf_holds : zMT := (⟨"PeriodSlots$Shelf", "holds", "(I)Z"⟩, prog_6_method_3_code, 2, (some .boolean))
theorem k_Shelf_holds : zcall M_Shelf_holds 1 := ⟨zU_in (i := 559) (by decide +kernel) rfl, m59, ⟨by decide, by decide, by decide +kernel⟩, by decide⟩
def o_Shelf42_holds (h : zHp) (row : Int32) : Bool :=
  (!(decide (row < 0)) && (!(decide ((h 42 0) ≤ row)) && (o_Slots_has (h 42 1) row)))
theorem rd_Shelf42_holds {h h2 : zHp} {row : Int32} (e0 : h2 42 0 = h 42 0) (e1 : h2 42 1 = h 42 1) : o_Shelf42_holds h2 row = o_Shelf42_holds h row := by
  unfold o_Shelf42_holds
  simp only [e0, e1]

set_option maxHeartbeats 400000 in
set_option maxRecDepth 20000 in
theorem c_Shelf42_holds (X : zXT) (h : zHp) (g : zLg) (row : Int32) : zDi X M_Shelf_holds 1 [zR X 42, .int row] h g (zI (zb (o_Shelf42_holds h row))) h g := by
  refine zDi_of "PeriodSlots$Shelf" prog_6_method_3_code 2 (some .boolean) rfl (by decide) [zO X 42, zI row] rfl (fun _ q => q) (Nat.le_of_ble_eq_true rfl) ?_
  intro Γ Q C hQ
  refine zr_iload_n C d_X4_holds_0 rfl ?_
  suffices hJ1 : ∀ (y1 : Bool), (!(decide (row < 0)) && (!(decide ((h 42 0) ≤ row)) && (o_Slots_has (h 42 1) row))) = y1 → zV X Γ Q 28 [none, none] [.int (zb y1)] h g by
    refine zr_if_lt C 27 d_X4_holds_1 (by decide) (fun c1 => ?_) (fun c1 => ?_)
    · refine zr_iconst C (v := 0) d_X4_holds_27 (by decide) ?_
      refine zr_lv [none, none] (by simp [zle]) ?_
      exact hJ1 false (by simp [c1])
    · refine zr_iload_n C d_X4_holds_4 rfl ?_
      refine zr_aload_n C d_X4_holds_5 rfl ?_
      refine gf_Shelf_0 C (by decide) m184 d_X4_holds_6 ?_
      refine zr_icmp_ge C 27 d_X4_holds_9 (by decide) (fun c9 => ?_) (fun c9 => ?_)
      · refine zr_iconst C (v := 0) d_X4_holds_27 (by decide) ?_
        refine zr_lv [none, none] (by simp [zle]) ?_
        exact hJ1 false (by simp [c1, c9])
      · refine zr_aload_n C d_X4_holds_12 rfl ?_
        refine gf_Shelf_2 C (by decide) m186 d_X4_holds_13 ?_
        refine zr_iload_n C d_X4_holds_16 rfl ?_
        refine zr_callNi (As := [.int (h 42 1), .int row]) (st := []) C (c_Slots_has X h g (h 42 1) row) k_Slots_has (by simp [zNest]) m322 rfl (by decide) rfl (Nat.le_of_ble_eq_true rfl) d_X4_holds_17 ?_
        refine zr_ifz_eq C 27 d_X4_holds_20 (by decide) (fun c20 => ?_) (fun c20 => ?_)
        · refine zr_iconst C (v := 0) d_X4_holds_27 (by decide) ?_
          refine zr_lv [none, none] (by simp [zle]) ?_
          exact hJ1 false (by simp [c1, c9, c20])
        · refine zr_iconst C (v := 1) d_X4_holds_23 (by decide) ?_
          refine zr_goto C 28 d_X4_holds_24 (by decide) ?_
          refine zr_lv [none, none] (by simp [zle]) ?_
          exact hJ1 true (by simp [c1, c9, c20])
  intro y1 ey1
  have eR : o_Shelf42_holds h row = y1 := (by subst ey1; unfold o_Shelf42_holds; exact rfl)
  subst hQ
  rw [eR]
  exact zr_iretz C (zb_01 _) d_X4_holds_28
def o_Shelf44_holds (h : zHp) (row : Int32) : Bool :=
  (!(decide (row < 0)) && (!(decide ((h 44 0) ≤ row)) && (o_Slots_has (h 44 1) row)))
theorem rd_Shelf44_holds {h h2 : zHp} {row : Int32} (e0 : h2 44 0 = h 44 0) (e1 : h2 44 1 = h 44 1) : o_Shelf44_holds h2 row = o_Shelf44_holds h row := by
  unfold o_Shelf44_holds
  simp only [e0, e1]

set_option maxHeartbeats 400000 in
set_option maxRecDepth 20000 in
theorem c_Shelf44_holds (X : zXT) (h : zHp) (g : zLg) (row : Int32) : zDi X M_Shelf_holds 1 [zR X 44, .int row] h g (zI (zb (o_Shelf44_holds h row))) h g := by
  refine zDi_of "PeriodSlots$Shelf" prog_6_method_3_code 2 (some .boolean) rfl (by decide) [zO X 44, zI row] rfl (fun _ q => q) (Nat.le_of_ble_eq_true rfl) ?_
  intro Γ Q C hQ
  refine zr_iload_n C d_X4_holds_0 rfl ?_
  suffices hJ1 : ∀ (y1 : Bool), (!(decide (row < 0)) && (!(decide ((h 44 0) ≤ row)) && (o_Slots_has (h 44 1) row))) = y1 → zV X Γ Q 28 [none, none] [.int (zb y1)] h g by
    refine zr_if_lt C 27 d_X4_holds_1 (by decide) (fun c1 => ?_) (fun c1 => ?_)
    · refine zr_iconst C (v := 0) d_X4_holds_27 (by decide) ?_
      refine zr_lv [none, none] (by simp [zle]) ?_
      exact hJ1 false (by simp [c1])
    · refine zr_iload_n C d_X4_holds_4 rfl ?_
      refine zr_aload_n C d_X4_holds_5 rfl ?_
      refine gf_Shelf_0 C (by decide) m184 d_X4_holds_6 ?_
      refine zr_icmp_ge C 27 d_X4_holds_9 (by decide) (fun c9 => ?_) (fun c9 => ?_)
      · refine zr_iconst C (v := 0) d_X4_holds_27 (by decide) ?_
        refine zr_lv [none, none] (by simp [zle]) ?_
        exact hJ1 false (by simp [c1, c9])
      · refine zr_aload_n C d_X4_holds_12 rfl ?_
        refine gf_Shelf_2 C (by decide) m186 d_X4_holds_13 ?_
        refine zr_iload_n C d_X4_holds_16 rfl ?_
        refine zr_callNi (As := [.int (h 44 1), .int row]) (st := []) C (c_Slots_has X h g (h 44 1) row) k_Slots_has (by simp [zNest]) m322 rfl (by decide) rfl (Nat.le_of_ble_eq_true rfl) d_X4_holds_17 ?_
        refine zr_ifz_eq C 27 d_X4_holds_20 (by decide) (fun c20 => ?_) (fun c20 => ?_)
        · refine zr_iconst C (v := 0) d_X4_holds_27 (by decide) ?_
          refine zr_lv [none, none] (by simp [zle]) ?_
          exact hJ1 false (by simp [c1, c9, c20])
        · refine zr_iconst C (v := 1) d_X4_holds_23 (by decide) ?_
          refine zr_goto C 28 d_X4_holds_24 (by decide) ?_
          refine zr_lv [none, none] (by simp [zle]) ?_
          exact hJ1 true (by simp [c1, c9, c20])
  intro y1 ey1
  have eR : o_Shelf44_holds h row = y1 := (by subst ey1; unfold o_Shelf44_holds; exact rfl)
  subst hQ
  rw [eR]
  exact zr_iretz C (zb_01 _) d_X4_holds_28
theorem zholds42 {h : zHp} {v : Int32} (_ : zfit h 42 0 14) (e : o_Shelf42_holds h v = true) : ¬ v < 0 ∧ zcn v < zcn (h 42 0) := by
  unfold o_Shelf42_holds at e
  simp only [Bool.and_eq_true, Bool.not_eq_true', decide_eq_false_iff_not] at e
  obtain ⟨h1, h2, -⟩ := e
  refine ⟨h1, ?_⟩
  rcases Nat.lt_or_ge (zcn v) (zcn (h 42 0)) with q | q
  · exact q
  · refine absurd ?_ h2
    rw [zix h1]
    exact zge_yes rfl q (zcn_small v)
theorem zholds44 {h : zHp} {v : Int32} (_ : zfit h 44 0 2) (e : o_Shelf44_holds h v = true) : ¬ v < 0 ∧ zcn v < zcn (h 44 0) := by
  unfold o_Shelf44_holds at e
  simp only [Bool.and_eq_true, Bool.not_eq_true', decide_eq_false_iff_not] at e
  obtain ⟨h1, h2, -⟩ := e
  refine ⟨h1, ?_⟩
  rcases Nat.lt_or_ge (zcn v) (zcn (h 44 0)) with q | q
  · exact q
  · refine absurd ?_ h2
    rw [zix h1]
    exact zge_yes rfl q (zcn_small v)

theorem d_X4_put_0 : decode prog_6_method_4_code 0 = .ok (.iload_n 1, 1) := by decide +kernel
theorem d_X4_put_1 : decode prog_6_method_4_code 1 = .ok (.ifCond .lt 11, 3) := by decide +kernel
theorem d_X4_put_4 : decode prog_6_method_4_code 4 = .ok (.iload_n 1, 1) := by decide +kernel
theorem d_X4_put_5 : decode prog_6_method_4_code 5 = .ok (.aload_n 0, 1) := by decide +kernel
theorem d_X4_put_6 : decode prog_6_method_4_code 6 = .ok (.getfield 15, 3) := by decide +kernel
theorem d_X4_put_9 : decode prog_6_method_4_code 9 = .ok (.if_icmp .lt 4, 3) := by decide +kernel
theorem d_X4_put_12 : decode prog_6_method_4_code 12 = .ok (.return_, 1) := by decide +kernel
theorem d_X4_put_13 : decode prog_6_method_4_code 13 = .ok (.iload_n 1, 1) := by decide +kernel
theorem d_X4_put_14 : decode prog_6_method_4_code 14 = .ok (.bipush 25, 2) := by decide +kernel
theorem d_X4_put_16 : decode prog_6_method_4_code 16 = .ok (.imul, 1) := by decide +kernel
theorem d_X4_put_17 : decode prog_6_method_4_code 17 = .ok (.istore_n 3, 1) := by decide +kernel
theorem d_X4_put_18 : decode prog_6_method_4_code 18 = .ok (.aload_n 2, 1) := by decide +kernel
theorem d_X4_put_19 : decode prog_6_method_4_code 19 = .ok (.getfield 32, 3) := by decide +kernel
theorem d_X4_put_22 : decode prog_6_method_4_code 22 = .ok (.iconst 0, 1) := by decide +kernel
theorem d_X4_put_23 : decode prog_6_method_4_code 23 = .ok (.aload_n 0, 1) := by decide +kernel
theorem d_X4_put_24 : decode prog_6_method_4_code 24 = .ok (.getfield 21, 3) := by decide +kernel
theorem d_X4_put_27 : decode prog_6_method_4_code 27 = .ok (.iload_n 3, 1) := by decide +kernel
theorem d_X4_put_28 : decode prog_6_method_4_code 28 = .ok (.bipush 8, 2) := by decide +kernel
theorem d_X4_put_30 : decode prog_6_method_4_code 30 = .ok (.invokestatic 37, 3) := by decide +kernel
theorem d_X4_put_33 : decode prog_6_method_4_code 33 = .ok (.aload_n 2, 1) := by decide +kernel
theorem d_X4_put_34 : decode prog_6_method_4_code 34 = .ok (.getfield 43, 3) := by decide +kernel
theorem d_X4_put_37 : decode prog_6_method_4_code 37 = .ok (.iconst 0, 1) := by decide +kernel
theorem d_X4_put_38 : decode prog_6_method_4_code 38 = .ok (.aload_n 0, 1) := by decide +kernel
theorem d_X4_put_39 : decode prog_6_method_4_code 39 = .ok (.getfield 21, 3) := by decide +kernel
theorem d_X4_put_42 : decode prog_6_method_4_code 42 = .ok (.iload_n 3, 1) := by decide +kernel
theorem d_X4_put_43 : decode prog_6_method_4_code 43 = .ok (.bipush 8, 2) := by decide +kernel
theorem d_X4_put_45 : decode prog_6_method_4_code 45 = .ok (.iadd, 1) := by decide +kernel
theorem d_X4_put_46 : decode prog_6_method_4_code 46 = .ok (.bipush 8, 2) := by decide +kernel
theorem d_X4_put_48 : decode prog_6_method_4_code 48 = .ok (.invokestatic 37, 3) := by decide +kernel
theorem d_X4_put_51 : decode prog_6_method_4_code 51 = .ok (.aload_n 2, 1) := by decide +kernel
theorem d_X4_put_52 : decode prog_6_method_4_code 52 = .ok (.getfield 46, 3) := by decide +kernel
theorem d_X4_put_55 : decode prog_6_method_4_code 55 = .ok (.iconst 0, 1) := by decide +kernel
theorem d_X4_put_56 : decode prog_6_method_4_code 56 = .ok (.aload_n 0, 1) := by decide +kernel
theorem d_X4_put_57 : decode prog_6_method_4_code 57 = .ok (.getfield 21, 3) := by decide +kernel
theorem d_X4_put_60 : decode prog_6_method_4_code 60 = .ok (.iload_n 3, 1) := by decide +kernel
theorem d_X4_put_61 : decode prog_6_method_4_code 61 = .ok (.bipush 16, 2) := by decide +kernel
theorem d_X4_put_63 : decode prog_6_method_4_code 63 = .ok (.iadd, 1) := by decide +kernel
theorem d_X4_put_64 : decode prog_6_method_4_code 64 = .ok (.bipush 8, 2) := by decide +kernel
theorem d_X4_put_66 : decode prog_6_method_4_code 66 = .ok (.invokestatic 37, 3) := by decide +kernel
theorem d_X4_put_69 : decode prog_6_method_4_code 69 = .ok (.aload_n 0, 1) := by decide +kernel
theorem d_X4_put_70 : decode prog_6_method_4_code 70 = .ok (.getfield 21, 3) := by decide +kernel
theorem d_X4_put_73 : decode prog_6_method_4_code 73 = .ok (.iload_n 3, 1) := by decide +kernel
theorem d_X4_put_74 : decode prog_6_method_4_code 74 = .ok (.bipush 24, 2) := by decide +kernel
theorem d_X4_put_76 : decode prog_6_method_4_code 76 = .ok (.iadd, 1) := by decide +kernel
theorem d_X4_put_77 : decode prog_6_method_4_code 77 = .ok (.aload_n 2, 1) := by decide +kernel
theorem d_X4_put_78 : decode prog_6_method_4_code 78 = .ok (.getfield 49, 3) := by decide +kernel
theorem d_X4_put_81 : decode prog_6_method_4_code 81 = .ok (.iastore, 1) := by decide +kernel
theorem d_X4_put_82 : decode prog_6_method_4_code 82 = .ok (.aload_n 0, 1) := by decide +kernel
theorem d_X4_put_83 : decode prog_6_method_4_code 83 = .ok (.dup, 1) := by decide +kernel
theorem d_X4_put_84 : decode prog_6_method_4_code 84 = .ok (.getfield 25, 3) := by decide +kernel
theorem d_X4_put_87 : decode prog_6_method_4_code 87 = .ok (.iconst 1, 1) := by decide +kernel
theorem d_X4_put_88 : decode prog_6_method_4_code 88 = .ok (.iload_n 1, 1) := by decide +kernel
theorem d_X4_put_89 : decode prog_6_method_4_code 89 = .ok (.ishl, 1) := by decide +kernel
theorem d_X4_put_90 : decode prog_6_method_4_code 90 = .ok (.ior, 1) := by decide +kernel
theorem d_X4_put_91 : decode prog_6_method_4_code 91 = .ok (.putfield 25, 3) := by decide +kernel
theorem d_X4_put_94 : decode prog_6_method_4_code 94 = .ok (.return_, 1) := by decide +kernel
abbrev M_Shelf_put : zMT := (⟨"PeriodSlots$Shelf", "put", "(ILPeriodSlots$Mesh;)V"⟩, prog_6_method_4_code, 4, none)
theorem k_Shelf_put : zcall M_Shelf_put 2 := ⟨zU_in (i := 460) (by decide +kernel) rfl, m59, ⟨by decide, by decide, by decide +kernel⟩, by decide⟩
def o_Shelf42_put (h : zHp) (row : Int32) (m : Nat) : zHp :=
  (if row < 0 then h else (if row < (h 42 0) then (zup (zup (zcp (zcp (zcp h (m + 2) 43 0 ((zcn row) * 25) 8) (m + 3) 43 0 (((zcn row) * 25) + 8) 8) (m + 4) 43 0 (((zcn row) * 25) + 16) 8) 43 (((zcn row) * 25) + 24) (h m 1)) 42 1 ((h 42 1) ||| (zshl 1 row))) else h))
theorem fr_Shelf42_put {h : zHp} {row : Int32} {m : Nat} (c k : Nat) (q0 : c ≠ 43) (q1 : ¬ (c = 42 ∧ k = 1)) : (o_Shelf42_put h row m) c k = h c k := by
  unfold o_Shelf42_put
  by_cases f1 : row < 0
  · rw [if_pos f1]
    first | done | exact rfl
  · rw [if_neg f1]
    by_cases f2 : row < (h 42 0)
    · rw [if_pos f2]
      first | done | exact ((zup_fr (by omega)).trans ((zup_fr (Or.inl (by assumption))).trans ((zcp_fr (by assumption)).trans ((zcp_fr (by assumption)).trans (zcp_fr (by assumption))))))
    · rw [if_neg f2]
      first | done | exact rfl
set_option maxHeartbeats 400000 in
set_option maxRecDepth 20000 in
theorem c_Shelf42_put (X : zXT) (h : zHp) (g : zLg) (row : Int32) (m : Nat) (hm : m = 3 ∨ m = 15 ∨ m = 27) (hf0 : zfit h 42 0 14) : zDi X M_Shelf_put 1 [zR X 42, .int row, zR X m] h g none (o_Shelf42_put h row m) g := by
  have hf0_1 := hf0.1
  refine zDi_of "PeriodSlots$Shelf" prog_6_method_4_code 4 none rfl (by decide) [zO X 42, zI row, zO X m, none] rfl (fun _ q => q) (Nat.le_of_ble_eq_true rfl) ?_
  intro Γ Q C hQ
  refine zr_iload_n C d_X4_put_0 rfl ?_
  refine zr_if_lt C 12 d_X4_put_1 (by decide) (fun c1 => ?_) (fun c1 => ?_)
  · have eR : o_Shelf42_put h row m = h := (by unfold o_Shelf42_put; rw [if_pos c1])
    subst hQ
    rw [eR]
    exact zr_vret C d_X4_put_12
  · refine zr_iload_n C d_X4_put_4 rfl ?_
    refine zr_aload_n C d_X4_put_5 rfl ?_
    refine gf_Shelf_0 C (by decide) m184 d_X4_put_6 ?_
    refine zr_icmp_lt C 13 d_X4_put_9 (by decide) (fun c9 => ?_) (fun c9 => ?_)
    · have en1 := zn_lt (a := zcn row) (b := zcn (h 42 0)) (zix c1) hf0.2 c9 (zcn_small _) (zcn_small _)
      refine zr_iload_n C d_X4_put_13 rfl ?_
      refine zr_bipush C (v := 25) d_X4_put_14 (by decide) ?_
      refine zr_imul C d_X4_put_16 ?_
      refine zr_istore_n C [zO X 42, zI row, zO X m, zI (row * 25)] d_X4_put_17 (Nat.le_of_ble_eq_true rfl) rfl rfl ?_
      refine zr_aload_n C d_X4_put_18 rfl ?_
      refine gf_Mesh_4 C hm m108 d_X4_put_19 ?_
      refine zr_iconst C (v := 0) d_X4_put_22 (by decide) ?_
      refine zr_aload_n C d_X4_put_23 rfl ?_
      refine gf_Shelf_1 C (by decide) m185 d_X4_put_24 ?_
      refine zr_iload_n C d_X4_put_27 rfl ?_
      refine zr_bipush C (v := 8) d_X4_put_28 (by decide) ?_
      refine zr_copy C (za_mesh_2 hm) za_43 m461 (0) ((zcn row) * 25) (8) rfl (zn_mul (zix c1) rfl) rfl (by omega) (by omega) (by decide) (by decide) rfl (Nat.le_of_ble_eq_true rfl) (by decide) d_X4_put_30 ?_
      refine zr_h (fun h2 eh2 => ?_)
      refine zr_aload_n C d_X4_put_33 rfl ?_
      refine gf_Mesh_5 C hm m112 d_X4_put_34 ?_
      refine zr_iconst C (v := 0) d_X4_put_37 (by decide) ?_
      refine zr_aload_n C d_X4_put_38 rfl ?_
      refine gf_Shelf_1 C (by decide) m185 d_X4_put_39 ?_
      refine zr_iload_n C d_X4_put_42 rfl ?_
      refine zr_bipush C (v := 8) d_X4_put_43 (by decide) ?_
      refine zr_iadd C d_X4_put_45 ?_
      refine zr_bipush C (v := 8) d_X4_put_46 (by decide) ?_
      refine zr_copy C (za_mesh_3 hm) za_43 m461 (0) (((zcn row) * 25) + 8) (8) rfl (zn_add (zn_mul (zix c1) rfl) rfl) rfl (by omega) (by omega) (by decide) (by decide) rfl (Nat.le_of_ble_eq_true rfl) (by decide) d_X4_put_48 ?_
      refine zr_h (fun h3 eh3 => ?_)
      refine zr_aload_n C d_X4_put_51 rfl ?_
      refine gf_Mesh_6 C hm m115 d_X4_put_52 ?_
      refine zr_iconst C (v := 0) d_X4_put_55 (by decide) ?_
      refine zr_aload_n C d_X4_put_56 rfl ?_
      refine gf_Shelf_1 C (by decide) m185 d_X4_put_57 ?_
      refine zr_iload_n C d_X4_put_60 rfl ?_
      refine zr_bipush C (v := 16) d_X4_put_61 (by decide) ?_
      refine zr_iadd C d_X4_put_63 ?_
      refine zr_bipush C (v := 8) d_X4_put_64 (by decide) ?_
      refine zr_copy C (za_mesh_4 hm) za_43 m461 (0) (((zcn row) * 25) + 16) (8) rfl (zn_add (zn_mul (zix c1) rfl) rfl) rfl (by omega) (by omega) (by decide) (by decide) rfl (Nat.le_of_ble_eq_true rfl) (by decide) d_X4_put_66 ?_
      refine zr_h (fun h4 eh4 => ?_)
      refine zr_aload_n C d_X4_put_69 rfl ?_
      refine gf_Shelf_1 C (by decide) m185 d_X4_put_70 ?_
      refine zr_iload_n C d_X4_put_73 rfl ?_
      refine zr_bipush C (v := 24) d_X4_put_74 (by decide) ?_
      refine zr_iadd C d_X4_put_76 ?_
      refine zr_aload_n C d_X4_put_77 rfl ?_
      refine gf_Mesh_1 C hm m100 d_X4_put_78 ?_
      refine zr_top ((congrFun (congrFun eh4.symm _) _).trans ((zcp_fr (by omega)).trans ((congrFun (congrFun eh3.symm _) _).trans ((zcp_fr (by omega)).trans ((congrFun (congrFun eh2.symm _) _).trans (zcp_fr (by omega))))))) ?_
      refine zr_iast C za_43 (((zcn row) * 25) + 24) (zn_add (zn_mul (zix c1) rfl) rfl) (by omega) (by decide) d_X4_put_81 ?_
      refine zr_h (fun h5 eh5 => ?_)
      refine zr_aload_n C d_X4_put_82 rfl ?_
      refine zr_dup C d_X4_put_83 rfl ?_
      refine gf_Shelf_2 C (by decide) m186 d_X4_put_84 ?_
      refine zr_top ((congrFun (congrFun eh5.symm _) _).trans ((zup_fr (by omega)).trans ((congrFun (congrFun eh4.symm _) _).trans ((zcp_fr (by omega)).trans ((congrFun (congrFun eh3.symm _) _).trans ((zcp_fr (by omega)).trans ((congrFun (congrFun eh2.symm _) _).trans (zcp_fr (by omega))))))))) ?_
      refine zr_iconst C (v := 1) d_X4_put_87 (by decide) ?_
      refine zr_iload_n C d_X4_put_88 rfl ?_
      refine zr_ishl C d_X4_put_89 ?_
      refine zr_ior C d_X4_put_90 ?_
      refine pf_Shelf_2 C (by decide) m186 d_X4_put_91 ?_
      refine zr_h (fun h6 eh6 => ?_)
      have eR : o_Shelf42_put h row m = h6 := (by subst eh6 eh5 eh4 eh3 eh2; unfold o_Shelf42_put; rw [if_neg c1, if_pos c9])
      subst hQ
      rw [eR]
      exact zr_vret C d_X4_put_94
    · have en7 := zn_nlt (a := zcn row) (b := zcn (h 42 0)) (zix c1) hf0.2 c9 (zcn_small _) (zcn_small _)
      have eR : o_Shelf42_put h row m = h := (by unfold o_Shelf42_put; rw [if_neg c1, if_neg c9])
      subst hQ
      rw [eR]
      exact zr_vret C d_X4_put_12
def o_Shelf44_put (h : zHp) (row : Int32) (m : Nat) : zHp :=
  (if row < 0 then h else (if row < (h 44 0) then (zup (zup (zcp (zcp (zcp h (m + 2) 45 0 ((zcn row) * 25) 8) (m + 3) 45 0 (((zcn row) * 25) + 8) 8) (m + 4) 45 0 (((zcn row) * 25) + 16) 8) 45 (((zcn row) * 25) + 24) (h m 1)) 44 1 ((h 44 1) ||| (zshl 1 row))) else h))
theorem fr_Shelf44_put {h : zHp} {row : Int32} {m : Nat} (c k : Nat) (q0 : c ≠ 45) (q1 : ¬ (c = 44 ∧ k = 1)) : (o_Shelf44_put h row m) c k = h c k := by
  unfold o_Shelf44_put
  by_cases f1 : row < 0
  · rw [if_pos f1]
    first | done | exact rfl
  · rw [if_neg f1]
    by_cases f2 : row < (h 44 0)
    · rw [if_pos f2]
      first | done | exact ((zup_fr (by omega)).trans ((zup_fr (Or.inl (by assumption))).trans ((zcp_fr (by assumption)).trans ((zcp_fr (by assumption)).trans (zcp_fr (by assumption))))))
    · rw [if_neg f2]
      first | done | exact rfl
set_option maxHeartbeats 400000 in
set_option maxRecDepth 20000 in
theorem c_Shelf44_put (X : zXT) (h : zHp) (g : zLg) (row : Int32) (m : Nat) (hm : m = 3 ∨ m = 15 ∨ m = 27) (hf0 : zfit h 44 0 2) : zDi X M_Shelf_put 1 [zR X 44, .int row, zR X m] h g none (o_Shelf44_put h row m) g := by
  have hf0_1 := hf0.1
  refine zDi_of "PeriodSlots$Shelf" prog_6_method_4_code 4 none rfl (by decide) [zO X 44, zI row, zO X m, none] rfl (fun _ q => q) (Nat.le_of_ble_eq_true rfl) ?_
  intro Γ Q C hQ
  refine zr_iload_n C d_X4_put_0 rfl ?_
  refine zr_if_lt C 12 d_X4_put_1 (by decide) (fun c1 => ?_) (fun c1 => ?_)
  · have eR : o_Shelf44_put h row m = h := (by unfold o_Shelf44_put; rw [if_pos c1])
    subst hQ
    rw [eR]
    exact zr_vret C d_X4_put_12
  · refine zr_iload_n C d_X4_put_4 rfl ?_
    refine zr_aload_n C d_X4_put_5 rfl ?_
    refine gf_Shelf_0 C (by decide) m184 d_X4_put_6 ?_
    refine zr_icmp_lt C 13 d_X4_put_9 (by decide) (fun c9 => ?_) (fun c9 => ?_)
    · have en1 := zn_lt (a := zcn row) (b := zcn (h 44 0)) (zix c1) hf0.2 c9 (zcn_small _) (zcn_small _)
      refine zr_iload_n C d_X4_put_13 rfl ?_
      refine zr_bipush C (v := 25) d_X4_put_14 (by decide) ?_
      refine zr_imul C d_X4_put_16 ?_
      refine zr_istore_n C [zO X 44, zI row, zO X m, zI (row * 25)] d_X4_put_17 (Nat.le_of_ble_eq_true rfl) rfl rfl ?_
      refine zr_aload_n C d_X4_put_18 rfl ?_
      refine gf_Mesh_4 C hm m108 d_X4_put_19 ?_
      refine zr_iconst C (v := 0) d_X4_put_22 (by decide) ?_
      refine zr_aload_n C d_X4_put_23 rfl ?_
      refine gf_Shelf_1 C (by decide) m185 d_X4_put_24 ?_
      refine zr_iload_n C d_X4_put_27 rfl ?_
      refine zr_bipush C (v := 8) d_X4_put_28 (by decide) ?_
      refine zr_copy C (za_mesh_2 hm) za_45 m461 (0) ((zcn row) * 25) (8) rfl (zn_mul (zix c1) rfl) rfl (by omega) (by omega) (by decide) (by decide) rfl (Nat.le_of_ble_eq_true rfl) (by decide) d_X4_put_30 ?_
      refine zr_h (fun h2 eh2 => ?_)
      refine zr_aload_n C d_X4_put_33 rfl ?_
      refine gf_Mesh_5 C hm m112 d_X4_put_34 ?_
      refine zr_iconst C (v := 0) d_X4_put_37 (by decide) ?_
      refine zr_aload_n C d_X4_put_38 rfl ?_
      refine gf_Shelf_1 C (by decide) m185 d_X4_put_39 ?_
      refine zr_iload_n C d_X4_put_42 rfl ?_
      refine zr_bipush C (v := 8) d_X4_put_43 (by decide) ?_
      refine zr_iadd C d_X4_put_45 ?_
      refine zr_bipush C (v := 8) d_X4_put_46 (by decide) ?_
      refine zr_copy C (za_mesh_3 hm) za_45 m461 (0) (((zcn row) * 25) + 8) (8) rfl (zn_add (zn_mul (zix c1) rfl) rfl) rfl (by omega) (by omega) (by decide) (by decide) rfl (Nat.le_of_ble_eq_true rfl) (by decide) d_X4_put_48 ?_
      refine zr_h (fun h3 eh3 => ?_)
      refine zr_aload_n C d_X4_put_51 rfl ?_
      refine gf_Mesh_6 C hm m115 d_X4_put_52 ?_
      refine zr_iconst C (v := 0) d_X4_put_55 (by decide) ?_
      refine zr_aload_n C d_X4_put_56 rfl ?_
      refine gf_Shelf_1 C (by decide) m185 d_X4_put_57 ?_
      refine zr_iload_n C d_X4_put_60 rfl ?_
      refine zr_bipush C (v := 16) d_X4_put_61 (by decide) ?_
      refine zr_iadd C d_X4_put_63 ?_
      refine zr_bipush C (v := 8) d_X4_put_64 (by decide) ?_
      refine zr_copy C (za_mesh_4 hm) za_45 m461 (0) (((zcn row) * 25) + 16) (8) rfl (zn_add (zn_mul (zix c1) rfl) rfl) rfl (by omega) (by omega) (by decide) (by decide) rfl (Nat.le_of_ble_eq_true rfl) (by decide) d_X4_put_66 ?_
      refine zr_h (fun h4 eh4 => ?_)
      refine zr_aload_n C d_X4_put_69 rfl ?_
      refine gf_Shelf_1 C (by decide) m185 d_X4_put_70 ?_
      refine zr_iload_n C d_X4_put_73 rfl ?_
      refine zr_bipush C (v := 24) d_X4_put_74 (by decide) ?_
      refine zr_iadd C d_X4_put_76 ?_
      refine zr_aload_n C d_X4_put_77 rfl ?_
      refine gf_Mesh_1 C hm m100 d_X4_put_78 ?_
      refine zr_top ((congrFun (congrFun eh4.symm _) _).trans ((zcp_fr (by omega)).trans ((congrFun (congrFun eh3.symm _) _).trans ((zcp_fr (by omega)).trans ((congrFun (congrFun eh2.symm _) _).trans (zcp_fr (by omega))))))) ?_
      refine zr_iast C za_45 (((zcn row) * 25) + 24) (zn_add (zn_mul (zix c1) rfl) rfl) (by omega) (by decide) d_X4_put_81 ?_
      refine zr_h (fun h5 eh5 => ?_)
      refine zr_aload_n C d_X4_put_82 rfl ?_
      refine zr_dup C d_X4_put_83 rfl ?_
      refine gf_Shelf_2 C (by decide) m186 d_X4_put_84 ?_
      refine zr_top ((congrFun (congrFun eh5.symm _) _).trans ((zup_fr (by omega)).trans ((congrFun (congrFun eh4.symm _) _).trans ((zcp_fr (by omega)).trans ((congrFun (congrFun eh3.symm _) _).trans ((zcp_fr (by omega)).trans ((congrFun (congrFun eh2.symm _) _).trans (zcp_fr (by omega))))))))) ?_
      refine zr_iconst C (v := 1) d_X4_put_87 (by decide) ?_
      refine zr_iload_n C d_X4_put_88 rfl ?_
      refine zr_ishl C d_X4_put_89 ?_
      refine zr_ior C d_X4_put_90 ?_
      refine pf_Shelf_2 C (by decide) m186 d_X4_put_91 ?_
      refine zr_h (fun h6 eh6 => ?_)
      have eR : o_Shelf44_put h row m = h6 := (by subst eh6 eh5 eh4 eh3 eh2; unfold o_Shelf44_put; rw [if_neg c1, if_pos c9])
      subst hQ
      rw [eR]
      exact zr_vret C d_X4_put_94
    · have en7 := zn_nlt (a := zcn row) (b := zcn (h 44 0)) (zix c1) hf0.2 c9 (zcn_small _) (zcn_small _)
      have eR : o_Shelf44_put h row m = h := (by unfold o_Shelf44_put; rw [if_neg c1, if_neg c9])
      subst hQ
      rw [eR]
      exact zr_vret C d_X4_put_12
theorem d_X4_giveBack_0 : decode prog_6_method_5_code 0 = .ok (.aload_n 0, 1) := by decide +kernel
theorem d_X4_giveBack_1 : decode prog_6_method_5_code 1 = .ok (.iload_n 1, 1) := by decide +kernel
theorem d_X4_giveBack_2 : decode prog_6_method_5_code 2 = .ok (.invokevirtual 52, 3) := by decide +kernel
theorem d_X4_giveBack_5 : decode prog_6_method_5_code 5 = .ok (.ifCond .ne 4, 3) := by decide +kernel
theorem d_X4_giveBack_8 : decode prog_6_method_5_code 8 = .ok (.return_, 1) := by decide +kernel
theorem d_X4_giveBack_9 : decode prog_6_method_5_code 9 = .ok (.iload_n 1, 1) := by decide +kernel
theorem d_X4_giveBack_10 : decode prog_6_method_5_code 10 = .ok (.bipush 25, 2) := by decide +kernel
theorem d_X4_giveBack_12 : decode prog_6_method_5_code 12 = .ok (.imul, 1) := by decide +kernel
theorem d_X4_giveBack_13 : decode prog_6_method_5_code 13 = .ok (.istore_n 3, 1) := by decide +kernel
theorem d_X4_giveBack_14 : decode prog_6_method_5_code 14 = .ok (.aload_n 0, 1) := by decide +kernel
theorem d_X4_giveBack_15 : decode prog_6_method_5_code 15 = .ok (.getfield 21, 3) := by decide +kernel
theorem d_X4_giveBack_18 : decode prog_6_method_5_code 18 = .ok (.iload_n 3, 1) := by decide +kernel
theorem d_X4_giveBack_19 : decode prog_6_method_5_code 19 = .ok (.aload_n 2, 1) := by decide +kernel
theorem d_X4_giveBack_20 : decode prog_6_method_5_code 20 = .ok (.getfield 32, 3) := by decide +kernel
theorem d_X4_giveBack_23 : decode prog_6_method_5_code 23 = .ok (.iconst 0, 1) := by decide +kernel
theorem d_X4_giveBack_24 : decode prog_6_method_5_code 24 = .ok (.bipush 8, 2) := by decide +kernel
theorem d_X4_giveBack_26 : decode prog_6_method_5_code 26 = .ok (.invokestatic 37, 3) := by decide +kernel
theorem d_X4_giveBack_29 : decode prog_6_method_5_code 29 = .ok (.aload_n 0, 1) := by decide +kernel
theorem d_X4_giveBack_30 : decode prog_6_method_5_code 30 = .ok (.getfield 21, 3) := by decide +kernel
theorem d_X4_giveBack_33 : decode prog_6_method_5_code 33 = .ok (.iload_n 3, 1) := by decide +kernel
theorem d_X4_giveBack_34 : decode prog_6_method_5_code 34 = .ok (.bipush 8, 2) := by decide +kernel
theorem d_X4_giveBack_36 : decode prog_6_method_5_code 36 = .ok (.iadd, 1) := by decide +kernel
theorem d_X4_giveBack_37 : decode prog_6_method_5_code 37 = .ok (.aload_n 2, 1) := by decide +kernel
theorem d_X4_giveBack_38 : decode prog_6_method_5_code 38 = .ok (.getfield 43, 3) := by decide +kernel
theorem d_X4_giveBack_41 : decode prog_6_method_5_code 41 = .ok (.iconst 0, 1) := by decide +kernel
theorem d_X4_giveBack_42 : decode prog_6_method_5_code 42 = .ok (.bipush 8, 2) := by decide +kernel
theorem d_X4_giveBack_44 : decode prog_6_method_5_code 44 = .ok (.invokestatic 37, 3) := by decide +kernel
theorem d_X4_giveBack_47 : decode prog_6_method_5_code 47 = .ok (.aload_n 0, 1) := by decide +kernel
theorem d_X4_giveBack_48 : decode prog_6_method_5_code 48 = .ok (.getfield 21, 3) := by decide +kernel
theorem d_X4_giveBack_51 : decode prog_6_method_5_code 51 = .ok (.iload_n 3, 1) := by decide +kernel
theorem d_X4_giveBack_52 : decode prog_6_method_5_code 52 = .ok (.bipush 16, 2) := by decide +kernel
theorem d_X4_giveBack_54 : decode prog_6_method_5_code 54 = .ok (.iadd, 1) := by decide +kernel
theorem d_X4_giveBack_55 : decode prog_6_method_5_code 55 = .ok (.aload_n 2, 1) := by decide +kernel
theorem d_X4_giveBack_56 : decode prog_6_method_5_code 56 = .ok (.getfield 46, 3) := by decide +kernel
theorem d_X4_giveBack_59 : decode prog_6_method_5_code 59 = .ok (.iconst 0, 1) := by decide +kernel
theorem d_X4_giveBack_60 : decode prog_6_method_5_code 60 = .ok (.bipush 8, 2) := by decide +kernel
theorem d_X4_giveBack_62 : decode prog_6_method_5_code 62 = .ok (.invokestatic 37, 3) := by decide +kernel
theorem d_X4_giveBack_65 : decode prog_6_method_5_code 65 = .ok (.aload_n 2, 1) := by decide +kernel
theorem d_X4_giveBack_66 : decode prog_6_method_5_code 66 = .ok (.aload_n 0, 1) := by decide +kernel
theorem d_X4_giveBack_67 : decode prog_6_method_5_code 67 = .ok (.getfield 21, 3) := by decide +kernel
theorem d_X4_giveBack_70 : decode prog_6_method_5_code 70 = .ok (.iload_n 3, 1) := by decide +kernel
theorem d_X4_giveBack_71 : decode prog_6_method_5_code 71 = .ok (.bipush 24, 2) := by decide +kernel
theorem d_X4_giveBack_73 : decode prog_6_method_5_code 73 = .ok (.iadd, 1) := by decide +kernel
theorem d_X4_giveBack_74 : decode prog_6_method_5_code 74 = .ok (.iaload, 1) := by decide +kernel
theorem d_X4_giveBack_75 : decode prog_6_method_5_code 75 = .ok (.putfield 49, 3) := by decide +kernel
theorem d_X4_giveBack_78 : decode prog_6_method_5_code 78 = .ok (.aload_n 2, 1) := by decide +kernel
theorem d_X4_giveBack_79 : decode prog_6_method_5_code 79 = .ok (.invokevirtual 56, 3) := by decide +kernel
theorem d_X4_giveBack_82 : decode prog_6_method_5_code 82 = .ok (.aload_n 2, 1) := by decide +kernel
theorem d_X4_giveBack_83 : decode prog_6_method_5_code 83 = .ok (.invokevirtual 59, 3) := by decide +kernel
theorem d_X4_giveBack_86 : decode prog_6_method_5_code 86 = .ok (.return_, 1) := by decide +kernel
abbrev M_Shelf_giveBack : zMT := (⟨"PeriodSlots$Shelf", "giveBack", "(ILPeriodSlots$Mesh;)V"⟩, prog_6_method_5_code, 4, none)
theorem k_Shelf_giveBack : zcall M_Shelf_giveBack 2 := ⟨zU_in (i := 555) (by decide +kernel) rfl, m59, ⟨by decide, by decide, by decide +kernel⟩, by decide⟩
def o_Shelf42_giveBack (h : zHp) (row : Int32) (m : Nat) : zHp :=
  (if (o_Shelf42_holds h row) = true then (o_Mesh_markTicks (o_Mesh_relate (zup (zcp (zcp (zcp h 43 (m + 2) ((zcn row) * 25) 0 8) 43 (m + 3) (((zcn row) * 25) + 8) 0 8) 43 (m + 4) (((zcn row) * 25) + 16) 0 8) m 1 (h 43 (((zcn row) * 25) + 24))) m) m) else h)
theorem fr_Shelf42_giveBack {h : zHp} {row : Int32} {m : Nat} (c k : Nat) (q0 : ¬ (c = m ∧ k = 1)) (q1 : c ≠ m + 2) (q2 : c ≠ m + 3) (q3 : c ≠ m + 4) (q4 : c ≠ m + 6) (q5 : c ≠ m + 7) (q6 : c ≠ m + 8) (q7 : c ≠ m + 9) (q8 : c ≠ m + 10) : (o_Shelf42_giveBack h row m) c k = h c k := by
  unfold o_Shelf42_giveBack
  by_cases f1 : (o_Shelf42_holds h row) = true
  · rw [if_pos f1]
    first | done | exact ((fr_Mesh_markTicks _ _ (by assumption) (by assumption)).trans ((fr_Mesh_relate _ _ (by assumption) (by assumption) (by assumption)).trans ((zup_fr (by omega)).trans ((zcp_fr (by assumption)).trans ((zcp_fr (by assumption)).trans (zcp_fr (by assumption)))))))
  · rw [if_neg f1]
    first | done | exact rfl
set_option maxHeartbeats 400000 in
set_option maxRecDepth 20000 in
theorem c_Shelf42_giveBack (X : zXT) (h : zHp) (g : zLg) (row : Int32) (m : Nat) (hm : m = 3 ∨ m = 15 ∨ m = 27) (hf0 : zfit h 42 0 14) (hf1 : zfit h m 0 8) : zDi X M_Shelf_giveBack 3 [zR X 42, .int row, zR X m] h g none (o_Shelf42_giveBack h row m) g := by
  have hf0_1 := hf0.1
  have hf1_1 := hf1.1
  refine zDi_of "PeriodSlots$Shelf" prog_6_method_5_code 4 none rfl (by decide) [zO X 42, zI row, zO X m, none] rfl (fun _ q => q) (Nat.le_of_ble_eq_true rfl) ?_
  intro Γ Q C hQ
  refine zr_aload_n C d_X4_giveBack_0 rfl ?_
  refine zr_iload_n C d_X4_giveBack_1 rfl ?_
  refine zr_callVi (As := [.int row]) (st := []) (c := 42) C (c_Shelf42_holds X h g row) k_Shelf_holds m556 m557 m558 (by decide) (zC_Shelf (by decide) X _ _) rfl rfl (by decide) rfl (Nat.le_of_ble_eq_true rfl) d_X4_giveBack_2 ?_
  refine zr_ifz_ne C 9 d_X4_giveBack_5 (by decide) (fun c5 => ?_) (fun c5 => ?_)
  · have ex1 := zholds42 hf0 c5
    have ex1_2 := ex1.2
    have ex1_b := (hf0).1
    refine zr_iload_n C d_X4_giveBack_9 rfl ?_
    refine zr_bipush C (v := 25) d_X4_giveBack_10 (by decide) ?_
    refine zr_imul C d_X4_giveBack_12 ?_
    refine zr_istore_n C [zO X 42, zI row, zO X m, zI (row * 25)] d_X4_giveBack_13 (Nat.le_of_ble_eq_true rfl) rfl rfl ?_
    refine zr_aload_n C d_X4_giveBack_14 rfl ?_
    refine gf_Shelf_1 C (by decide) m185 d_X4_giveBack_15 ?_
    refine zr_iload_n C d_X4_giveBack_18 rfl ?_
    refine zr_aload_n C d_X4_giveBack_19 rfl ?_
    refine gf_Mesh_4 C hm m108 d_X4_giveBack_20 ?_
    refine zr_iconst C (v := 0) d_X4_giveBack_23 (by decide) ?_
    refine zr_bipush C (v := 8) d_X4_giveBack_24 (by decide) ?_
    refine zr_copy C za_43 (za_mesh_2 hm) m461 ((zcn row) * 25) (0) (8) (zn_mul (zix ex1.1) rfl) rfl rfl (by omega) (by omega) (by decide) (by decide) rfl (Nat.le_of_ble_eq_true rfl) (by decide) d_X4_giveBack_26 ?_
    refine zr_h (fun h2 eh2 => ?_)
    refine zr_aload_n C d_X4_giveBack_29 rfl ?_
    refine gf_Shelf_1 C (by decide) m185 d_X4_giveBack_30 ?_
    refine zr_iload_n C d_X4_giveBack_33 rfl ?_
    refine zr_bipush C (v := 8) d_X4_giveBack_34 (by decide) ?_
    refine zr_iadd C d_X4_giveBack_36 ?_
    refine zr_aload_n C d_X4_giveBack_37 rfl ?_
    refine gf_Mesh_5 C hm m112 d_X4_giveBack_38 ?_
    refine zr_iconst C (v := 0) d_X4_giveBack_41 (by decide) ?_
    refine zr_bipush C (v := 8) d_X4_giveBack_42 (by decide) ?_
    refine zr_copy C za_43 (za_mesh_3 hm) m461 (((zcn row) * 25) + 8) (0) (8) (zn_add (zn_mul (zix ex1.1) rfl) rfl) rfl rfl (by omega) (by omega) (by decide) (by decide) rfl (Nat.le_of_ble_eq_true rfl) (by decide) d_X4_giveBack_44 ?_
    refine zr_h (fun h3 eh3 => ?_)
    refine zr_aload_n C d_X4_giveBack_47 rfl ?_
    refine gf_Shelf_1 C (by decide) m185 d_X4_giveBack_48 ?_
    refine zr_iload_n C d_X4_giveBack_51 rfl ?_
    refine zr_bipush C (v := 16) d_X4_giveBack_52 (by decide) ?_
    refine zr_iadd C d_X4_giveBack_54 ?_
    refine zr_aload_n C d_X4_giveBack_55 rfl ?_
    refine gf_Mesh_6 C hm m115 d_X4_giveBack_56 ?_
    refine zr_iconst C (v := 0) d_X4_giveBack_59 (by decide) ?_
    refine zr_bipush C (v := 8) d_X4_giveBack_60 (by decide) ?_
    refine zr_copy C za_43 (za_mesh_4 hm) m461 (((zcn row) * 25) + 16) (0) (8) (zn_add (zn_mul (zix ex1.1) rfl) rfl) rfl rfl (by omega) (by omega) (by decide) (by decide) rfl (Nat.le_of_ble_eq_true rfl) (by decide) d_X4_giveBack_62 ?_
    refine zr_h (fun h4 eh4 => ?_)
    refine zr_aload_n C d_X4_giveBack_65 rfl ?_
    refine zr_aload_n C d_X4_giveBack_66 rfl ?_
    refine gf_Shelf_1 C (by decide) m185 d_X4_giveBack_67 ?_
    refine zr_iload_n C d_X4_giveBack_70 rfl ?_
    refine zr_bipush C (v := 24) d_X4_giveBack_71 (by decide) ?_
    refine zr_iadd C d_X4_giveBack_73 ?_
    refine zr_iald C za_43 (((zcn row) * 25) + 24) (zn_add (zn_mul (zix ex1.1) rfl) rfl) (by omega) (by decide) d_X4_giveBack_74 ?_
    refine zr_top ((congrFun (congrFun eh4.symm _) _).trans ((zcp_fr (by omega)).trans ((congrFun (congrFun eh3.symm _) _).trans ((zcp_fr (by omega)).trans ((congrFun (congrFun eh2.symm _) _).trans (zcp_fr (by omega))))))) ?_
    refine pf_Mesh_1 C hm m100 d_X4_giveBack_75 ?_
    refine zr_h (fun h5 eh5 => ?_)
    refine zr_aload_n C d_X4_giveBack_78 rfl ?_
    refine zr_callVv (As := []) (st := []) (c := m) C (c_Mesh_relate X h5 g m hm (zfit_fr ((congrFun (congrFun eh5.symm _) _).trans ((zup_fr (by omega)).trans ((congrFun (congrFun eh4.symm _) _).trans ((zcp_fr (by omega)).trans ((congrFun (congrFun eh3.symm _) _).trans ((zcp_fr (by omega)).trans ((congrFun (congrFun eh2.symm _) _).trans (zcp_fr (by omega))))))))) hf1)) k_Mesh_relate m561 m314 m315 (by omega) (zC_Mesh hm X _ _) rfl rfl (by decide) rfl (Nat.le_of_ble_eq_true rfl) d_X4_giveBack_79 ?_
    refine zr_h (fun h6 eh6 => ?_)
    refine zr_aload_n C d_X4_giveBack_82 rfl ?_
    refine zr_callVv (As := []) (st := []) (c := m) C (c_Mesh_markTicks X h6 g m hm (zfit_fr ((congrFun (congrFun eh6.symm _) _).trans ((fr_Mesh_relate _ _ (by omega) (by omega) (by omega)).trans ((congrFun (congrFun eh5.symm _) _).trans ((zup_fr (by omega)).trans ((congrFun (congrFun eh4.symm _) _).trans ((zcp_fr (by omega)).trans ((congrFun (congrFun eh3.symm _) _).trans ((zcp_fr (by omega)).trans ((congrFun (congrFun eh2.symm _) _).trans (zcp_fr (by omega))))))))))) hf1)) k_Mesh_markTicks m562 m306 m307 (by omega) (zC_Mesh hm X _ _) rfl rfl (by decide) rfl (Nat.le_of_ble_eq_true rfl) d_X4_giveBack_83 ?_
    refine zr_h (fun h7 eh7 => ?_)
    have eR : o_Shelf42_giveBack h row m = h7 := (by subst eh7 eh6 eh5 eh4 eh3 eh2; unfold o_Shelf42_giveBack; rw [if_pos c5])
    subst hQ
    rw [eR]
    exact zr_vret C d_X4_giveBack_86
  · have eR : o_Shelf42_giveBack h row m = h := (by unfold o_Shelf42_giveBack; rw [if_neg (zbf c5)])
    subst hQ
    rw [eR]
    exact zr_vret C d_X4_giveBack_8
def o_Shelf44_giveBack (h : zHp) (row : Int32) (m : Nat) : zHp :=
  (if (o_Shelf44_holds h row) = true then (o_Mesh_markTicks (o_Mesh_relate (zup (zcp (zcp (zcp h 45 (m + 2) ((zcn row) * 25) 0 8) 45 (m + 3) (((zcn row) * 25) + 8) 0 8) 45 (m + 4) (((zcn row) * 25) + 16) 0 8) m 1 (h 45 (((zcn row) * 25) + 24))) m) m) else h)
theorem fr_Shelf44_giveBack {h : zHp} {row : Int32} {m : Nat} (c k : Nat) (q0 : ¬ (c = m ∧ k = 1)) (q1 : c ≠ m + 2) (q2 : c ≠ m + 3) (q3 : c ≠ m + 4) (q4 : c ≠ m + 6) (q5 : c ≠ m + 7) (q6 : c ≠ m + 8) (q7 : c ≠ m + 9) (q8 : c ≠ m + 10) : (o_Shelf44_giveBack h row m) c k = h c k := by
  unfold o_Shelf44_giveBack
  by_cases f1 : (o_Shelf44_holds h row) = true
  · rw [if_pos f1]
    first | done | exact ((fr_Mesh_markTicks _ _ (by assumption) (by assumption)).trans ((fr_Mesh_relate _ _ (by assumption) (by assumption) (by assumption)).trans ((zup_fr (by omega)).trans ((zcp_fr (by assumption)).trans ((zcp_fr (by assumption)).trans (zcp_fr (by assumption)))))))
  · rw [if_neg f1]
    first | done | exact rfl
set_option maxHeartbeats 400000 in
set_option maxRecDepth 20000 in
theorem c_Shelf44_giveBack (X : zXT) (h : zHp) (g : zLg) (row : Int32) (m : Nat) (hm : m = 3 ∨ m = 15 ∨ m = 27) (hf0 : zfit h 44 0 2) (hf1 : zfit h m 0 8) : zDi X M_Shelf_giveBack 3 [zR X 44, .int row, zR X m] h g none (o_Shelf44_giveBack h row m) g := by
  have hf0_1 := hf0.1
  have hf1_1 := hf1.1
  refine zDi_of "PeriodSlots$Shelf" prog_6_method_5_code 4 none rfl (by decide) [zO X 44, zI row, zO X m, none] rfl (fun _ q => q) (Nat.le_of_ble_eq_true rfl) ?_
  intro Γ Q C hQ
  refine zr_aload_n C d_X4_giveBack_0 rfl ?_
  refine zr_iload_n C d_X4_giveBack_1 rfl ?_
  refine zr_callVi (As := [.int row]) (st := []) (c := 44) C (c_Shelf44_holds X h g row) k_Shelf_holds m556 m557 m558 (by decide) (zC_Shelf (by decide) X _ _) rfl rfl (by decide) rfl (Nat.le_of_ble_eq_true rfl) d_X4_giveBack_2 ?_
  refine zr_ifz_ne C 9 d_X4_giveBack_5 (by decide) (fun c5 => ?_) (fun c5 => ?_)
  · have ex1 := zholds44 hf0 c5
    have ex1_2 := ex1.2
    have ex1_b := (hf0).1
    refine zr_iload_n C d_X4_giveBack_9 rfl ?_
    refine zr_bipush C (v := 25) d_X4_giveBack_10 (by decide) ?_
    refine zr_imul C d_X4_giveBack_12 ?_
    refine zr_istore_n C [zO X 44, zI row, zO X m, zI (row * 25)] d_X4_giveBack_13 (Nat.le_of_ble_eq_true rfl) rfl rfl ?_
    refine zr_aload_n C d_X4_giveBack_14 rfl ?_
    refine gf_Shelf_1 C (by decide) m185 d_X4_giveBack_15 ?_
    refine zr_iload_n C d_X4_giveBack_18 rfl ?_
    refine zr_aload_n C d_X4_giveBack_19 rfl ?_
    refine gf_Mesh_4 C hm m108 d_X4_giveBack_20 ?_
    refine zr_iconst C (v := 0) d_X4_giveBack_23 (by decide) ?_
    refine zr_bipush C (v := 8) d_X4_giveBack_24 (by decide) ?_
    refine zr_copy C za_45 (za_mesh_2 hm) m461 ((zcn row) * 25) (0) (8) (zn_mul (zix ex1.1) rfl) rfl rfl (by omega) (by omega) (by decide) (by decide) rfl (Nat.le_of_ble_eq_true rfl) (by decide) d_X4_giveBack_26 ?_
    refine zr_h (fun h2 eh2 => ?_)
    refine zr_aload_n C d_X4_giveBack_29 rfl ?_
    refine gf_Shelf_1 C (by decide) m185 d_X4_giveBack_30 ?_
    refine zr_iload_n C d_X4_giveBack_33 rfl ?_
    refine zr_bipush C (v := 8) d_X4_giveBack_34 (by decide) ?_
    refine zr_iadd C d_X4_giveBack_36 ?_
    refine zr_aload_n C d_X4_giveBack_37 rfl ?_
    refine gf_Mesh_5 C hm m112 d_X4_giveBack_38 ?_
    refine zr_iconst C (v := 0) d_X4_giveBack_41 (by decide) ?_
    refine zr_bipush C (v := 8) d_X4_giveBack_42 (by decide) ?_
    refine zr_copy C za_45 (za_mesh_3 hm) m461 (((zcn row) * 25) + 8) (0) (8) (zn_add (zn_mul (zix ex1.1) rfl) rfl) rfl rfl (by omega) (by omega) (by decide) (by decide) rfl (Nat.le_of_ble_eq_true rfl) (by decide) d_X4_giveBack_44 ?_
    refine zr_h (fun h3 eh3 => ?_)
    refine zr_aload_n C d_X4_giveBack_47 rfl ?_
    refine gf_Shelf_1 C (by decide) m185 d_X4_giveBack_48 ?_
    refine zr_iload_n C d_X4_giveBack_51 rfl ?_
    refine zr_bipush C (v := 16) d_X4_giveBack_52 (by decide) ?_
    refine zr_iadd C d_X4_giveBack_54 ?_
    refine zr_aload_n C d_X4_giveBack_55 rfl ?_
    refine gf_Mesh_6 C hm m115 d_X4_giveBack_56 ?_
    refine zr_iconst C (v := 0) d_X4_giveBack_59 (by decide) ?_
    refine zr_bipush C (v := 8) d_X4_giveBack_60 (by decide) ?_
    refine zr_copy C za_45 (za_mesh_4 hm) m461 (((zcn row) * 25) + 16) (0) (8) (zn_add (zn_mul (zix ex1.1) rfl) rfl) rfl rfl (by omega) (by omega) (by decide) (by decide) rfl (Nat.le_of_ble_eq_true rfl) (by decide) d_X4_giveBack_62 ?_
    refine zr_h (fun h4 eh4 => ?_)
    refine zr_aload_n C d_X4_giveBack_65 rfl ?_
    refine zr_aload_n C d_X4_giveBack_66 rfl ?_
    refine gf_Shelf_1 C (by decide) m185 d_X4_giveBack_67 ?_
    refine zr_iload_n C d_X4_giveBack_70 rfl ?_
    refine zr_bipush C (v := 24) d_X4_giveBack_71 (by decide) ?_
    refine zr_iadd C d_X4_giveBack_73 ?_
    refine zr_iald C za_45 (((zcn row) * 25) + 24) (zn_add (zn_mul (zix ex1.1) rfl) rfl) (by omega) (by decide) d_X4_giveBack_74 ?_
    refine zr_top ((congrFun (congrFun eh4.symm _) _).trans ((zcp_fr (by omega)).trans ((congrFun (congrFun eh3.symm _) _).trans ((zcp_fr (by omega)).trans ((congrFun (congrFun eh2.symm _) _).trans (zcp_fr (by omega))))))) ?_
    refine pf_Mesh_1 C hm m100 d_X4_giveBack_75 ?_
    refine zr_h (fun h5 eh5 => ?_)
    refine zr_aload_n C d_X4_giveBack_78 rfl ?_
    refine zr_callVv (As := []) (st := []) (c := m) C (c_Mesh_relate X h5 g m hm (zfit_fr ((congrFun (congrFun eh5.symm _) _).trans ((zup_fr (by omega)).trans ((congrFun (congrFun eh4.symm _) _).trans ((zcp_fr (by omega)).trans ((congrFun (congrFun eh3.symm _) _).trans ((zcp_fr (by omega)).trans ((congrFun (congrFun eh2.symm _) _).trans (zcp_fr (by omega))))))))) hf1)) k_Mesh_relate m561 m314 m315 (by omega) (zC_Mesh hm X _ _) rfl rfl (by decide) rfl (Nat.le_of_ble_eq_true rfl) d_X4_giveBack_79 ?_
    refine zr_h (fun h6 eh6 => ?_)
    refine zr_aload_n C d_X4_giveBack_82 rfl ?_
    refine zr_callVv (As := []) (st := []) (c := m) C (c_Mesh_markTicks X h6 g m hm (zfit_fr ((congrFun (congrFun eh6.symm _) _).trans ((fr_Mesh_relate _ _ (by omega) (by omega) (by omega)).trans ((congrFun (congrFun eh5.symm _) _).trans ((zup_fr (by omega)).trans ((congrFun (congrFun eh4.symm _) _).trans ((zcp_fr (by omega)).trans ((congrFun (congrFun eh3.symm _) _).trans ((zcp_fr (by omega)).trans ((congrFun (congrFun eh2.symm _) _).trans (zcp_fr (by omega))))))))))) hf1)) k_Mesh_markTicks m562 m306 m307 (by omega) (zC_Mesh hm X _ _) rfl rfl (by decide) rfl (Nat.le_of_ble_eq_true rfl) d_X4_giveBack_83 ?_
    refine zr_h (fun h7 eh7 => ?_)
    have eR : o_Shelf44_giveBack h row m = h7 := (by subst eh7 eh6 eh5 eh4 eh3 eh2; unfold o_Shelf44_giveBack; rw [if_pos c5])
    subst hQ
    rw [eR]
    exact zr_vret C d_X4_giveBack_86
  · have eR : o_Shelf44_giveBack h row m = h := (by unfold o_Shelf44_giveBack; rw [if_neg (zbf c5)])
    subst hQ
    rw [eR]
    exact zr_vret C d_X4_giveBack_8
theorem d_X0_remember_0 : decode prog_2_method_2_code 0 = .ok (.aload_n 0, 1) := by decide +kernel
theorem d_X0_remember_1 : decode prog_2_method_2_code 1 = .ok (.aload_n 0, 1) := by decide +kernel
theorem d_X0_remember_2 : decode prog_2_method_2_code 2 = .ok (.getfield 20, 3) := by decide +kernel
theorem d_X0_remember_5 : decode prog_2_method_2_code 5 = .ok (.iconst 1, 1) := by decide +kernel
theorem d_X0_remember_6 : decode prog_2_method_2_code 6 = .ok (.iadd, 1) := by decide +kernel
theorem d_X0_remember_7 : decode prog_2_method_2_code 7 = .ok (.bipush 14, 2) := by decide +kernel
theorem d_X0_remember_9 : decode prog_2_method_2_code 9 = .ok (.irem, 1) := by decide +kernel
theorem d_X0_remember_10 : decode prog_2_method_2_code 10 = .ok (.putfield 20, 3) := by decide +kernel
theorem d_X0_remember_13 : decode prog_2_method_2_code 13 = .ok (.aload_n 0, 1) := by decide +kernel
theorem d_X0_remember_14 : decode prog_2_method_2_code 14 = .ok (.getfield 14, 3) := by decide +kernel
theorem d_X0_remember_17 : decode prog_2_method_2_code 17 = .ok (.aload_n 0, 1) := by decide +kernel
theorem d_X0_remember_18 : decode prog_2_method_2_code 18 = .ok (.getfield 20, 3) := by decide +kernel
theorem d_X0_remember_21 : decode prog_2_method_2_code 21 = .ok (.aload_n 1, 1) := by decide +kernel
theorem d_X0_remember_22 : decode prog_2_method_2_code 22 = .ok (.invokevirtual 24, 3) := by decide +kernel
theorem d_X0_remember_25 : decode prog_2_method_2_code 25 = .ok (.aload_n 0, 1) := by decide +kernel
theorem d_X0_remember_26 : decode prog_2_method_2_code 26 = .ok (.aload_n 0, 1) := by decide +kernel
theorem d_X0_remember_27 : decode prog_2_method_2_code 27 = .ok (.getfield 28, 3) := by decide +kernel
theorem d_X0_remember_30 : decode prog_2_method_2_code 30 = .ok (.iconst 1, 1) := by decide +kernel
theorem d_X0_remember_31 : decode prog_2_method_2_code 31 = .ok (.iadd, 1) := by decide +kernel
theorem d_X0_remember_32 : decode prog_2_method_2_code 32 = .ok (.bipush 14, 2) := by decide +kernel
theorem d_X0_remember_34 : decode prog_2_method_2_code 34 = .ok (.invokestatic 31, 3) := by decide +kernel
theorem d_X0_remember_37 : decode prog_2_method_2_code 37 = .ok (.putfield 28, 3) := by decide +kernel
theorem d_X0_remember_40 : decode prog_2_method_2_code 40 = .ok (.return_, 1) := by decide +kernel
abbrev M_Acts_remember : zMT := (⟨"PeriodSlots$Acts", "remember", "(LPeriodSlots$Mesh;)V"⟩, prog_2_method_2_code, 2, none)
theorem k_Acts_remember : zcall M_Acts_remember 1 := ⟨zU_in (i := 456) (by decide +kernel) rfl, m58, ⟨by decide, by decide, by decide +kernel⟩, by decide⟩
def o_Acts_remember (h : zHp) (m : Nat) : zHp :=
  (zup (o_Shelf42_put (zup h 41 0 (zrem ((h 41 0) + 1) 14)) (zrem ((h 41 0) + 1) 14) m) 41 1 (if 14 < ((h 41 1) + 1) then 14 else ((h 41 1) + 1)))
theorem fr_Acts_remember {h : zHp} {m : Nat} (c k : Nat) (q0 : ¬ (c = 41 ∧ k = 0)) (q1 : ¬ (c = 41 ∧ k = 1)) (q2 : c ≠ 43) (q3 : ¬ (c = 42 ∧ k = 1)) : (o_Acts_remember h m) c k = h c k := by
  unfold o_Acts_remember
  first | done | exact ((zup_fr (by omega)).trans ((fr_Shelf42_put _ _ (by assumption) (by assumption)).trans (zup_fr (by omega))))
set_option maxHeartbeats 400000 in
set_option maxRecDepth 20000 in
theorem c_Acts_remember (X : zXT) (h : zHp) (g : zLg) (m : Nat) (hm : m = 3 ∨ m = 15 ∨ m = 27) (hf0 : zfit h 41 0 13) (hf1 : zfit h 41 1 14) (hf2 : zfit h 42 0 14) : zDi X M_Acts_remember 2 [zR X 41, zR X m] h g none (o_Acts_remember h m) g := by
  have hf0_1 := hf0.1
  have hf1_1 := hf1.1
  have hf2_1 := hf2.1
  refine zDi_of "PeriodSlots$Acts" prog_2_method_2_code 2 none rfl (by decide) [zO X 41, zO X m] rfl (fun _ q => q) (Nat.le_of_ble_eq_true rfl) ?_
  intro Γ Q C hQ
  refine zr_aload_n C d_X0_remember_0 rfl ?_
  refine zr_aload_n C d_X0_remember_1 rfl ?_
  refine gf_Acts_1 C m195 d_X0_remember_2 ?_
  refine zr_iconst C (v := 1) d_X0_remember_5 (by decide) ?_
  refine zr_iadd C d_X0_remember_6 ?_
  refine zr_bipush C (v := 14) d_X0_remember_7 (by decide) ?_
  refine zr_irem C d_X0_remember_9 (by decide) ?_
  refine pf_Acts_1 C m195 d_X0_remember_10 ?_
  refine zr_h (fun h1 eh1 => ?_)
  have hfh1 : zfit h1 41 0 13 := zfit_of (m := ((zcn (h 41 0)) + 1) % 14) ((congrFun (congrFun eh1.symm _) _).trans (zup_at.trans (zn_rem (zn_add hf0.2 rfl) rfl (by omega) (by omega) (by omega)))) (by omega) (by decide)
  have hfh1_1 := hfh1.1
  refine zr_aload_n C d_X0_remember_13 rfl ?_
  refine gf_Acts_0 C m194 d_X0_remember_14 ?_
  refine zr_aload_n C d_X0_remember_17 rfl ?_
  refine gf_Acts_1 C m195 d_X0_remember_18 ?_
  refine zr_top ((congrFun (congrFun eh1.symm _) _).trans zup_at) ?_
  refine zr_aload_n C d_X0_remember_21 rfl ?_
  refine zr_callVv (As := [.int (zrem ((h 41 0) + 1) 14), zR X m]) (st := []) (c := 42) C (c_Shelf42_put X h1 g (zrem ((h 41 0) + 1) 14) m hm (zfit_fr ((congrFun (congrFun eh1.symm _) _).trans (zup_fr (by omega))) hf2)) k_Shelf_put m457 m458 m459 (by decide) (zC_Shelf (by decide) X _ _) rfl rfl (by decide) rfl (Nat.le_of_ble_eq_true rfl) d_X0_remember_22 ?_
  refine zr_h (fun h2 eh2 => ?_)
  refine zr_aload_n C d_X0_remember_25 rfl ?_
  refine zr_aload_n C d_X0_remember_26 rfl ?_
  refine gf_Acts_2 C m196 d_X0_remember_27 ?_
  refine zr_top ((congrFun (congrFun eh2.symm _) _).trans ((fr_Shelf42_put _ _ (by omega) (by omega)).trans ((congrFun (congrFun eh1.symm _) _).trans (zup_fr (by omega))))) ?_
  refine zr_iconst C (v := 1) d_X0_remember_30 (by decide) ?_
  refine zr_iadd C d_X0_remember_31 ?_
  refine zr_bipush C (v := 14) d_X0_remember_32 (by decide) ?_
  refine zr_mmin C m462 rfl (Nat.le_of_ble_eq_true rfl) (by decide) d_X0_remember_34 ?_
  refine pf_Acts_2 C m196 d_X0_remember_37 ?_
  refine zr_h (fun h3 eh3 => ?_)
  have hfh3 : zfit h3 41 1 14 := zfit_of (m := min ((zcn (h 41 1)) + 1) 14) ((congrFun (congrFun eh3.symm _) _).trans (zup_at.trans (zn_min (zn_add hf1.2 rfl) rfl (by omega) (by omega)))) (by omega) (by decide)
  have hfh3_1 := hfh3.1
  have eR : o_Acts_remember h m = h3 := (by subst eh3 eh2 eh1; unfold o_Acts_remember; exact rfl)
  subst hQ
  rw [eR]
  exact zr_vret C d_X0_remember_40
theorem pf_rem0 {h : zHp} {m : Nat} (f : zfit h 41 0 13) : zfit (o_Acts_remember h m) 41 0 13 := by
  have e : o_Acts_remember h m 41 0 = nI ((zcn (h 41 0) + 1) % 14) := by
    unfold o_Acts_remember
    rw [zup_fr (by omega), fr_Shelf42_put _ _ (by omega) (by omega), zup_at]
    exact zn_rem (zn_add f.2 rfl) rfl (by have := f.1; omega) (by decide) (by decide)
  exact zfit_of e (by omega) (by decide)
theorem pf_rem1 {h : zHp} {m : Nat} (f : zfit h 41 1 14) : zfit (o_Acts_remember h m) 41 1 14 := by
  have e : o_Acts_remember h m 41 1 = nI (min (zcn (h 41 1) + 1) 14) := by
    unfold o_Acts_remember
    rw [zup_at]
    exact zn_min (a := zcn (h 41 1) + 1) (b := 14) (zn_add f.2 rfl) rfl (by have := f.1; omega) (by decide)
  exact zfit_of e (by omega) (by decide)

theorem d_X0_takeBack_0 : decode prog_2_method_3_code 0 = .ok (.aload_n 0, 1) := by decide +kernel
theorem d_X0_takeBack_1 : decode prog_2_method_3_code 1 = .ok (.getfield 14, 3) := by decide +kernel
theorem d_X0_takeBack_4 : decode prog_2_method_3_code 4 = .ok (.aload_n 0, 1) := by decide +kernel
theorem d_X0_takeBack_5 : decode prog_2_method_3_code 5 = .ok (.getfield 20, 3) := by decide +kernel
theorem d_X0_takeBack_8 : decode prog_2_method_3_code 8 = .ok (.aload_n 1, 1) := by decide +kernel
theorem d_X0_takeBack_9 : decode prog_2_method_3_code 9 = .ok (.invokevirtual 37, 3) := by decide +kernel
theorem d_X0_takeBack_12 : decode prog_2_method_3_code 12 = .ok (.aload_n 0, 1) := by decide +kernel
theorem d_X0_takeBack_13 : decode prog_2_method_3_code 13 = .ok (.aload_n 0, 1) := by decide +kernel
theorem d_X0_takeBack_14 : decode prog_2_method_3_code 14 = .ok (.getfield 20, 3) := by decide +kernel
theorem d_X0_takeBack_17 : decode prog_2_method_3_code 17 = .ok (.bipush 14, 2) := by decide +kernel
theorem d_X0_takeBack_19 : decode prog_2_method_3_code 19 = .ok (.iadd, 1) := by decide +kernel
theorem d_X0_takeBack_20 : decode prog_2_method_3_code 20 = .ok (.iconst 1, 1) := by decide +kernel
theorem d_X0_takeBack_21 : decode prog_2_method_3_code 21 = .ok (.isub, 1) := by decide +kernel
theorem d_X0_takeBack_22 : decode prog_2_method_3_code 22 = .ok (.bipush 14, 2) := by decide +kernel
theorem d_X0_takeBack_24 : decode prog_2_method_3_code 24 = .ok (.irem, 1) := by decide +kernel
theorem d_X0_takeBack_25 : decode prog_2_method_3_code 25 = .ok (.putfield 20, 3) := by decide +kernel
theorem d_X0_takeBack_28 : decode prog_2_method_3_code 28 = .ok (.aload_n 0, 1) := by decide +kernel
theorem d_X0_takeBack_29 : decode prog_2_method_3_code 29 = .ok (.iconst 0, 1) := by decide +kernel
theorem d_X0_takeBack_30 : decode prog_2_method_3_code 30 = .ok (.aload_n 0, 1) := by decide +kernel
theorem d_X0_takeBack_31 : decode prog_2_method_3_code 31 = .ok (.getfield 28, 3) := by decide +kernel
theorem d_X0_takeBack_34 : decode prog_2_method_3_code 34 = .ok (.iconst 1, 1) := by decide +kernel
theorem d_X0_takeBack_35 : decode prog_2_method_3_code 35 = .ok (.isub, 1) := by decide +kernel
theorem d_X0_takeBack_36 : decode prog_2_method_3_code 36 = .ok (.invokestatic 40, 3) := by decide +kernel
theorem d_X0_takeBack_39 : decode prog_2_method_3_code 39 = .ok (.putfield 28, 3) := by decide +kernel
theorem d_X0_takeBack_42 : decode prog_2_method_3_code 42 = .ok (.return_, 1) := by decide +kernel
abbrev M_Acts_takeBack : zMT := (⟨"PeriodSlots$Acts", "takeBack", "(LPeriodSlots$Mesh;)V"⟩, prog_2_method_3_code, 2, none)
theorem k_Acts_takeBack : zcall M_Acts_takeBack 1 := ⟨zU_in (i := 551) (by decide +kernel) rfl, m58, ⟨by decide, by decide, by decide +kernel⟩, by decide⟩
def o_Acts_takeBack (h : zHp) (m : Nat) : zHp :=
  (zup (zup (o_Shelf42_giveBack h (h 41 0) m) 41 0 (zrem (((h 41 0) + 14) - 1) 14)) 41 1 (if 0 < ((h 41 1) - 1) then ((h 41 1) - 1) else 0))
theorem fr_Acts_takeBack {h : zHp} {m : Nat} (c k : Nat) (q0 : ¬ (c = 41 ∧ k = 0)) (q1 : ¬ (c = 41 ∧ k = 1)) (q2 : ¬ (c = m ∧ k = 1)) (q3 : c ≠ m + 2) (q4 : c ≠ m + 3) (q5 : c ≠ m + 4) (q6 : c ≠ m + 6) (q7 : c ≠ m + 7) (q8 : c ≠ m + 8) (q9 : c ≠ m + 9) (q10 : c ≠ m + 10) : (o_Acts_takeBack h m) c k = h c k := by
  unfold o_Acts_takeBack
  first | done | exact ((zup_fr (by omega)).trans ((zup_fr (by omega)).trans (fr_Shelf42_giveBack _ _ (by assumption) (by assumption) (by assumption) (by assumption) (by assumption) (by assumption) (by assumption) (by assumption) (by assumption))))
set_option maxHeartbeats 400000 in
set_option maxRecDepth 20000 in
theorem c_Acts_takeBack (X : zXT) (h : zHp) (g : zLg) (m : Nat) (hm : m = 3 ∨ m = 15 ∨ m = 27) (hf0 : zfit h 41 0 13) (hf1 : zfit h 41 1 14) (hf2 : zfit h 42 0 14) (hf3 : zfit h m 0 8) : zDi X M_Acts_takeBack 4 [zR X 41, zR X m] h g none (o_Acts_takeBack h m) g := by
  have hf0_1 := hf0.1
  have hf1_1 := hf1.1
  have hf2_1 := hf2.1
  have hf3_1 := hf3.1
  refine zDi_of "PeriodSlots$Acts" prog_2_method_3_code 2 none rfl (by decide) [zO X 41, zO X m] rfl (fun _ q => q) (Nat.le_of_ble_eq_true rfl) ?_
  intro Γ Q C hQ
  refine zr_aload_n C d_X0_takeBack_0 rfl ?_
  refine gf_Acts_0 C m194 d_X0_takeBack_1 ?_
  refine zr_aload_n C d_X0_takeBack_4 rfl ?_
  refine gf_Acts_1 C m195 d_X0_takeBack_5 ?_
  refine zr_aload_n C d_X0_takeBack_8 rfl ?_
  refine zr_callVv (As := [.int (h 41 0), zR X m]) (st := []) (c := 42) C (c_Shelf42_giveBack X h g (h 41 0) m hm hf2 hf3) k_Shelf_giveBack m552 m553 m554 (by decide) (zC_Shelf (by decide) X _ _) rfl rfl (by decide) rfl (Nat.le_of_ble_eq_true rfl) d_X0_takeBack_9 ?_
  refine zr_h (fun h1 eh1 => ?_)
  refine zr_aload_n C d_X0_takeBack_12 rfl ?_
  refine zr_aload_n C d_X0_takeBack_13 rfl ?_
  refine gf_Acts_1 C m195 d_X0_takeBack_14 ?_
  refine zr_top ((congrFun (congrFun eh1.symm _) _).trans (fr_Shelf42_giveBack _ _ (by omega) (by omega) (by omega) (by omega) (by omega) (by omega) (by omega) (by omega) (by omega))) ?_
  refine zr_bipush C (v := 14) d_X0_takeBack_17 (by decide) ?_
  refine zr_iadd C d_X0_takeBack_19 ?_
  refine zr_iconst C (v := 1) d_X0_takeBack_20 (by decide) ?_
  refine zr_isub C d_X0_takeBack_21 ?_
  refine zr_bipush C (v := 14) d_X0_takeBack_22 (by decide) ?_
  refine zr_irem C d_X0_takeBack_24 (by decide) ?_
  refine pf_Acts_1 C m195 d_X0_takeBack_25 ?_
  refine zr_h (fun h2 eh2 => ?_)
  have hfh2 : zfit h2 41 0 13 := zfit_of (m := (((zcn (h 41 0)) + 14) - 1) % 14) ((congrFun (congrFun eh2.symm _) _).trans (zup_at.trans (zn_rem (zn_sub (zn_add hf0.2 rfl) rfl (by omega)) rfl (by omega) (by omega) (by omega)))) (by omega) (by decide)
  have hfh2_1 := hfh2.1
  refine zr_aload_n C d_X0_takeBack_28 rfl ?_
  refine zr_iconst C (v := 0) d_X0_takeBack_29 (by decide) ?_
  refine zr_aload_n C d_X0_takeBack_30 rfl ?_
  refine gf_Acts_2 C m196 d_X0_takeBack_31 ?_
  refine zr_top ((congrFun (congrFun eh2.symm _) _).trans ((zup_fr (by omega)).trans ((congrFun (congrFun eh1.symm _) _).trans (fr_Shelf42_giveBack _ _ (by omega) (by omega) (by omega) (by omega) (by omega) (by omega) (by omega) (by omega) (by omega))))) ?_
  refine zr_iconst C (v := 1) d_X0_takeBack_34 (by decide) ?_
  refine zr_isub C d_X0_takeBack_35 ?_
  refine zr_mmax C m563 rfl (Nat.le_of_ble_eq_true rfl) (by decide) d_X0_takeBack_36 ?_
  refine pf_Acts_2 C m196 d_X0_takeBack_39 ?_
  refine zr_h (fun h3 eh3 => ?_)
  have eR : o_Acts_takeBack h m = h3 := (by subst eh3 eh2 eh1; unfold o_Acts_takeBack; exact rfl)
  subst hQ
  rw [eR]
  exact zr_vret C d_X0_takeBack_42
theorem d_X0_forget_0 : decode prog_2_method_4_code 0 = .ok (.aload_n 0, 1) := by decide +kernel
theorem d_X0_forget_1 : decode prog_2_method_4_code 1 = .ok (.iconst 0, 1) := by decide +kernel
theorem d_X0_forget_2 : decode prog_2_method_4_code 2 = .ok (.putfield 28, 3) := by decide +kernel
theorem d_X0_forget_5 : decode prog_2_method_4_code 5 = .ok (.return_, 1) := by decide +kernel
abbrev M_Acts_forget : zMT := (⟨"PeriodSlots$Acts", "forget", "()V"⟩, prog_2_method_4_code, 1, none)
theorem k_Acts_forget : zcall M_Acts_forget 0 := ⟨zU_in (i := 388) (by decide +kernel) rfl, m58, ⟨by decide, by decide, by decide +kernel⟩, by decide⟩
def o_Acts_forget (h : zHp) : zHp :=
  (zup h 41 1 0)
theorem fr_Acts_forget {h : zHp} (c k : Nat) (q0 : ¬ (c = 41 ∧ k = 1)) : (o_Acts_forget h) c k = h c k := by
  unfold o_Acts_forget
  first | done | exact (zup_fr (by omega))
set_option maxHeartbeats 400000 in
set_option maxRecDepth 20000 in
theorem c_Acts_forget (X : zXT) (h : zHp) (g : zLg)  : zDi X M_Acts_forget 0 [zR X 41] h g none (o_Acts_forget h) g := by
  refine zDi_of "PeriodSlots$Acts" prog_2_method_4_code 1 none rfl (by decide) [zO X 41] rfl (fun _ q => q) (Nat.le_of_ble_eq_true rfl) ?_
  intro Γ Q C hQ
  refine zr_aload_n C d_X0_forget_0 rfl ?_
  refine zr_iconst C (v := 0) d_X0_forget_1 (by decide) ?_
  refine pf_Acts_2 C m196 d_X0_forget_2 ?_
  refine zr_h (fun h1 eh1 => ?_)
  have eR : o_Acts_forget h = h1 := (by subst eh1; unfold o_Acts_forget; exact rfl)
  subst hQ
  rw [eR]
  exact zr_vret C d_X0_forget_5
theorem d_X2_add_0 : decode prog_4_method_2_code 0 = .ok (.aload_n 0, 1) := by decide +kernel
theorem d_X2_add_1 : decode prog_4_method_2_code 1 = .ok (.getfield 21, 3) := by decide +kernel
theorem d_X2_add_4 : decode prog_4_method_2_code 4 = .ok (.bipush 6, 2) := by decide +kernel
theorem d_X2_add_6 : decode prog_4_method_2_code 6 = .ok (.if_icmp .ge 43, 3) := by decide +kernel
theorem d_X2_add_9 : decode prog_4_method_2_code 9 = .ok (.aload_n 0, 1) := by decide +kernel
theorem d_X2_add_10 : decode prog_4_method_2_code 10 = .ok (.getfield 9, 3) := by decide +kernel
theorem d_X2_add_13 : decode prog_4_method_2_code 13 = .ok (.aload_n 0, 1) := by decide +kernel
theorem d_X2_add_14 : decode prog_4_method_2_code 14 = .ok (.getfield 21, 3) := by decide +kernel
theorem d_X2_add_17 : decode prog_4_method_2_code 17 = .ok (.iload_n 1, 1) := by decide +kernel
theorem d_X2_add_18 : decode prog_4_method_2_code 18 = .ok (.iastore, 1) := by decide +kernel
theorem d_X2_add_19 : decode prog_4_method_2_code 19 = .ok (.aload_n 0, 1) := by decide +kernel
theorem d_X2_add_20 : decode prog_4_method_2_code 20 = .ok (.getfield 15, 3) := by decide +kernel
theorem d_X2_add_23 : decode prog_4_method_2_code 23 = .ok (.aload_n 0, 1) := by decide +kernel
theorem d_X2_add_24 : decode prog_4_method_2_code 24 = .ok (.getfield 21, 3) := by decide +kernel
theorem d_X2_add_27 : decode prog_4_method_2_code 27 = .ok (.iload_n 2, 1) := by decide +kernel
theorem d_X2_add_28 : decode prog_4_method_2_code 28 = .ok (.iastore, 1) := by decide +kernel
theorem d_X2_add_29 : decode prog_4_method_2_code 29 = .ok (.aload_n 0, 1) := by decide +kernel
theorem d_X2_add_30 : decode prog_4_method_2_code 30 = .ok (.getfield 18, 3) := by decide +kernel
theorem d_X2_add_33 : decode prog_4_method_2_code 33 = .ok (.aload_n 0, 1) := by decide +kernel
theorem d_X2_add_34 : decode prog_4_method_2_code 34 = .ok (.getfield 21, 3) := by decide +kernel
theorem d_X2_add_37 : decode prog_4_method_2_code 37 = .ok (.iload_n 3, 1) := by decide +kernel
theorem d_X2_add_38 : decode prog_4_method_2_code 38 = .ok (.iastore, 1) := by decide +kernel
theorem d_X2_add_39 : decode prog_4_method_2_code 39 = .ok (.aload_n 0, 1) := by decide +kernel
theorem d_X2_add_40 : decode prog_4_method_2_code 40 = .ok (.dup, 1) := by decide +kernel
theorem d_X2_add_41 : decode prog_4_method_2_code 41 = .ok (.getfield 21, 3) := by decide +kernel
theorem d_X2_add_44 : decode prog_4_method_2_code 44 = .ok (.iconst 1, 1) := by decide +kernel
theorem d_X2_add_45 : decode prog_4_method_2_code 45 = .ok (.iadd, 1) := by decide +kernel
theorem d_X2_add_46 : decode prog_4_method_2_code 46 = .ok (.putfield 21, 3) := by decide +kernel
theorem d_X2_add_49 : decode prog_4_method_2_code 49 = .ok (.return_, 1) := by decide +kernel
abbrev M_Obs_add : zMT := (⟨"PeriodSlots$Observations", "add", "(III)V"⟩, prog_4_method_2_code, 4, none)
theorem k_Obs_add : zcall M_Obs_add 3 := ⟨zU_in (i := 663) (by decide +kernel) rfl, m61, ⟨by decide, by decide, by decide +kernel⟩, by decide⟩
def o_Obs_add (h : zHp) (station : Int32) (tick : Int32) (was : Int32) : zHp :=
  (if 6 ≤ (h 46 0) then h else (zup (zup (zup (zup h 47 (zcn (h 46 0)) station) 48 (zcn (h 46 0)) tick) 49 (zcn (h 46 0)) was) 46 0 ((h 46 0) + 1)))
theorem fr_Obs_add {h : zHp} {station : Int32} {tick : Int32} {was : Int32} (c k : Nat) (q0 : c ≠ 47) (q1 : c ≠ 48) (q2 : c ≠ 49) (q3 : ¬ (c = 46 ∧ k = 0)) : (o_Obs_add h station tick was) c k = h c k := by
  unfold o_Obs_add
  first | done | exact (zite_fr (fun _ => rfl) (fun _ => ((zup_fr (by omega)).trans ((zup_fr (Or.inl (by assumption))).trans ((zup_fr (Or.inl (by assumption))).trans (zup_fr (Or.inl (by assumption))))))))
set_option maxHeartbeats 400000 in
set_option maxRecDepth 20000 in
theorem c_Obs_add (X : zXT) (h : zHp) (g : zLg) (station : Int32) (tick : Int32) (was : Int32) (hf0 : zfit h 46 0 6) : zDi X M_Obs_add 0 [zR X 46, .int station, .int tick, .int was] h g none (o_Obs_add h station tick was) g := by
  have hf0_1 := hf0.1
  refine zDi_of "PeriodSlots$Observations" prog_4_method_2_code 4 none rfl (by decide) [zO X 46, zI station, zI tick, zI was] rfl (fun _ q => q) (Nat.le_of_ble_eq_true rfl) ?_
  intro Γ Q C hQ
  refine zr_aload_n C d_X2_add_0 rfl ?_
  refine gf_Obs_3 C m216 d_X2_add_1 ?_
  refine zr_bipush C (v := 6) d_X2_add_4 (by decide) ?_
  suffices hJ6 : ∀ (h7 : zHp), (if 6 ≤ (h 46 0) then h else (zup (zup (zup (zup h 47 (zcn (h 46 0)) station) 48 (zcn (h 46 0)) tick) 49 (zcn (h 46 0)) was) 46 0 ((h 46 0) + 1))) = h7 → zV X Γ Q 49 [none, none, none, none] [] h7 g by
    refine zr_icmp_ge C 49 d_X2_add_6 (by decide) (fun c6 => ?_) (fun c6 => ?_)
    · have en1 := zn_ge (a := zcn (h 46 0)) (b := 6) hf0.2 rfl c6 (zcn_small _) (by decide)
      refine zr_lv [none, none, none, none] (by simp [zle]) ?_
      exact hJ6 h (((if_pos c6)))
    · have en2 := zn_nge (a := zcn (h 46 0)) (b := 6) hf0.2 rfl c6 (zcn_small _) (by decide)
      refine zr_aload_n C d_X2_add_9 rfl ?_
      refine gf_Obs_0 C m213 d_X2_add_10 ?_
      refine zr_aload_n C d_X2_add_13 rfl ?_
      refine gf_Obs_3 C m216 d_X2_add_14 ?_
      refine zr_iload_n C d_X2_add_17 rfl ?_
      refine zr_iast C za_47 (zcn (h 46 0)) hf0.2 (by omega) (by decide) d_X2_add_18 ?_
      refine zr_h (fun h3 eh3 => ?_)
      refine zr_aload_n C d_X2_add_19 rfl ?_
      refine gf_Obs_1 C m214 d_X2_add_20 ?_
      refine zr_aload_n C d_X2_add_23 rfl ?_
      refine gf_Obs_3 C m216 d_X2_add_24 ?_
      refine zr_top ((congrFun (congrFun eh3.symm _) _).trans (zup_fr (by omega))) ?_
      refine zr_iload_n C d_X2_add_27 rfl ?_
      refine zr_iast C za_48 (zcn (h 46 0)) hf0.2 (by omega) (by decide) d_X2_add_28 ?_
      refine zr_h (fun h4 eh4 => ?_)
      refine zr_aload_n C d_X2_add_29 rfl ?_
      refine gf_Obs_2 C m215 d_X2_add_30 ?_
      refine zr_aload_n C d_X2_add_33 rfl ?_
      refine gf_Obs_3 C m216 d_X2_add_34 ?_
      refine zr_top ((congrFun (congrFun eh4.symm _) _).trans ((zup_fr (by omega)).trans ((congrFun (congrFun eh3.symm _) _).trans (zup_fr (by omega))))) ?_
      refine zr_iload_n C d_X2_add_37 rfl ?_
      refine zr_iast C za_49 (zcn (h 46 0)) hf0.2 (by omega) (by decide) d_X2_add_38 ?_
      refine zr_h (fun h5 eh5 => ?_)
      refine zr_aload_n C d_X2_add_39 rfl ?_
      refine zr_dup C d_X2_add_40 rfl ?_
      refine gf_Obs_3 C m216 d_X2_add_41 ?_
      refine zr_top ((congrFun (congrFun eh5.symm _) _).trans ((zup_fr (by omega)).trans ((congrFun (congrFun eh4.symm _) _).trans ((zup_fr (by omega)).trans ((congrFun (congrFun eh3.symm _) _).trans (zup_fr (by omega))))))) ?_
      refine zr_iconst C (v := 1) d_X2_add_44 (by decide) ?_
      refine zr_iadd C d_X2_add_45 ?_
      refine pf_Obs_3 C m216 d_X2_add_46 ?_
      refine zr_h (fun h6 eh6 => ?_)
      have hfh6 : zfit h6 46 0 6 := zfit_of (m := (zcn (h 46 0)) + 1) ((congrFun (congrFun eh6.symm _) _).trans (zup_at.trans (zn_add hf0.2 rfl))) (by omega) (by decide)
      have hfh6_1 := hfh6.1
      refine zr_lv [none, none, none, none] (by simp [zle]) ?_
      exact hJ6 h6 (by subst eh6 eh5 eh4 eh3; exact ((if_neg c6)))
  intro h7 eh7
  have eR : o_Obs_add h station tick was = h7 := (by subst eh7; unfold o_Obs_add; exact rfl)
  subst hQ
  rw [eR]
  exact zr_vret C d_X2_add_49
theorem d_X2_sight_0 : decode prog_4_method_4_code 0 = .ok (.iconst 2, 1) := by decide +kernel
theorem d_X2_sight_1 : decode prog_4_method_4_code 1 = .ok (.aload_n 0, 1) := by decide +kernel
theorem d_X2_sight_2 : decode prog_4_method_4_code 2 = .ok (.iload_n 1, 1) := by decide +kernel
theorem d_X2_sight_3 : decode prog_4_method_4_code 3 = .ok (.iload_n 2, 1) := by decide +kernel
theorem d_X2_sight_4 : decode prog_4_method_4_code 4 = .ok (.invokevirtual 35, 3) := by decide +kernel
theorem d_X2_sight_7 : decode prog_4_method_4_code 7 = .ok (.invokestatic 39, 3) := by decide +kernel
theorem d_X2_sight_10 : decode prog_4_method_4_code 10 = .ok (.invokestatic 45, 3) := by decide +kernel
theorem d_X2_sight_13 : decode prog_4_method_4_code 13 = .ok (.ireturn, 1) := by decide +kernel
abbrev M_Obs_sight : zMT := (⟨"PeriodSlots$Observations", "sight", "(LPeriodSlots$Mesh;II)I"⟩, prog_4_method_4_code, 3, (some .int))
theorem k_Obs_sight : zcall M_Obs_sight 3 := ⟨zU_in (i := 679) (by decide +kernel) rfl, m61, ⟨by decide, by decide, by decide +kernel⟩, by decide⟩
def o_Obs_sight (h : zHp) (m : Nat) (station : Nat) (tick : Int32) : Int32 :=
  (if (o_Int_bitCount (o_Mesh_neighboursAt h m station tick)) < 2 then (o_Int_bitCount (o_Mesh_neighboursAt h m station tick)) else 2)
theorem rd_Obs_sight {h h2 : zHp} {m : Nat} {station : Nat} {tick : Int32} (e0 : h2 (m + 2) = h (m + 2)) (e1 : h2 (m + 9) = h (m + 9)) (e2 : h2 m 0 = h m 0) : o_Obs_sight h2 m station tick = o_Obs_sight h m station tick := by
  unfold o_Obs_sight
  simp only [e0, e1, e2, rd_Mesh_neighboursAt e0 e1 e2]

set_option maxHeartbeats 400000 in
set_option maxRecDepth 20000 in
theorem c_Obs_sight (X : zXT) (h : zHp) (g : zLg) (m : Nat) (station : Nat) (tick : Int32) {x_station : Int32} (e_station : x_station = nI station) (hm : m = 3 ∨ m = 15 ∨ m = 27) (hf0 : zfit h m 0 8) (hl1 : station < 8) : zDi X M_Obs_sight 2 [zR X m, .int x_station, .int tick] h g (zI (o_Obs_sight h m station tick)) h g := by
  subst e_station
  have hf0_1 := hf0.1
  refine zDi_of "PeriodSlots$Observations" prog_4_method_4_code 3 (some .int) rfl (by decide) [zO X m, zI (nI station), zI tick] rfl (fun _ q => q) (Nat.le_of_ble_eq_true rfl) ?_
  intro Γ Q C hQ
  refine zr_iconst C (v := 2) d_X2_sight_0 (by decide) ?_
  refine zr_aload_n C d_X2_sight_1 rfl ?_
  refine zr_iload_n C d_X2_sight_2 rfl ?_
  refine zr_iload_n C d_X2_sight_3 rfl ?_
  refine zr_callVi (As := [.int (nI station), .int tick]) (st := [.int 2]) (c := m) C (c_Mesh_neighboursAt X h g m station tick rfl hm hf0 (by omega)) k_Mesh_neighboursAt m680 m620 m621 (by omega) (zC_Mesh hm X _ _) rfl rfl (by decide) rfl (Nat.le_of_ble_eq_true rfl) d_X2_sight_4 ?_
  refine zr_callSi (As := [.int (o_Mesh_neighboursAt h m station tick)]) (st := [.int 2]) C (c_Int_bitCount X h g (o_Mesh_neighboursAt h m station tick)) k_Int_bitCount m681 m349 rfl (by decide) rfl (Nat.le_of_ble_eq_true rfl) d_X2_sight_7 ?_
  refine zr_mmin C m682 rfl (Nat.le_of_ble_eq_true rfl) (by decide) d_X2_sight_10 ?_
  have eR : o_Obs_sight h m station tick = (if (o_Int_bitCount (o_Mesh_neighboursAt h m station tick)) < 2 then (o_Int_bitCount (o_Mesh_neighboursAt h m station tick)) else 2) := (by unfold o_Obs_sight; exact rfl)
  subst hQ
  rw [eR]
  exact zr_ireti C d_X2_sight_13
theorem d_X2_agreeWith_0 : decode prog_4_method_3_code 0 = .ok (.iconst 0, 1) := by decide +kernel
theorem d_X2_agreeWith_1 : decode prog_4_method_3_code 1 = .ok (.istore_n 2, 1) := by decide +kernel
theorem d_X2_agreeWith_2 : decode prog_4_method_3_code 2 = .ok (.iload_n 2, 1) := by decide +kernel
theorem d_X2_agreeWith_3 : decode prog_4_method_3_code 3 = .ok (.aload_n 0, 1) := by decide +kernel
theorem d_X2_agreeWith_4 : decode prog_4_method_3_code 4 = .ok (.getfield 21, 3) := by decide +kernel
theorem d_X2_agreeWith_7 : decode prog_4_method_3_code 7 = .ok (.if_icmp .ge 55, 3) := by decide +kernel
theorem d_X2_agreeWith_10 : decode prog_4_method_3_code 10 = .ok (.iload_n 2, 1) := by decide +kernel
theorem d_X2_agreeWith_11 : decode prog_4_method_3_code 11 = .ok (.bipush 6, 2) := by decide +kernel
theorem d_X2_agreeWith_13 : decode prog_4_method_3_code 13 = .ok (.if_icmp .ge 49, 3) := by decide +kernel
theorem d_X2_agreeWith_16 : decode prog_4_method_3_code 16 = .ok (.aload_n 1, 1) := by decide +kernel
theorem d_X2_agreeWith_17 : decode prog_4_method_3_code 17 = .ok (.aload_n 0, 1) := by decide +kernel
theorem d_X2_agreeWith_18 : decode prog_4_method_3_code 18 = .ok (.getfield 9, 3) := by decide +kernel
theorem d_X2_agreeWith_21 : decode prog_4_method_3_code 21 = .ok (.iload_n 2, 1) := by decide +kernel
theorem d_X2_agreeWith_22 : decode prog_4_method_3_code 22 = .ok (.iaload, 1) := by decide +kernel
theorem d_X2_agreeWith_23 : decode prog_4_method_3_code 23 = .ok (.invokevirtual 25, 3) := by decide +kernel
theorem d_X2_agreeWith_26 : decode prog_4_method_3_code 26 = .ok (.ifCond .eq 30, 3) := by decide +kernel
theorem d_X2_agreeWith_29 : decode prog_4_method_3_code 29 = .ok (.aload_n 1, 1) := by decide +kernel
theorem d_X2_agreeWith_30 : decode prog_4_method_3_code 30 = .ok (.aload_n 0, 1) := by decide +kernel
theorem d_X2_agreeWith_31 : decode prog_4_method_3_code 31 = .ok (.getfield 9, 3) := by decide +kernel
theorem d_X2_agreeWith_34 : decode prog_4_method_3_code 34 = .ok (.iload_n 2, 1) := by decide +kernel
theorem d_X2_agreeWith_35 : decode prog_4_method_3_code 35 = .ok (.iaload, 1) := by decide +kernel
theorem d_X2_agreeWith_36 : decode prog_4_method_3_code 36 = .ok (.aload_n 0, 1) := by decide +kernel
theorem d_X2_agreeWith_37 : decode prog_4_method_3_code 37 = .ok (.getfield 15, 3) := by decide +kernel
theorem d_X2_agreeWith_40 : decode prog_4_method_3_code 40 = .ok (.iload_n 2, 1) := by decide +kernel
theorem d_X2_agreeWith_41 : decode prog_4_method_3_code 41 = .ok (.iaload, 1) := by decide +kernel
theorem d_X2_agreeWith_42 : decode prog_4_method_3_code 42 = .ok (.invokestatic 31, 3) := by decide +kernel
theorem d_X2_agreeWith_45 : decode prog_4_method_3_code 45 = .ok (.aload_n 0, 1) := by decide +kernel
theorem d_X2_agreeWith_46 : decode prog_4_method_3_code 46 = .ok (.getfield 18, 3) := by decide +kernel
theorem d_X2_agreeWith_49 : decode prog_4_method_3_code 49 = .ok (.iload_n 2, 1) := by decide +kernel
theorem d_X2_agreeWith_50 : decode prog_4_method_3_code 50 = .ok (.iaload, 1) := by decide +kernel
theorem d_X2_agreeWith_51 : decode prog_4_method_3_code 51 = .ok (.if_icmp .eq 5, 3) := by decide +kernel
theorem d_X2_agreeWith_54 : decode prog_4_method_3_code 54 = .ok (.iconst 0, 1) := by decide +kernel
theorem d_X2_agreeWith_55 : decode prog_4_method_3_code 55 = .ok (.ireturn, 1) := by decide +kernel
theorem d_X2_agreeWith_56 : decode prog_4_method_3_code 56 = .ok (.iinc 2 1, 3) := by decide +kernel
theorem d_X2_agreeWith_59 : decode prog_4_method_3_code 59 = .ok (.goto (-57), 3) := by decide +kernel
theorem d_X2_agreeWith_62 : decode prog_4_method_3_code 62 = .ok (.iconst 1, 1) := by decide +kernel
theorem d_X2_agreeWith_63 : decode prog_4_method_3_code 63 = .ok (.ireturn, 1) := by decide +kernel
abbrev M_Obs_agreeWith : zMT := (⟨"PeriodSlots$Observations", "agreeWith", "(LPeriodSlots$Mesh;)Z"⟩, prog_4_method_3_code, 3, (some .boolean))
theorem k_Obs_agreeWith : zcall M_Obs_agreeWith 1 := ⟨zU_in (i := 675) (by decide +kernel) rfl, m61, ⟨by decide, by decide, by decide +kernel⟩, by decide⟩
def o_Obs_agreeWith (h : zHp) (m : Nat) : Bool :=
  (Sum.elim (fun r2_1 => true) (fun q2_1 => q2_1) (zrex (fun (i2_1 : Nat) (s2_1 : Unit) => ((if (o_Mesh_exists h m (h 47 i2_1)) = true then (if (o_Obs_sight h m (zcn (h 47 i2_1)) (h 48 i2_1)) = (h 49 i2_1) then .inl () else .inr false) else .inl ()) : (Unit) ⊕ (Bool))) () (zcn (h 46 0))))
theorem rd_Obs_agreeWith {h h2 : zHp} {m : Nat} (e0 : h2 46 0 = h 46 0) (e1 : h2 47 = h 47) (e2 : h2 48 = h 48) (e3 : h2 49 = h 49) (e4 : h2 (m + 2) = h (m + 2)) (e5 : h2 (m + 9) = h (m + 9)) (e6 : h2 m 0 = h m 0) : o_Obs_agreeWith h2 m = o_Obs_agreeWith h m := by
  unfold o_Obs_agreeWith
  simp only [e0, e1, e2, e3, e4, e5, e6, rd_Mesh_exists e6, rd_Obs_sight e4 e5 e6]

set_option maxHeartbeats 400000 in
set_option maxRecDepth 20000 in
theorem c_Obs_agreeWith (X : zXT) (h : zHp) (g : zLg) (m : Nat) (hm : m = 3 ∨ m = 15 ∨ m = 27) (hf0 : zfit h 46 0 6) (hf1 : zfit h m 0 8) : zDi X M_Obs_agreeWith 3 [zR X 46, zR X m] h g (zI (zb (o_Obs_agreeWith h m))) h g := by
  have hf0_1 := hf0.1
  have hf1_1 := hf1.1
  refine zDi_of "PeriodSlots$Observations" prog_4_method_3_code 3 (some .boolean) rfl (by decide) [zO X 46, zO X m, none] rfl (fun _ q => q) (Nat.le_of_ble_eq_true rfl) ?_
  intro Γ Q C hQ
  refine zr_iconst C (v := 0) d_X2_agreeWith_0 (by decide) ?_
  refine zr_istore_n C [zO X 46, zO X m, zI 0] d_X2_agreeWith_1 (Nat.le_of_ble_eq_true rfl) rfl rfl ?_
  refine zforx (f := (fun (i2_1 : Nat) (s2_1 : Unit) => ((if (o_Mesh_exists h m (h 47 i2_1)) = true then (if (o_Obs_sight h m (zcn (h 47 i2_1)) (h 48 i2_1)) = (h 49 i2_1) then .inl () else .inr false) else .inl ()) : (Unit) ⊕ (Bool)))) (a := ()) (fun i2_1 s2_1 => zV X Γ Q 2 [zO X 46, zO X m, zI (nI i2_1)] [] h g) (fun _ _ => True) (zcn (h 46 0)) trivial (fun i2_1 s2_1 hi2_1 hI2_1 => ⟨(fun _ _ => trivial), fun hk2_1 hx2_1 => ?_⟩) (fun r2_1 er2_1 hI2_1 => ?_)
  · refine zr_iload_n C d_X2_agreeWith_2 rfl ?_
    refine zr_aload_n C d_X2_agreeWith_3 rfl ?_
    refine gf_Obs_3 C m216 d_X2_agreeWith_4 ?_
    refine zr_icmp_ge C 62 d_X2_agreeWith_7 (by decide) (fun c => absurd c (zge_no rfl (by omega))) (fun _ => ?_)
    refine zr_iload_n C d_X2_agreeWith_10 rfl ?_
    refine zr_bipush C (v := 6) d_X2_agreeWith_11 (by decide) ?_
    refine zr_icmp_ge C 62 d_X2_agreeWith_13 (by decide) (fun c => absurd c (zge_noN (B := 6) rfl (by omega) (by decide))) (fun _ => ?_)
    refine zr_aload_n C d_X2_agreeWith_16 rfl ?_
    refine zr_aload_n C d_X2_agreeWith_17 rfl ?_
    refine gf_Obs_0 C m213 d_X2_agreeWith_18 ?_
    refine zr_iload_n C d_X2_agreeWith_21 rfl ?_
    refine zr_iald C za_47 (i2_1) rfl (by omega) (by decide) d_X2_agreeWith_22 ?_
    refine zr_callVi (As := [.int (h 47 i2_1)]) (st := []) (c := m) C (c_Mesh_exists X h g m (h 47 i2_1) hm) k_Mesh_exists m676 m359 m360 (by omega) (zC_Mesh hm X _ _) rfl rfl (by decide) rfl (Nat.le_of_ble_eq_true rfl) d_X2_agreeWith_23 ?_
    refine zr_ifz_eq C 56 d_X2_agreeWith_26 (by decide) (fun c26 => ?_) (fun c26 => ?_)
    · refine zr_iinc C [zO X 46, zO X m, zI (nI (i2_1 + 1))] (v := (nI (i2_1 + 1))) d_X2_agreeWith_56 rfl (zn_add rfl rfl) (Nat.le_of_ble_eq_true rfl) rfl rfl ?_
      refine zr_goto C 2 d_X2_agreeWith_59 (by decide) ?_
      exact hk2_1 () ((if_neg (zbf c26)))
    · have ex2 := zex c26
      have ex2_2 := ex2.2
      have ex2_b := (hf1).1
      refine zr_aload_n C d_X2_agreeWith_29 rfl ?_
      refine zr_aload_n C d_X2_agreeWith_30 rfl ?_
      refine gf_Obs_0 C m213 d_X2_agreeWith_31 ?_
      refine zr_iload_n C d_X2_agreeWith_34 rfl ?_
      refine zr_iald C za_47 (i2_1) rfl (by omega) (by decide) d_X2_agreeWith_35 ?_
      refine zr_aload_n C d_X2_agreeWith_36 rfl ?_
      refine gf_Obs_1 C m214 d_X2_agreeWith_37 ?_
      refine zr_iload_n C d_X2_agreeWith_40 rfl ?_
      refine zr_iald C za_48 (i2_1) rfl (by omega) (by decide) d_X2_agreeWith_41 ?_
      refine zr_callSi (As := [zR X m, .int (h 47 i2_1), .int (h 48 i2_1)]) (st := []) C (c_Obs_sight X h g m (zcn (h 47 i2_1)) (h 48 i2_1) (zix ex2.1) hm hf1 (by omega)) k_Obs_sight m677 m678 rfl (by decide) rfl (Nat.le_of_ble_eq_true rfl) d_X2_agreeWith_42 ?_
      refine zr_aload_n C d_X2_agreeWith_45 rfl ?_
      refine gf_Obs_2 C m215 d_X2_agreeWith_46 ?_
      refine zr_iload_n C d_X2_agreeWith_49 rfl ?_
      refine zr_iald C za_49 (i2_1) rfl (by omega) (by decide) d_X2_agreeWith_50 ?_
      refine zr_icmp_eq C 56 d_X2_agreeWith_51 (by decide) (fun c51 => ?_) (fun c51 => ?_)
      · refine zr_iinc C [zO X 46, zO X m, zI (nI (i2_1 + 1))] (v := (nI (i2_1 + 1))) d_X2_agreeWith_56 rfl (zn_add rfl rfl) (Nat.le_of_ble_eq_true rfl) rfl rfl ?_
        refine zr_goto C 2 d_X2_agreeWith_59 (by decide) ?_
        exact hk2_1 () ((if_pos c26).trans ((if_pos c51)))
      · refine zr_iconst C (v := 0) d_X2_agreeWith_54 (by decide) ?_
        have hr2_1 := hx2_1 (false) (((if_pos c26).trans ((if_neg c51))))
        have eR : o_Obs_agreeWith h m = false := (by unfold o_Obs_agreeWith; exact ((congrArg (Sum.elim _ _) hr2_1)))
        subst hQ
        rw [eR]
        exact zr_iretz C (Or.inl rfl) d_X2_agreeWith_55
  refine zr_iload_n C d_X2_agreeWith_2 rfl ?_
  refine zr_aload_n C d_X2_agreeWith_3 rfl ?_
  refine gf_Obs_3 C m216 d_X2_agreeWith_4 ?_
  refine zr_icmp_ge C 62 d_X2_agreeWith_7 (by decide) (fun _ => ?_) (fun c => absurd (zge_yes rfl (by omega) (by have := zcn_small (h 46 0); omega)) c)
  refine zr_iconst C (v := 1) d_X2_agreeWith_62 (by decide) ?_
  have eR : o_Obs_agreeWith h m = true := (by unfold o_Obs_agreeWith; exact ((congrArg (Sum.elim _ _) er2_1)))
  subst hQ
  rw [eR]
  exact zr_iretz C (Or.inr rfl) d_X2_agreeWith_63
theorem d_X3_openOffsets_0 : decode prog_5_method_4_code 0 = .ok (.iconst 0, 1) := by decide +kernel
theorem d_X3_openOffsets_1 : decode prog_5_method_4_code 1 = .ok (.istore_n 3, 1) := by decide +kernel
theorem d_X3_openOffsets_2 : decode prog_5_method_4_code 2 = .ok (.iconst 0, 1) := by decide +kernel
theorem d_X3_openOffsets_3 : decode prog_5_method_4_code 3 = .ok (.istore 4, 2) := by decide +kernel
theorem d_X3_openOffsets_5 : decode prog_5_method_4_code 5 = .ok (.iload 4, 2) := by decide +kernel
theorem d_X3_openOffsets_7 : decode prog_5_method_4_code 7 = .ok (.aload_n 1, 1) := by decide +kernel
theorem d_X3_openOffsets_8 : decode prog_5_method_4_code 8 = .ok (.getfield 21, 3) := by decide +kernel
theorem d_X3_openOffsets_11 : decode prog_5_method_4_code 11 = .ok (.if_icmp .ge 36, 3) := by decide +kernel
theorem d_X3_openOffsets_14 : decode prog_5_method_4_code 14 = .ok (.aload_n 1, 1) := by decide +kernel
theorem d_X3_openOffsets_15 : decode prog_5_method_4_code 15 = .ok (.getfield 57, 3) := by decide +kernel
theorem d_X3_openOffsets_18 : decode prog_5_method_4_code 18 = .ok (.iload_n 2, 1) := by decide +kernel
theorem d_X3_openOffsets_19 : decode prog_5_method_4_code 19 = .ok (.iaload, 1) := by decide +kernel
theorem d_X3_openOffsets_20 : decode prog_5_method_4_code 20 = .ok (.iload 4, 2) := by decide +kernel
theorem d_X3_openOffsets_22 : decode prog_5_method_4_code 22 = .ok (.invokestatic 42, 3) := by decide +kernel
theorem d_X3_openOffsets_25 : decode prog_5_method_4_code 25 = .ok (.ifCond .eq 16, 3) := by decide +kernel
theorem d_X3_openOffsets_28 : decode prog_5_method_4_code 28 = .ok (.iload_n 3, 1) := by decide +kernel
theorem d_X3_openOffsets_29 : decode prog_5_method_4_code 29 = .ok (.aload_n 1, 1) := by decide +kernel
theorem d_X3_openOffsets_30 : decode prog_5_method_4_code 30 = .ok (.iload 4, 2) := by decide +kernel
theorem d_X3_openOffsets_32 : decode prog_5_method_4_code 32 = .ok (.aload_n 0, 1) := by decide +kernel
theorem d_X3_openOffsets_33 : decode prog_5_method_4_code 33 = .ok (.iload 4, 2) := by decide +kernel
theorem d_X3_openOffsets_35 : decode prog_5_method_4_code 35 = .ok (.iaload, 1) := by decide +kernel
theorem d_X3_openOffsets_36 : decode prog_5_method_4_code 36 = .ok (.invokevirtual 60, 3) := by decide +kernel
theorem d_X3_openOffsets_39 : decode prog_5_method_4_code 39 = .ok (.ior, 1) := by decide +kernel
theorem d_X3_openOffsets_40 : decode prog_5_method_4_code 40 = .ok (.istore_n 3, 1) := by decide +kernel
theorem d_X3_openOffsets_41 : decode prog_5_method_4_code 41 = .ok (.iinc 4 1, 3) := by decide +kernel
theorem d_X3_openOffsets_44 : decode prog_5_method_4_code 44 = .ok (.goto (-39), 3) := by decide +kernel
theorem d_X3_openOffsets_47 : decode prog_5_method_4_code 47 = .ok (.aload_n 1, 1) := by decide +kernel
theorem d_X3_openOffsets_48 : decode prog_5_method_4_code 48 = .ok (.iload_n 2, 1) := by decide +kernel
theorem d_X3_openOffsets_49 : decode prog_5_method_4_code 49 = .ok (.iload_n 3, 1) := by decide +kernel
theorem d_X3_openOffsets_50 : decode prog_5_method_4_code 50 = .ok (.invokevirtual 64, 3) := by decide +kernel
theorem d_X3_openOffsets_53 : decode prog_5_method_4_code 53 = .ok (.ireturn, 1) := by decide +kernel
abbrev M_Planner_openOffsets : zMT := (⟨"PeriodSlots$Planner", "openOffsets", "([ILPeriodSlots$Mesh;I)I"⟩, prog_5_method_4_code, 5, (some .int))
theorem k_Planner_openOffsets : zcall M_Planner_openOffsets 3 := ⟨zU_in (i := 590) (by decide +kernel) rfl, m57, ⟨by decide, by decide, by decide +kernel⟩, by decide⟩
def o_Planner_openOffsets (h : zHp) (m : Nat) (v : Nat) : Int32 :=
  (o_Mesh_offsetsOutside h m v (zrep (fun (i5_1 : Nat) (s5_1 : Int32) => (if (o_Slots_has (h (m + 6) v) (nI i5_1)) = true then (s5_1 ||| (o_Mesh_ticksAt h m i5_1 (h 40 i5_1))) else s5_1)) 0 (zcn (h m 0))))
theorem rd_Planner_openOffsets {h h2 : zHp} {m : Nat} {v : Nat} (e0 : h2 40 = h 40) (e1 : h2 (m + 1) = h (m + 1)) (e2 : h2 (m + 5) = h (m + 5)) (e3 : h2 (m + 6) = h (m + 6)) (e4 : h2 m 0 = h m 0) : o_Planner_openOffsets h2 m v = o_Planner_openOffsets h m v := by
  unfold o_Planner_openOffsets
  simp only [e0, e1, e2, e3, e4, rd_Mesh_ticksAt e2, rd_Mesh_offsetsOutside e1 e2]

set_option maxHeartbeats 400000 in
set_option maxRecDepth 20000 in
theorem c_Planner_openOffsets (X : zXT) (h : zHp) (g : zLg) (m : Nat) (v : Nat) {x_v : Int32} (e_v : x_v = nI v) (hm : m = 3 ∨ m = 15 ∨ m = 27) (hf0 : zfit h m 0 8) (hl1 : v < 8) : zDi X M_Planner_openOffsets 1 [zR X 40, zR X m, .int x_v] h g (zI (o_Planner_openOffsets h m v)) h g := by
  subst e_v
  have hf0_1 := hf0.1
  refine zDi_of "PeriodSlots$Planner" prog_5_method_4_code 5 (some .int) rfl (by decide) [zO X 40, zO X m, zI (nI v), none, none] rfl (fun _ q => q) (Nat.le_of_ble_eq_true rfl) ?_
  intro Γ Q C hQ
  refine zr_iconst C (v := 0) d_X3_openOffsets_0 (by decide) ?_
  refine zr_istore_n C [zO X 40, zO X m, zI (nI v), zI 0, none] d_X3_openOffsets_1 (Nat.le_of_ble_eq_true rfl) rfl rfl ?_
  refine zr_iconst C (v := 0) d_X3_openOffsets_2 (by decide) ?_
  refine zr_istore C [zO X 40, zO X m, zI (nI v), zI 0, zI 0] d_X3_openOffsets_3 (Nat.le_of_ble_eq_true rfl) rfl rfl ?_
  refine zfor (f := (fun (i5_1 : Nat) (s5_1 : Int32) => (if (o_Slots_has (h (m + 6) v) (nI i5_1)) = true then (s5_1 ||| (o_Mesh_ticksAt h m i5_1 (h 40 i5_1))) else s5_1))) (a := 0) (fun i5_1 s5_1 => zV X Γ Q 5 [zO X 40, zO X m, zI (nI v), zI s5_1, zI (nI i5_1)] [] h g) (fun _ _ => True) (zcn (h m 0)) trivial (fun i5_1 s5_1 hi5_1 hI5_1 => ⟨trivial, fun hk5_1 => ?_⟩) (fun r5_1 er5_1 hI5_1 => ?_)
  · refine zr_iload C d_X3_openOffsets_5 rfl ?_
    refine zr_aload_n C d_X3_openOffsets_7 rfl ?_
    refine gf_Mesh_0 C hm m96 d_X3_openOffsets_8 ?_
    refine zr_icmp_ge C 47 d_X3_openOffsets_11 (by decide) (fun c => absurd c (zge_no rfl (by omega))) (fun _ => ?_)
    refine zr_aload_n C d_X3_openOffsets_14 rfl ?_
    refine gf_Mesh_8 C hm m119 d_X3_openOffsets_15 ?_
    refine zr_iload_n C d_X3_openOffsets_18 rfl ?_
    refine zr_iald C (za_mesh_6 hm) (v) rfl (by omega) (by decide) d_X3_openOffsets_19 ?_
    refine zr_iload C d_X3_openOffsets_20 rfl ?_
    refine zr_callNi (As := [.int (h (m + 6) v), .int (nI i5_1)]) (st := []) C (c_Slots_has X h g (h (m + 6) v) (nI i5_1)) k_Slots_has (by simp [zNest]) m322 rfl (by decide) rfl (Nat.le_of_ble_eq_true rfl) d_X3_openOffsets_22 ?_
    suffices hJ25 : ∀ (y2 : Int32), (if (o_Slots_has (h (m + 6) v) (nI i5_1)) = true then (s5_1 ||| (o_Mesh_ticksAt h m i5_1 (h 40 i5_1))) else s5_1) = y2 → zV X Γ Q 41 [zO X 40, zO X m, zI (nI v), zI y2, zI (nI i5_1)] [] h g by
      refine zr_ifz_eq C 41 d_X3_openOffsets_25 (by decide) (fun c25 => ?_) (fun c25 => ?_)
      · exact hJ25 s5_1 (((if_neg (zbf c25))))
      · refine zr_iload_n C d_X3_openOffsets_28 rfl ?_
        refine zr_aload_n C d_X3_openOffsets_29 rfl ?_
        refine zr_iload C d_X3_openOffsets_30 rfl ?_
        refine zr_aload_n C d_X3_openOffsets_32 rfl ?_
        refine zr_iload C d_X3_openOffsets_33 rfl ?_
        refine zr_iald C za_40 (i5_1) rfl (by omega) (by decide) d_X3_openOffsets_35 ?_
        refine zr_callVi (As := [.int (nI i5_1), .int (h 40 i5_1)]) (st := [.int s5_1]) (c := m) C (c_Mesh_ticksAt X h g m i5_1 (h 40 i5_1) rfl hm (by omega)) k_Mesh_ticksAt m591 m310 m311 (by omega) (zC_Mesh hm X _ _) rfl rfl (by decide) rfl (Nat.le_of_ble_eq_true rfl) d_X3_openOffsets_36 ?_
        refine zr_ior C d_X3_openOffsets_39 ?_
        refine zr_istore_n C [zO X 40, zO X m, zI (nI v), zI (s5_1 ||| (o_Mesh_ticksAt h m i5_1 (h 40 i5_1))), zI (nI i5_1)] d_X3_openOffsets_40 (Nat.le_of_ble_eq_true rfl) rfl rfl ?_
        exact hJ25 (s5_1 ||| (o_Mesh_ticksAt h m i5_1 (h 40 i5_1))) (((if_pos c25)))
    intro y2 ey2
    refine zr_iinc C [zO X 40, zO X m, zI (nI v), zI y2, zI (nI (i5_1 + 1))] (v := (nI (i5_1 + 1))) d_X3_openOffsets_41 rfl (zn_add rfl rfl) (Nat.le_of_ble_eq_true rfl) rfl rfl ?_
    refine zr_goto C 5 d_X3_openOffsets_44 (by decide) ?_
    exact hk5_1 y2 (by subst ey2; exact rfl)
  refine zr_iload C d_X3_openOffsets_5 rfl ?_
  refine zr_aload_n C d_X3_openOffsets_7 rfl ?_
  refine gf_Mesh_0 C hm m96 d_X3_openOffsets_8 ?_
  refine zr_icmp_ge C 47 d_X3_openOffsets_11 (by decide) (fun _ => ?_) (fun c => absurd (zge_yes rfl (by omega) (by have := zcn_small (h m 0); omega)) c)
  refine zr_aload_n C d_X3_openOffsets_47 rfl ?_
  refine zr_iload_n C d_X3_openOffsets_48 rfl ?_
  refine zr_iload_n C d_X3_openOffsets_49 rfl ?_
  refine zr_callVi (As := [.int (nI v), .int r5_1]) (st := []) (c := m) C (c_Mesh_offsetsOutside X h g m v r5_1 rfl hm (by omega)) k_Mesh_offsetsOutside m592 m424 m425 (by omega) (zC_Mesh hm X _ _) rfl rfl (by decide) rfl (Nat.le_of_ble_eq_true rfl) d_X3_openOffsets_50 ?_
  have eR : o_Planner_openOffsets h m v = (o_Mesh_offsetsOutside h m v r5_1) := (by subst er5_1; unfold o_Planner_openOffsets; exact rfl)
  subst hQ
  rw [eR]
  exact zr_ireti C d_X3_openOffsets_53
theorem d_X3_leavesRoom_0 : decode prog_5_method_5_code 0 = .ok (.iload_n 2, 1) := by decide +kernel
theorem d_X3_leavesRoom_1 : decode prog_5_method_5_code 1 = .ok (.iconst 1, 1) := by decide +kernel
theorem d_X3_leavesRoom_2 : decode prog_5_method_5_code 2 = .ok (.iadd, 1) := by decide +kernel
theorem d_X3_leavesRoom_3 : decode prog_5_method_5_code 3 = .ok (.istore_n 3, 1) := by decide +kernel
theorem d_X3_leavesRoom_4 : decode prog_5_method_5_code 4 = .ok (.iload_n 3, 1) := by decide +kernel
theorem d_X3_leavesRoom_5 : decode prog_5_method_5_code 5 = .ok (.aload_n 1, 1) := by decide +kernel
theorem d_X3_leavesRoom_6 : decode prog_5_method_5_code 6 = .ok (.getfield 21, 3) := by decide +kernel
theorem d_X3_leavesRoom_9 : decode prog_5_method_5_code 9 = .ok (.if_icmp .ge 33, 3) := by decide +kernel
theorem d_X3_leavesRoom_12 : decode prog_5_method_5_code 12 = .ok (.aload_n 1, 1) := by decide +kernel
theorem d_X3_leavesRoom_13 : decode prog_5_method_5_code 13 = .ok (.getfield 57, 3) := by decide +kernel
theorem d_X3_leavesRoom_16 : decode prog_5_method_5_code 16 = .ok (.iload_n 2, 1) := by decide +kernel
theorem d_X3_leavesRoom_17 : decode prog_5_method_5_code 17 = .ok (.iaload, 1) := by decide +kernel
theorem d_X3_leavesRoom_18 : decode prog_5_method_5_code 18 = .ok (.iload_n 3, 1) := by decide +kernel
theorem d_X3_leavesRoom_19 : decode prog_5_method_5_code 19 = .ok (.invokestatic 42, 3) := by decide +kernel
theorem d_X3_leavesRoom_22 : decode prog_5_method_5_code 22 = .ok (.ifCond .eq 14, 3) := by decide +kernel
theorem d_X3_leavesRoom_25 : decode prog_5_method_5_code 25 = .ok (.aload_n 0, 1) := by decide +kernel
theorem d_X3_leavesRoom_26 : decode prog_5_method_5_code 26 = .ok (.aload_n 1, 1) := by decide +kernel
theorem d_X3_leavesRoom_27 : decode prog_5_method_5_code 27 = .ok (.iload_n 3, 1) := by decide +kernel
theorem d_X3_leavesRoom_28 : decode prog_5_method_5_code 28 = .ok (.invokestatic 46, 3) := by decide +kernel
theorem d_X3_leavesRoom_31 : decode prog_5_method_5_code 31 = .ok (.ifCond .ne 5, 3) := by decide +kernel
theorem d_X3_leavesRoom_34 : decode prog_5_method_5_code 34 = .ok (.iconst 0, 1) := by decide +kernel
theorem d_X3_leavesRoom_35 : decode prog_5_method_5_code 35 = .ok (.ireturn, 1) := by decide +kernel
theorem d_X3_leavesRoom_36 : decode prog_5_method_5_code 36 = .ok (.iinc 3 1, 3) := by decide +kernel
theorem d_X3_leavesRoom_39 : decode prog_5_method_5_code 39 = .ok (.goto (-35), 3) := by decide +kernel
theorem d_X3_leavesRoom_42 : decode prog_5_method_5_code 42 = .ok (.iconst 1, 1) := by decide +kernel
theorem d_X3_leavesRoom_43 : decode prog_5_method_5_code 43 = .ok (.ireturn, 1) := by decide +kernel
abbrev M_Planner_leavesRoom : zMT := (⟨"PeriodSlots$Planner", "leavesRoom", "([ILPeriodSlots$Mesh;I)Z"⟩, prog_5_method_5_code, 4, (some .boolean))
theorem k_Planner_leavesRoom : zcall M_Planner_leavesRoom 3 := ⟨zU_in (i := 595) (by decide +kernel) rfl, m57, ⟨by decide, by decide, by decide +kernel⟩, by decide⟩
def o_Planner_leavesRoom (h : zHp) (m : Nat) (v : Nat) : Bool :=
  (Sum.elim (fun r4_1 => true) (fun q4_1 => q4_1) (zrex (fun (i4_1 : Nat) (s4_1 : Unit) => ((if (o_Slots_has (h (m + 6) v) (nI (v + 1 + i4_1))) = true then (if (o_Planner_openOffsets h m (v + 1 + i4_1)) = 0 then .inr false else .inl ()) else .inl ()) : (Unit) ⊕ (Bool))) () (zcn (h m 0) - (v + 1))))
theorem rd_Planner_leavesRoom {h h2 : zHp} {m : Nat} {v : Nat} (e0 : h2 40 = h 40) (e1 : h2 (m + 1) = h (m + 1)) (e2 : h2 (m + 5) = h (m + 5)) (e3 : h2 (m + 6) = h (m + 6)) (e4 : h2 m 0 = h m 0) : o_Planner_leavesRoom h2 m v = o_Planner_leavesRoom h m v := by
  unfold o_Planner_leavesRoom
  simp only [e0, e1, e2, e3, e4, rd_Planner_openOffsets e0 e1 e2 e3 e4]

set_option maxHeartbeats 400000 in
set_option maxRecDepth 20000 in
theorem c_Planner_leavesRoom (X : zXT) (h : zHp) (g : zLg) (m : Nat) (v : Nat) {x_v : Int32} (e_v : x_v = nI v) (hm : m = 3 ∨ m = 15 ∨ m = 27) (hf0 : zfit h m 0 8) (hl1 : v < 8) : zDi X M_Planner_leavesRoom 2 [zR X 40, zR X m, .int x_v] h g (zI (zb (o_Planner_leavesRoom h m v))) h g := by
  subst e_v
  have hf0_1 := hf0.1
  refine zDi_of "PeriodSlots$Planner" prog_5_method_5_code 4 (some .boolean) rfl (by decide) [zO X 40, zO X m, zI (nI v), none] rfl (fun _ q => q) (Nat.le_of_ble_eq_true rfl) ?_
  intro Γ Q C hQ
  refine zr_iload_n C d_X3_leavesRoom_0 rfl ?_
  refine zr_iconst C (v := 1) d_X3_leavesRoom_1 (by decide) ?_
  refine zr_iadd C d_X3_leavesRoom_2 ?_
  refine zr_istore_n C [zO X 40, zO X m, zI (nI v), zI ((nI v) + 1)] d_X3_leavesRoom_3 (Nat.le_of_ble_eq_true rfl) rfl rfl ?_
  refine zr_loc [zO X 40, zO X m, zI (nI v), zI (nI (v + 1))] 3 (zn_add rfl rfl) rfl rfl ?_
  refine zforx (f := (fun (i4_1 : Nat) (s4_1 : Unit) => ((if (o_Slots_has (h (m + 6) v) (nI (v + 1 + i4_1))) = true then (if (o_Planner_openOffsets h m (v + 1 + i4_1)) = 0 then .inr false else .inl ()) else .inl ()) : (Unit) ⊕ (Bool)))) (a := ()) (fun i4_1 s4_1 => zV X Γ Q 4 [zO X 40, zO X m, zI (nI v), zI (nI (v + 1 + i4_1))] [] h g) (fun _ _ => True) (zcn (h m 0) - (v + 1)) trivial (fun i4_1 s4_1 hi4_1 hI4_1 => ⟨(fun _ _ => trivial), fun hk4_1 hx4_1 => ?_⟩) (fun r4_1 er4_1 hI4_1 => ?_)
  · refine zr_iload_n C d_X3_leavesRoom_4 rfl ?_
    refine zr_aload_n C d_X3_leavesRoom_5 rfl ?_
    refine gf_Mesh_0 C hm m96 d_X3_leavesRoom_6 ?_
    refine zr_icmp_ge C 42 d_X3_leavesRoom_9 (by decide) (fun c => absurd c (zge_no rfl (by omega))) (fun _ => ?_)
    refine zr_aload_n C d_X3_leavesRoom_12 rfl ?_
    refine gf_Mesh_8 C hm m119 d_X3_leavesRoom_13 ?_
    refine zr_iload_n C d_X3_leavesRoom_16 rfl ?_
    refine zr_iald C (za_mesh_6 hm) (v) rfl (by omega) (by decide) d_X3_leavesRoom_17 ?_
    refine zr_iload_n C d_X3_leavesRoom_18 rfl ?_
    refine zr_callNi (As := [.int (h (m + 6) v), .int (nI (v + 1 + i4_1))]) (st := []) C (c_Slots_has X h g (h (m + 6) v) (nI (v + 1 + i4_1))) k_Slots_has (by simp [zNest]) m322 rfl (by decide) rfl (Nat.le_of_ble_eq_true rfl) d_X3_leavesRoom_19 ?_
    refine zr_ifz_eq C 36 d_X3_leavesRoom_22 (by decide) (fun c22 => ?_) (fun c22 => ?_)
    · refine zr_iinc C [zO X 40, zO X m, zI (nI v), zI (nI ((v + 1 + i4_1) + 1))] (v := (nI ((v + 1 + i4_1) + 1))) d_X3_leavesRoom_36 rfl (zn_add rfl rfl) (Nat.le_of_ble_eq_true rfl) rfl rfl ?_
      refine zr_goto C 4 d_X3_leavesRoom_39 (by decide) ?_
      exact hk4_1 () ((if_neg (zbf c22)))
    · refine zr_aload_n C d_X3_leavesRoom_25 rfl ?_
      refine zr_aload_n C d_X3_leavesRoom_26 rfl ?_
      refine zr_iload_n C d_X3_leavesRoom_27 rfl ?_
      refine zr_callSi (As := [zR X 40, zR X m, .int (nI (v + 1 + i4_1))]) (st := []) C (c_Planner_openOffsets X h g m (v + 1 + i4_1) rfl hm hf0 (by omega)) k_Planner_openOffsets m588 m589 rfl (by decide) rfl (Nat.le_of_ble_eq_true rfl) d_X3_leavesRoom_28 ?_
      refine zr_if_ne C 36 d_X3_leavesRoom_31 (by decide) (fun c31 => ?_) (fun c31 => ?_)
      · refine zr_iinc C [zO X 40, zO X m, zI (nI v), zI (nI ((v + 1 + i4_1) + 1))] (v := (nI ((v + 1 + i4_1) + 1))) d_X3_leavesRoom_36 rfl (zn_add rfl rfl) (Nat.le_of_ble_eq_true rfl) rfl rfl ?_
        refine zr_goto C 4 d_X3_leavesRoom_39 (by decide) ?_
        exact hk4_1 () ((if_pos c22).trans ((if_neg c31)))
      · refine zr_iconst C (v := 0) d_X3_leavesRoom_34 (by decide) ?_
        have hr4_1 := hx4_1 (false) (((if_pos c22).trans ((if_pos c31))))
        have eR : o_Planner_leavesRoom h m v = false := (by unfold o_Planner_leavesRoom; exact ((congrArg (Sum.elim _ _) hr4_1)))
        subst hQ
        rw [eR]
        exact zr_iretz C (Or.inl rfl) d_X3_leavesRoom_35
  refine zr_iload_n C d_X3_leavesRoom_4 rfl ?_
  refine zr_aload_n C d_X3_leavesRoom_5 rfl ?_
  refine gf_Mesh_0 C hm m96 d_X3_leavesRoom_6 ?_
  refine zr_icmp_ge C 42 d_X3_leavesRoom_9 (by decide) (fun _ => ?_) (fun c => absurd (zge_yes rfl (by omega) (by have := zcn_small (h m 0); omega)) c)
  refine zr_iconst C (v := 1) d_X3_leavesRoom_42 (by decide) ?_
  have eR : o_Planner_leavesRoom h m v = true := (by unfold o_Planner_leavesRoom; exact ((congrArg (Sum.elim _ _) er4_1)))
  subst hQ
  rw [eR]
  exact zr_iretz C (Or.inr rfl) d_X3_leavesRoom_43
