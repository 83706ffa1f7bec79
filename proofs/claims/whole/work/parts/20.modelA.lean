/-! Walks of methods, by program (wip/whole/gen). -/
theorem d_X7_clear_0 : decode prog_9_method_3_code 0 = .ok (.iconst 0, 1) := by decide +kernel
theorem d_X7_clear_1 : decode prog_9_method_3_code 1 = .ok (.istore_n 1, 1) := by decide +kernel
theorem d_X7_clear_2 : decode prog_9_method_3_code 2 = .ok (.iload_n 1, 1) := by decide +kernel
theorem d_X7_clear_3 : decode prog_9_method_3_code 3 = .ok (.bipush 25, 2) := by decide +kernel
theorem d_X7_clear_5 : decode prog_9_method_3_code 5 = .ok (.if_icmp .ge 24, 3) := by decide +kernel
theorem d_X7_clear_8 : decode prog_9_method_3_code 8 = .ok (.aload_n 0, 1) := by decide +kernel
theorem d_X7_clear_9 : decode prog_9_method_3_code 9 = .ok (.iload_n 1, 1) := by decide +kernel
theorem d_X7_clear_10 : decode prog_9_method_3_code 10 = .ok (.iload_n 1, 1) := by decide +kernel
theorem d_X7_clear_11 : decode prog_9_method_3_code 11 = .ok (.bipush 16, 2) := by decide +kernel
theorem d_X7_clear_13 : decode prog_9_method_3_code 13 = .ok (.if_icmp .ge 8, 3) := by decide +kernel
theorem d_X7_clear_16 : decode prog_9_method_3_code 16 = .ok (.bipush (-9), 2) := by decide +kernel
theorem d_X7_clear_18 : decode prog_9_method_3_code 18 = .ok (.goto 4, 3) := by decide +kernel
theorem d_X7_clear_21 : decode prog_9_method_3_code 21 = .ok (.iconst 0, 1) := by decide +kernel
theorem d_X7_clear_22 : decode prog_9_method_3_code 22 = .ok (.iastore, 1) := by decide +kernel
theorem d_X7_clear_23 : decode prog_9_method_3_code 23 = .ok (.iinc 1 1, 3) := by decide +kernel
theorem d_X7_clear_26 : decode prog_9_method_3_code 26 = .ok (.goto (-24), 3) := by decide +kernel
theorem d_X7_clear_29 : decode prog_9_method_3_code 29 = .ok (.return_, 1) := by decide +kernel
abbrev M_Model_clear : zMT := (⟨"PeriodSlotsModel", "clear", "([I)V"⟩, prog_9_method_3_code, 2, none)
theorem k_Model_clear : zcall M_Model_clear 1 := ⟨zU_in (i := 752) (by decide +kernel) rfl, m62, ⟨by decide, by decide, by decide +kernel⟩, by decide⟩
def o_Model_clear (h : zHp) (r : Nat) : zHp :=
  (zrep (fun (i2_1 : Nat) (s2_1 : zHp) => (zup s2_1 r i2_1 (if 16 ≤ (nI i2_1) then 0 else (-9)))) h 25)
theorem fr_Model_clear {h : zHp} {r : Nat} (c k : Nat) (q0 : c ≠ r) : (o_Model_clear h r) c k = h c k := by
  unfold o_Model_clear
  have hI2_1 := zrep_inv (f := (fun (i2_1 : Nat) (s2_1 : zHp) => (zup s2_1 r i2_1 (if 16 ≤ (nI i2_1) then 0 else (-9))))) (a := h) (fun _ s2_1 => ∀ c k : Nat, c ≠ r → s2_1 c k = h c k) (25) (fun _ _ _ => rfl) (fun i2_1 s2_1 hi2_1 hI2_1 => (fun c k q0 => (by (try dsimp only); exact ((zup_fr (Or.inl (by assumption))).trans (hI2_1 _ _ (by assumption))))))
  first | done | exact (hI2_1 _ _ (by assumption))
set_option maxHeartbeats 400000 in
set_option maxRecDepth 20000 in
theorem c_Model_clear (X : zXT) (h : zHp) (g : zLg) (r : Nat) (hr : r = 54 ∨ r = 55 ∨ r = 56) : zDi X M_Model_clear 0 [zR X r] h g none (o_Model_clear h r) g := by
  refine zDi_of "PeriodSlotsModel" prog_9_method_3_code 2 none rfl (by decide) [zO X r, none] rfl (fun _ q => q) (Nat.le_of_ble_eq_true rfl) ?_
  intro Γ Q C hQ
  refine zr_iconst C (v := 0) d_X7_clear_0 (by decide) ?_
  refine zr_istore_n C [zO X r, zI 0] d_X7_clear_1 (Nat.le_of_ble_eq_true rfl) rfl rfl ?_
  refine zfor (f := (fun (i2_1 : Nat) (s2_1 : zHp) => (zup s2_1 r i2_1 (if 16 ≤ (nI i2_1) then 0 else (-9))))) (a := h) (fun i2_1 s2_1 => zV X Γ Q 2 [zO X r, zI (nI i2_1)] [] s2_1 g) (fun _ s2_1 => ∀ c k : Nat, c ≠ r → s2_1 c k = h c k) (25) (fun _ _ _ => rfl) (fun i2_1 s2_1 hi2_1 hI2_1 => ⟨(fun c k q0 => (by (try dsimp only); exact ((zup_fr (Or.inl (by assumption))).trans (hI2_1 _ _ (by assumption))))), fun hk2_1 => ?_⟩) (fun r2_1 er2_1 hI2_1 => ?_)
  · refine zr_iload_n C d_X7_clear_2 rfl ?_
    refine zr_bipush C (v := 25) d_X7_clear_3 (by decide) ?_
    refine zr_icmp_ge C 29 d_X7_clear_5 (by decide) (fun c => absurd c (zge_noN (B := 25) rfl (by omega) (by omega))) (fun _ => ?_)
    refine zr_aload_n C d_X7_clear_8 rfl ?_
    refine zr_iload_n C d_X7_clear_9 rfl ?_
    refine zr_iload_n C d_X7_clear_10 rfl ?_
    refine zr_bipush C (v := 16) d_X7_clear_11 (by decide) ?_
    suffices hJ13 : ∀ (y4 : Int32), (if 16 ≤ (nI i2_1) then 0 else (-9)) = y4 → zV X Γ Q 22 [zO X r, zI (nI i2_1)] [.int y4, .int (nI i2_1), zR X r] s2_1 g by
      refine zr_icmp_ge C 21 d_X7_clear_13 (by decide) (fun c13 => ?_) (fun c13 => ?_)
      · have en2 := zn_ge (a := i2_1) (b := 16) rfl rfl c13 (by omega) (by decide)
        refine zr_iconst C (v := 0) d_X7_clear_21 (by decide) ?_
        exact hJ13 0 (((if_pos c13)))
      · have en3 := zn_nge (a := i2_1) (b := 16) rfl rfl c13 (by omega) (by decide)
        refine zr_bipush C (v := (-9)) d_X7_clear_16 (by decide) ?_
        refine zr_goto C 22 d_X7_clear_18 (by decide) ?_
        exact hJ13 (-9) (((if_neg c13)))
    intro y4 ey4
    refine zr_iast C (za_row hr) (i2_1) rfl (by omega) (by decide) d_X7_clear_22 ?_
    refine zr_h (fun h5 eh5 => ?_)
    refine zr_iinc C [zO X r, zI (nI (i2_1 + 1))] (v := (nI (i2_1 + 1))) d_X7_clear_23 rfl (zn_add rfl rfl) (Nat.le_of_ble_eq_true rfl) rfl rfl ?_
    refine zr_goto C 2 d_X7_clear_26 (by decide) ?_
    exact hk2_1 h5 (by subst eh5 ey4; exact rfl)
  refine zr_iload_n C d_X7_clear_2 rfl ?_
  refine zr_bipush C (v := 25) d_X7_clear_3 (by decide) ?_
  refine zr_icmp_ge C 29 d_X7_clear_5 (by decide) (fun _ => ?_) (fun c => absurd (zge_yesN (B := 25) rfl (by omega) (by omega)) c)
  have eR : o_Model_clear h r = r2_1 := (by subst er2_1; unfold o_Model_clear; exact rfl)
  subst hQ
  rw [eR]
  exact zr_vret C d_X7_clear_29
theorem d_X7_copy_0 : decode prog_9_method_4_code 0 = .ok (.iconst 0, 1) := by decide +kernel
theorem d_X7_copy_1 : decode prog_9_method_4_code 1 = .ok (.istore_n 2, 1) := by decide +kernel
theorem d_X7_copy_2 : decode prog_9_method_4_code 2 = .ok (.iload_n 2, 1) := by decide +kernel
theorem d_X7_copy_3 : decode prog_9_method_4_code 3 = .ok (.bipush 25, 2) := by decide +kernel
theorem d_X7_copy_5 : decode prog_9_method_4_code 5 = .ok (.if_icmp .ge 15, 3) := by decide +kernel
theorem d_X7_copy_8 : decode prog_9_method_4_code 8 = .ok (.aload_n 1, 1) := by decide +kernel
theorem d_X7_copy_9 : decode prog_9_method_4_code 9 = .ok (.iload_n 2, 1) := by decide +kernel
theorem d_X7_copy_10 : decode prog_9_method_4_code 10 = .ok (.aload_n 0, 1) := by decide +kernel
theorem d_X7_copy_11 : decode prog_9_method_4_code 11 = .ok (.iload_n 2, 1) := by decide +kernel
theorem d_X7_copy_12 : decode prog_9_method_4_code 12 = .ok (.iaload, 1) := by decide +kernel
theorem d_X7_copy_13 : decode prog_9_method_4_code 13 = .ok (.iastore, 1) := by decide +kernel
theorem d_X7_copy_14 : decode prog_9_method_4_code 14 = .ok (.iinc 2 1, 3) := by decide +kernel
theorem d_X7_copy_17 : decode prog_9_method_4_code 17 = .ok (.goto (-15), 3) := by decide +kernel
theorem d_X7_copy_20 : decode prog_9_method_4_code 20 = .ok (.return_, 1) := by decide +kernel
abbrev M_Model_copy : zMT := (⟨"PeriodSlotsModel", "copy", "([I[I)V"⟩, prog_9_method_4_code, 3, none)
theorem k_Model_copy : zcall M_Model_copy 2 := ⟨zU_in (i := 1029) (by decide +kernel) rfl, m62, ⟨by decide, by decide, by decide +kernel⟩, by decide⟩
def o_Model_copy (h : zHp) (r : Nat) (r2 : Nat) : zHp :=
  (zrep (fun (i2_1 : Nat) (s2_1 : zHp) => (zup s2_1 r2 i2_1 (s2_1 r i2_1))) h 25)
theorem fr_Model_copy {h : zHp} {r : Nat} {r2 : Nat} (c k : Nat) (q0 : c ≠ r2) : (o_Model_copy h r r2) c k = h c k := by
  unfold o_Model_copy
  have hI2_1 := zrep_inv (f := (fun (i2_1 : Nat) (s2_1 : zHp) => (zup s2_1 r2 i2_1 (s2_1 r i2_1)))) (a := h) (fun _ s2_1 => ∀ c k : Nat, c ≠ r2 → s2_1 c k = h c k) (25) (fun _ _ _ => rfl) (fun i2_1 s2_1 hi2_1 hI2_1 => (fun c k q0 => (by (try dsimp only); exact ((zup_fr (Or.inl (by assumption))).trans (hI2_1 _ _ (by assumption))))))
  first | done | exact (hI2_1 _ _ (by assumption))
set_option maxHeartbeats 400000 in
set_option maxRecDepth 20000 in
theorem c_Model_copy (X : zXT) (h : zHp) (g : zLg) (r : Nat) (r2 : Nat) (hr : r = 54 ∨ r = 55 ∨ r = 56) (hr2 : r2 = 54 ∨ r2 = 55 ∨ r2 = 56) : zDi X M_Model_copy 0 [zR X r, zR X r2] h g none (o_Model_copy h r r2) g := by
  refine zDi_of "PeriodSlotsModel" prog_9_method_4_code 3 none rfl (by decide) [zO X r, zO X r2, none] rfl (fun _ q => q) (Nat.le_of_ble_eq_true rfl) ?_
  intro Γ Q C hQ
  refine zr_iconst C (v := 0) d_X7_copy_0 (by decide) ?_
  refine zr_istore_n C [zO X r, zO X r2, zI 0] d_X7_copy_1 (Nat.le_of_ble_eq_true rfl) rfl rfl ?_
  refine zfor (f := (fun (i2_1 : Nat) (s2_1 : zHp) => (zup s2_1 r2 i2_1 (s2_1 r i2_1)))) (a := h) (fun i2_1 s2_1 => zV X Γ Q 2 [zO X r, zO X r2, zI (nI i2_1)] [] s2_1 g) (fun _ s2_1 => ∀ c k : Nat, c ≠ r2 → s2_1 c k = h c k) (25) (fun _ _ _ => rfl) (fun i2_1 s2_1 hi2_1 hI2_1 => ⟨(fun c k q0 => (by (try dsimp only); exact ((zup_fr (Or.inl (by assumption))).trans (hI2_1 _ _ (by assumption))))), fun hk2_1 => ?_⟩) (fun r2_1 er2_1 hI2_1 => ?_)
  · refine zr_iload_n C d_X7_copy_2 rfl ?_
    refine zr_bipush C (v := 25) d_X7_copy_3 (by decide) ?_
    refine zr_icmp_ge C 20 d_X7_copy_5 (by decide) (fun c => absurd c (zge_noN (B := 25) rfl (by omega) (by omega))) (fun _ => ?_)
    refine zr_aload_n C d_X7_copy_8 rfl ?_
    refine zr_iload_n C d_X7_copy_9 rfl ?_
    refine zr_aload_n C d_X7_copy_10 rfl ?_
    refine zr_iload_n C d_X7_copy_11 rfl ?_
    refine zr_iald C (za_row hr) (i2_1) rfl (by omega) (by decide) d_X7_copy_12 ?_
    refine zr_iast C (za_row hr2) (i2_1) rfl (by omega) (by decide) d_X7_copy_13 ?_
    refine zr_h (fun h2 eh2 => ?_)
    refine zr_iinc C [zO X r, zO X r2, zI (nI (i2_1 + 1))] (v := (nI (i2_1 + 1))) d_X7_copy_14 rfl (zn_add rfl rfl) (Nat.le_of_ble_eq_true rfl) rfl rfl ?_
    refine zr_goto C 2 d_X7_copy_17 (by decide) ?_
    exact hk2_1 h2 (by subst eh2; exact rfl)
  refine zr_iload_n C d_X7_copy_2 rfl ?_
  refine zr_bipush C (v := 25) d_X7_copy_3 (by decide) ?_
  refine zr_icmp_ge C 20 d_X7_copy_5 (by decide) (fun _ => ?_) (fun c => absurd (zge_yesN (B := 25) rfl (by omega) (by omega)) c)
  have eR : o_Model_copy h r r2 = r2_1 := (by subst er2_1; unfold o_Model_copy; exact rfl)
  subst hQ
  rw [eR]
  exact zr_vret C d_X7_copy_20
theorem d_X7_in_0 : decode prog_9_method_5_code 0 = .ok (.lload_n 0, 1) := by decide +kernel
theorem d_X7_in_1 : decode prog_9_method_5_code 1 = .ok (.lload_n 2, 1) := by decide +kernel
theorem d_X7_in_2 : decode prog_9_method_5_code 2 = .ok (.lcmp, 1) := by decide +kernel
theorem d_X7_in_3 : decode prog_9_method_5_code 3 = .ok (.ifCond .lt 14, 3) := by decide +kernel
theorem d_X7_in_6 : decode prog_9_method_5_code 6 = .ok (.lload_n 0, 1) := by decide +kernel
theorem d_X7_in_7 : decode prog_9_method_5_code 7 = .ok (.lload 4, 2) := by decide +kernel
theorem d_X7_in_9 : decode prog_9_method_5_code 9 = .ok (.lcmp, 1) := by decide +kernel
theorem d_X7_in_10 : decode prog_9_method_5_code 10 = .ok (.ifCond .gt 7, 3) := by decide +kernel
theorem d_X7_in_13 : decode prog_9_method_5_code 13 = .ok (.iconst 1, 1) := by decide +kernel
theorem d_X7_in_14 : decode prog_9_method_5_code 14 = .ok (.goto 4, 3) := by decide +kernel
theorem d_X7_in_17 : decode prog_9_method_5_code 17 = .ok (.iconst 0, 1) := by decide +kernel
theorem d_X7_in_18 : decode prog_9_method_5_code 18 = .ok (.ireturn, 1) := by decide +kernel
abbrev M_Model_in : zMT := (⟨"PeriodSlotsModel", "in", "(JJJ)Z"⟩, prog_9_method_5_code, 6, (some .boolean))
theorem k_Model_in : zcall M_Model_in 3 := ⟨zU_in (i := 858) (by decide +kernel) rfl, m62, ⟨by decide, by decide, by decide +kernel⟩, by decide⟩
def o_Model_in (v : Int64) (least : Int64) (most : Int64) : Bool :=
  (!(decide ((lg_cmp v least) < 0)) && (!(decide (0 < (lg_cmp v most)))))
set_option maxHeartbeats 400000 in
set_option maxRecDepth 20000 in
theorem c_Model_in (X : zXT) (h : zHp) (g : zLg) (v : Int64) (least : Int64) (most : Int64) : zDi X M_Model_in 0 [.long v, .long least, .long most] h g (zI (zb (o_Model_in v least most))) h g := by
  refine zDi_of "PeriodSlotsModel" prog_9_method_5_code 6 (some .boolean) rfl (by decide) [zL v, none, zL least, none, zL most, none] rfl (fun _ q => q) (Nat.le_of_ble_eq_true rfl) ?_
  intro Γ Q C hQ
  refine zr_lload_n C d_X7_in_0 rfl ?_
  refine zr_lload_n C d_X7_in_1 rfl ?_
  refine zr_lcmp C d_X7_in_2 ?_
  suffices hJ3 : ∀ (y1 : Bool), (!(decide ((lg_cmp v least) < 0)) && (!(decide (0 < (lg_cmp v most))))) = y1 → zV X Γ Q 18 [none, none, none, none, none, none] [.int (zb y1)] h g by
    refine zr_if_lt C 17 d_X7_in_3 (by decide) (fun c3 => ?_) (fun c3 => ?_)
    · refine zr_iconst C (v := 0) d_X7_in_17 (by decide) ?_
      refine zr_lv [none, none, none, none, none, none] (by simp [zle]) ?_
      exact hJ3 false (by simp [c3])
    · refine zr_lload_n C d_X7_in_6 rfl ?_
      refine zr_lload C d_X7_in_7 rfl ?_
      refine zr_lcmp C d_X7_in_9 ?_
      refine zr_if_gt C 17 d_X7_in_10 (by decide) (fun c10 => ?_) (fun c10 => ?_)
      · refine zr_iconst C (v := 0) d_X7_in_17 (by decide) ?_
        refine zr_lv [none, none, none, none, none, none] (by simp [zle]) ?_
        exact hJ3 false (by simp [c3, c10])
      · refine zr_iconst C (v := 1) d_X7_in_13 (by decide) ?_
        refine zr_goto C 18 d_X7_in_14 (by decide) ?_
        refine zr_lv [none, none, none, none, none, none] (by simp [zle]) ?_
        exact hJ3 true (by simp [c3, c10])
  intro y1 ey1
  have eR : o_Model_in v least most = y1 := (by subst ey1; unfold o_Model_in; exact rfl)
  subst hQ
  rw [eR]
  exact zr_iretz C (zb_01 _) d_X7_in_18
theorem d_X7_has_0 : decode prog_9_method_6_code 0 = .ok (.iload_n 0, 1) := by decide +kernel
theorem d_X7_has_1 : decode prog_9_method_6_code 1 = .ok (.iload_n 1, 1) := by decide +kernel
theorem d_X7_has_2 : decode prog_9_method_6_code 2 = .ok (.ishr, 1) := by decide +kernel
theorem d_X7_has_3 : decode prog_9_method_6_code 3 = .ok (.iconst 1, 1) := by decide +kernel
theorem d_X7_has_4 : decode prog_9_method_6_code 4 = .ok (.iand, 1) := by decide +kernel
theorem d_X7_has_5 : decode prog_9_method_6_code 5 = .ok (.iconst 1, 1) := by decide +kernel
theorem d_X7_has_6 : decode prog_9_method_6_code 6 = .ok (.if_icmp .ne 7, 3) := by decide +kernel
theorem d_X7_has_9 : decode prog_9_method_6_code 9 = .ok (.iconst 1, 1) := by decide +kernel
theorem d_X7_has_10 : decode prog_9_method_6_code 10 = .ok (.goto 4, 3) := by decide +kernel
theorem d_X7_has_13 : decode prog_9_method_6_code 13 = .ok (.iconst 0, 1) := by decide +kernel
theorem d_X7_has_14 : decode prog_9_method_6_code 14 = .ok (.ireturn, 1) := by decide +kernel
abbrev M_Model_has : zMT := (⟨"PeriodSlotsModel", "has", "(II)Z"⟩, prog_9_method_6_code, 2, (some .boolean))
theorem k_Model_has : zcall M_Model_has 2 := ⟨zU_in (i := 892) (by decide +kernel) rfl, m62, ⟨by decide, by decide, by decide +kernel⟩, by decide⟩
def o_Model_has (set : Int32) (k : Int32) : Bool :=
  (decide (((zsar set k) &&& 1) = 1))
set_option maxHeartbeats 400000 in
set_option maxRecDepth 20000 in
theorem c_Model_has (X : zXT) (h : zHp) (g : zLg) (set : Int32) (k : Int32) : zDi X M_Model_has 0 [.int set, .int k] h g (zI (zb (o_Model_has set k))) h g := by
  refine zDi_of "PeriodSlotsModel" prog_9_method_6_code 2 (some .boolean) rfl (by decide) [zI set, zI k] rfl (fun _ q => q) (Nat.le_of_ble_eq_true rfl) ?_
  intro Γ Q C hQ
  refine zr_iload_n C d_X7_has_0 rfl ?_
  refine zr_iload_n C d_X7_has_1 rfl ?_
  refine zr_ishr C d_X7_has_2 ?_
  refine zr_iconst C (v := 1) d_X7_has_3 (by decide) ?_
  refine zr_iand C d_X7_has_4 ?_
  refine zr_iconst C (v := 1) d_X7_has_5 (by decide) ?_
  suffices hJ6 : ∀ (y1 : Bool), (decide (((zsar set k) &&& 1) = 1)) = y1 → zV X Γ Q 14 [none, none] [.int (zb y1)] h g by
    refine zr_icmp_ne C 13 d_X7_has_6 (by decide) (fun c6 => ?_) (fun c6 => ?_)
    · refine zr_iconst C (v := 0) d_X7_has_13 (by decide) ?_
      refine zr_lv [none, none] (by simp [zle]) ?_
      exact hJ6 false (by simp [c6])
    · refine zr_iconst C (v := 1) d_X7_has_9 (by decide) ?_
      refine zr_goto C 14 d_X7_has_10 (by decide) ?_
      refine zr_lv [none, none] (by simp [zle]) ?_
      exact hJ6 true (by simp [c6])
  intro y1 ey1
  have eR : o_Model_has set k = y1 := (by subst ey1; unfold o_Model_has; exact rfl)
  subst hQ
  rw [eR]
  exact zr_iretz C (zb_01 _) d_X7_has_14
theorem d_X7_ones_0 : decode prog_9_method_7_code 0 = .ok (.iconst 0, 1) := by decide +kernel
theorem d_X7_ones_1 : decode prog_9_method_7_code 1 = .ok (.istore_n 1, 1) := by decide +kernel
theorem d_X7_ones_2 : decode prog_9_method_7_code 2 = .ok (.iconst 0, 1) := by decide +kernel
theorem d_X7_ones_3 : decode prog_9_method_7_code 3 = .ok (.istore_n 2, 1) := by decide +kernel
theorem d_X7_ones_4 : decode prog_9_method_7_code 4 = .ok (.iload_n 2, 1) := by decide +kernel
theorem d_X7_ones_5 : decode prog_9_method_7_code 5 = .ok (.bipush 8, 2) := by decide +kernel
theorem d_X7_ones_7 : decode prog_9_method_7_code 7 = .ok (.if_icmp .ge 17, 3) := by decide +kernel
theorem d_X7_ones_10 : decode prog_9_method_7_code 10 = .ok (.iload_n 1, 1) := by decide +kernel
theorem d_X7_ones_11 : decode prog_9_method_7_code 11 = .ok (.iload_n 0, 1) := by decide +kernel
theorem d_X7_ones_12 : decode prog_9_method_7_code 12 = .ok (.iload_n 2, 1) := by decide +kernel
theorem d_X7_ones_13 : decode prog_9_method_7_code 13 = .ok (.ishr, 1) := by decide +kernel
theorem d_X7_ones_14 : decode prog_9_method_7_code 14 = .ok (.iconst 1, 1) := by decide +kernel
theorem d_X7_ones_15 : decode prog_9_method_7_code 15 = .ok (.iand, 1) := by decide +kernel
theorem d_X7_ones_16 : decode prog_9_method_7_code 16 = .ok (.iadd, 1) := by decide +kernel
theorem d_X7_ones_17 : decode prog_9_method_7_code 17 = .ok (.istore_n 1, 1) := by decide +kernel
theorem d_X7_ones_18 : decode prog_9_method_7_code 18 = .ok (.iinc 2 1, 3) := by decide +kernel
theorem d_X7_ones_21 : decode prog_9_method_7_code 21 = .ok (.goto (-17), 3) := by decide +kernel
theorem d_X7_ones_24 : decode prog_9_method_7_code 24 = .ok (.iload_n 1, 1) := by decide +kernel
theorem d_X7_ones_25 : decode prog_9_method_7_code 25 = .ok (.ireturn, 1) := by decide +kernel
abbrev M_Model_ones : zMT := (⟨"PeriodSlotsModel", "ones", "(I)I"⟩, prog_9_method_7_code, 3, (some .int))
theorem k_Model_ones : zcall M_Model_ones 1 := ⟨zU_in (i := 919) (by decide +kernel) rfl, m62, ⟨by decide, by decide, by decide +kernel⟩, by decide⟩
def o_Model_ones (set : Int32) : Int32 :=
  (zrep (fun (i4_1 : Nat) (s4_1 : Int32) => (s4_1 + ((zsar set (nI i4_1)) &&& 1))) 0 8)
set_option maxHeartbeats 400000 in
set_option maxRecDepth 20000 in
theorem c_Model_ones (X : zXT) (h : zHp) (g : zLg) (set : Int32) : zDi X M_Model_ones 0 [.int set] h g (zI (o_Model_ones set)) h g := by
  refine zDi_of "PeriodSlotsModel" prog_9_method_7_code 3 (some .int) rfl (by decide) [zI set, none, none] rfl (fun _ q => q) (Nat.le_of_ble_eq_true rfl) ?_
  intro Γ Q C hQ
  refine zr_iconst C (v := 0) d_X7_ones_0 (by decide) ?_
  refine zr_istore_n C [zI set, zI 0, none] d_X7_ones_1 (Nat.le_of_ble_eq_true rfl) rfl rfl ?_
  refine zr_iconst C (v := 0) d_X7_ones_2 (by decide) ?_
  refine zr_istore_n C [zI set, zI 0, zI 0] d_X7_ones_3 (Nat.le_of_ble_eq_true rfl) rfl rfl ?_
  refine zfor (f := (fun (i4_1 : Nat) (s4_1 : Int32) => (s4_1 + ((zsar set (nI i4_1)) &&& 1)))) (a := 0) (fun i4_1 s4_1 => zV X Γ Q 4 [zI set, zI s4_1, zI (nI i4_1)] [] h g) (fun _ _ => True) (8) trivial (fun i4_1 s4_1 hi4_1 hI4_1 => ⟨trivial, fun hk4_1 => ?_⟩) (fun r4_1 er4_1 hI4_1 => ?_)
  · refine zr_iload_n C d_X7_ones_4 rfl ?_
    refine zr_bipush C (v := 8) d_X7_ones_5 (by decide) ?_
    refine zr_icmp_ge C 24 d_X7_ones_7 (by decide) (fun c => absurd c (zge_noN (B := 8) rfl (by omega) (by omega))) (fun _ => ?_)
    refine zr_iload_n C d_X7_ones_10 rfl ?_
    refine zr_iload_n C d_X7_ones_11 rfl ?_
    refine zr_iload_n C d_X7_ones_12 rfl ?_
    refine zr_ishr C d_X7_ones_13 ?_
    refine zr_iconst C (v := 1) d_X7_ones_14 (by decide) ?_
    refine zr_iand C d_X7_ones_15 ?_
    refine zr_iadd C d_X7_ones_16 ?_
    refine zr_istore_n C [zI set, zI (s4_1 + ((zsar set (nI i4_1)) &&& 1)), zI (nI i4_1)] d_X7_ones_17 (Nat.le_of_ble_eq_true rfl) rfl rfl ?_
    refine zr_iinc C [zI set, zI (s4_1 + ((zsar set (nI i4_1)) &&& 1)), zI (nI (i4_1 + 1))] (v := (nI (i4_1 + 1))) d_X7_ones_18 rfl (zn_add rfl rfl) (Nat.le_of_ble_eq_true rfl) rfl rfl ?_
    refine zr_goto C 4 d_X7_ones_21 (by decide) ?_
    exact hk4_1 (s4_1 + ((zsar set (nI i4_1)) &&& 1)) rfl
  refine zr_iload_n C d_X7_ones_4 rfl ?_
  refine zr_bipush C (v := 8) d_X7_ones_5 (by decide) ?_
  refine zr_icmp_ge C 24 d_X7_ones_7 (by decide) (fun _ => ?_) (fun c => absurd (zge_yesN (B := 8) rfl (by omega) (by omega)) c)
  refine zr_iload_n C d_X7_ones_24 rfl ?_
  have eR : o_Model_ones set = r4_1 := (by subst er4_1; unfold o_Model_ones; exact rfl)
  subst hQ
  rw [eR]
  exact zr_ireti C d_X7_ones_25
theorem d_X7_power_0 : decode prog_9_method_8_code 0 = .ok (.iconst 1, 1) := by decide +kernel
theorem d_X7_power_1 : decode prog_9_method_8_code 1 = .ok (.istore_n 2, 1) := by decide +kernel
theorem d_X7_power_2 : decode prog_9_method_8_code 2 = .ok (.iconst 0, 1) := by decide +kernel
theorem d_X7_power_3 : decode prog_9_method_8_code 3 = .ok (.istore_n 3, 1) := by decide +kernel
theorem d_X7_power_4 : decode prog_9_method_8_code 4 = .ok (.iload_n 3, 1) := by decide +kernel
theorem d_X7_power_5 : decode prog_9_method_8_code 5 = .ok (.iload_n 1, 1) := by decide +kernel
theorem d_X7_power_6 : decode prog_9_method_8_code 6 = .ok (.if_icmp .ge 13, 3) := by decide +kernel
theorem d_X7_power_9 : decode prog_9_method_8_code 9 = .ok (.iload_n 2, 1) := by decide +kernel
theorem d_X7_power_10 : decode prog_9_method_8_code 10 = .ok (.iload_n 0, 1) := by decide +kernel
theorem d_X7_power_11 : decode prog_9_method_8_code 11 = .ok (.imul, 1) := by decide +kernel
theorem d_X7_power_12 : decode prog_9_method_8_code 12 = .ok (.istore_n 2, 1) := by decide +kernel
theorem d_X7_power_13 : decode prog_9_method_8_code 13 = .ok (.iinc 3 1, 3) := by decide +kernel
theorem d_X7_power_16 : decode prog_9_method_8_code 16 = .ok (.goto (-12), 3) := by decide +kernel
theorem d_X7_power_19 : decode prog_9_method_8_code 19 = .ok (.iload_n 2, 1) := by decide +kernel
theorem d_X7_power_20 : decode prog_9_method_8_code 20 = .ok (.ireturn, 1) := by decide +kernel
abbrev M_Model_power : zMT := (⟨"PeriodSlotsModel", "power", "(II)I"⟩, prog_9_method_8_code, 4, (some .int))
theorem k_Model_power : zcall M_Model_power 2 := ⟨zU_in (i := 1130) (by decide +kernel) rfl, m62, ⟨by decide, by decide, by decide +kernel⟩, by decide⟩
def o_Model_power (base : Int32) (n : Int32) : Int32 :=
  (zrep (fun (i4_1 : Nat) (s4_1 : Int32) => (s4_1 * base)) 1 (zcn n))
set_option maxHeartbeats 400000 in
set_option maxRecDepth 20000 in
theorem c_Model_power (X : zXT) (h : zHp) (g : zLg) (base : Int32) (n : Int32) : zDi X M_Model_power 0 [.int base, .int n] h g (zI (o_Model_power base n)) h g := by
  refine zDi_of "PeriodSlotsModel" prog_9_method_8_code 4 (some .int) rfl (by decide) [zI base, zI n, none, none] rfl (fun _ q => q) (Nat.le_of_ble_eq_true rfl) ?_
  intro Γ Q C hQ
  refine zr_iconst C (v := 1) d_X7_power_0 (by decide) ?_
  refine zr_istore_n C [zI base, zI n, zI 1, none] d_X7_power_1 (Nat.le_of_ble_eq_true rfl) rfl rfl ?_
  refine zr_iconst C (v := 0) d_X7_power_2 (by decide) ?_
  refine zr_istore_n C [zI base, zI n, zI 1, zI 0] d_X7_power_3 (Nat.le_of_ble_eq_true rfl) rfl rfl ?_
  refine zfor (f := (fun (i4_1 : Nat) (s4_1 : Int32) => (s4_1 * base))) (a := 1) (fun i4_1 s4_1 => zV X Γ Q 4 [zI base, zI n, zI s4_1, zI (nI i4_1)] [] h g) (fun _ _ => True) (zcn n) trivial (fun i4_1 s4_1 hi4_1 hI4_1 => ⟨trivial, fun hk4_1 => ?_⟩) (fun r4_1 er4_1 hI4_1 => ?_)
  · refine zr_iload_n C d_X7_power_4 rfl ?_
    refine zr_iload_n C d_X7_power_5 rfl ?_
    refine zr_icmp_ge C 19 d_X7_power_6 (by decide) (fun c => absurd c (zge_no rfl (by omega))) (fun _ => ?_)
    refine zr_iload_n C d_X7_power_9 rfl ?_
    refine zr_iload_n C d_X7_power_10 rfl ?_
    refine zr_imul C d_X7_power_11 ?_
    refine zr_istore_n C [zI base, zI n, zI (s4_1 * base), zI (nI i4_1)] d_X7_power_12 (Nat.le_of_ble_eq_true rfl) rfl rfl ?_
    refine zr_iinc C [zI base, zI n, zI (s4_1 * base), zI (nI (i4_1 + 1))] (v := (nI (i4_1 + 1))) d_X7_power_13 rfl (zn_add rfl rfl) (Nat.le_of_ble_eq_true rfl) rfl rfl ?_
    refine zr_goto C 4 d_X7_power_16 (by decide) ?_
    exact hk4_1 (s4_1 * base) rfl
  refine zr_iload_n C d_X7_power_4 rfl ?_
  refine zr_iload_n C d_X7_power_5 rfl ?_
  refine zr_icmp_ge C 19 d_X7_power_6 (by decide) (fun _ => ?_) (fun c => absurd (zge_yes rfl (by omega) (by have := zcn_small n; omega)) c)
  refine zr_iload_n C d_X7_power_19 rfl ?_
  have eR : o_Model_power base n = r4_1 := (by subst er4_1; unfold o_Model_power; exact rfl)
  subst hQ
  rw [eR]
  exact zr_ireti C d_X7_power_20
theorem d_X7_factorial_0 : decode prog_9_method_9_code 0 = .ok (.iconst 1, 1) := by decide +kernel
theorem d_X7_factorial_1 : decode prog_9_method_9_code 1 = .ok (.istore_n 1, 1) := by decide +kernel
theorem d_X7_factorial_2 : decode prog_9_method_9_code 2 = .ok (.iconst 2, 1) := by decide +kernel
theorem d_X7_factorial_3 : decode prog_9_method_9_code 3 = .ok (.istore_n 2, 1) := by decide +kernel
theorem d_X7_factorial_4 : decode prog_9_method_9_code 4 = .ok (.iload_n 2, 1) := by decide +kernel
theorem d_X7_factorial_5 : decode prog_9_method_9_code 5 = .ok (.iload_n 0, 1) := by decide +kernel
theorem d_X7_factorial_6 : decode prog_9_method_9_code 6 = .ok (.if_icmp .gt 13, 3) := by decide +kernel
theorem d_X7_factorial_9 : decode prog_9_method_9_code 9 = .ok (.iload_n 1, 1) := by decide +kernel
theorem d_X7_factorial_10 : decode prog_9_method_9_code 10 = .ok (.iload_n 2, 1) := by decide +kernel
theorem d_X7_factorial_11 : decode prog_9_method_9_code 11 = .ok (.imul, 1) := by decide +kernel
theorem d_X7_factorial_12 : decode prog_9_method_9_code 12 = .ok (.istore_n 1, 1) := by decide +kernel
theorem d_X7_factorial_13 : decode prog_9_method_9_code 13 = .ok (.iinc 2 1, 3) := by decide +kernel
theorem d_X7_factorial_16 : decode prog_9_method_9_code 16 = .ok (.goto (-12), 3) := by decide +kernel
theorem d_X7_factorial_19 : decode prog_9_method_9_code 19 = .ok (.iload_n 1, 1) := by decide +kernel
theorem d_X7_factorial_20 : decode prog_9_method_9_code 20 = .ok (.ireturn, 1) := by decide +kernel
abbrev M_Model_factorial : zMT := (⟨"PeriodSlotsModel", "factorial", "(I)I"⟩, prog_9_method_9_code, 3, (some .int))
theorem k_Model_factorial : zcall M_Model_factorial 1 := ⟨zU_in (i := 1119) (by decide +kernel) rfl, m62, ⟨by decide, by decide, by decide +kernel⟩, by decide⟩
def o_Model_factorial (n : Int32) : Int32 :=
  (zrep (fun (i4_1 : Nat) (s4_1 : Int32) => (s4_1 * (nI (2 + i4_1)))) 1 (zcn n + 1 - 2))
set_option maxHeartbeats 400000 in
set_option maxRecDepth 20000 in
theorem c_Model_factorial (X : zXT) (h : zHp) (g : zLg) (n : Int32) (hk : zcn n < 2147483646) : zDi X M_Model_factorial 0 [.int n] h g (zI (o_Model_factorial n)) h g := by
  refine zDi_of "PeriodSlotsModel" prog_9_method_9_code 3 (some .int) rfl (by decide) [zI n, none, none] rfl (fun _ q => q) (Nat.le_of_ble_eq_true rfl) ?_
  intro Γ Q C hQ
  refine zr_iconst C (v := 1) d_X7_factorial_0 (by decide) ?_
  refine zr_istore_n C [zI n, zI 1, none] d_X7_factorial_1 (Nat.le_of_ble_eq_true rfl) rfl rfl ?_
  refine zr_iconst C (v := 2) d_X7_factorial_2 (by decide) ?_
  refine zr_istore_n C [zI n, zI 1, zI 2] d_X7_factorial_3 (Nat.le_of_ble_eq_true rfl) rfl rfl ?_
  refine zfor (f := (fun (i4_1 : Nat) (s4_1 : Int32) => (s4_1 * (nI (2 + i4_1))))) (a := 1) (fun i4_1 s4_1 => zV X Γ Q 4 [zI n, zI s4_1, zI (nI (2 + i4_1))] [] h g) (fun _ _ => True) (zcn n + 1 - 2) trivial (fun i4_1 s4_1 hi4_1 hI4_1 => ⟨trivial, fun hk4_1 => ?_⟩) (fun r4_1 er4_1 hI4_1 => ?_)
  · refine zr_iload_n C d_X7_factorial_4 rfl ?_
    refine zr_iload_n C d_X7_factorial_5 rfl ?_
    refine zr_icmp_gt C 19 d_X7_factorial_6 (by decide) (fun c => absurd c (zgt_no rfl (by omega) (by omega))) (fun _ => ?_)
    refine zr_iload_n C d_X7_factorial_9 rfl ?_
    refine zr_iload_n C d_X7_factorial_10 rfl ?_
    refine zr_imul C d_X7_factorial_11 ?_
    refine zr_istore_n C [zI n, zI (s4_1 * (nI (2 + i4_1))), zI (nI (2 + i4_1))] d_X7_factorial_12 (Nat.le_of_ble_eq_true rfl) rfl rfl ?_
    refine zr_iinc C [zI n, zI (s4_1 * (nI (2 + i4_1))), zI (nI ((2 + i4_1) + 1))] (v := (nI ((2 + i4_1) + 1))) d_X7_factorial_13 rfl (zn_add rfl rfl) (Nat.le_of_ble_eq_true rfl) rfl rfl ?_
    refine zr_goto C 4 d_X7_factorial_16 (by decide) ?_
    exact hk4_1 (s4_1 * (nI (2 + i4_1))) rfl
  refine zr_iload_n C d_X7_factorial_4 rfl ?_
  refine zr_iload_n C d_X7_factorial_5 rfl ?_
  refine zr_icmp_gt C 19 d_X7_factorial_6 (by decide) (fun _ => ?_) (fun c => absurd (zgt_yes rfl (by omega) (by have := zcn_small n; omega)) c)
  refine zr_iload_n C d_X7_factorial_19 rfl ?_
  have eR : o_Model_factorial n = r4_1 := (by subst er4_1; unfold o_Model_factorial; exact rfl)
  subst hQ
  rw [eR]
  exact zr_ireti C d_X7_factorial_20
theorem d_X7_isStation_0 : decode prog_9_method_11_code 0 = .ok (.iload_n 1, 1) := by decide +kernel
theorem d_X7_isStation_1 : decode prog_9_method_11_code 1 = .ok (.i2l, 1) := by decide +kernel
theorem d_X7_isStation_2 : decode prog_9_method_11_code 2 = .ok (.lconst 0, 1) := by decide +kernel
theorem d_X7_isStation_3 : decode prog_9_method_11_code 3 = .ok (.aload_n 0, 1) := by decide +kernel
theorem d_X7_isStation_4 : decode prog_9_method_11_code 4 = .ok (.getfield 72, 3) := by decide +kernel
theorem d_X7_isStation_7 : decode prog_9_method_11_code 7 = .ok (.iconst 1, 1) := by decide +kernel
theorem d_X7_isStation_8 : decode prog_9_method_11_code 8 = .ok (.isub, 1) := by decide +kernel
theorem d_X7_isStation_9 : decode prog_9_method_11_code 9 = .ok (.i2l, 1) := by decide +kernel
theorem d_X7_isStation_10 : decode prog_9_method_11_code 10 = .ok (.invokestatic 76, 3) := by decide +kernel
theorem d_X7_isStation_13 : decode prog_9_method_11_code 13 = .ok (.ireturn, 1) := by decide +kernel
abbrev M_Model_isStation : zMT := (⟨"PeriodSlotsModel", "isStation", "(I)Z"⟩, prog_9_method_11_code, 2, (some .boolean))
theorem k_Model_isStation : zcall M_Model_isStation 1 := ⟨zU_in (i := 983) (by decide +kernel) rfl, m62, ⟨by decide, by decide, by decide +kernel⟩, by decide⟩
def o_Model_isStation (h : zHp) (s : Int32) : Bool :=
  (o_Model_in (Int32.toInt64 s) 0 (Int32.toInt64 ((h 51 1) - 1)))
theorem rd_Model_isStation {h h2 : zHp} {s : Int32} (e0 : h2 51 1 = h 51 1) : o_Model_isStation h2 s = o_Model_isStation h s := by
  unfold o_Model_isStation
  simp only [e0]

set_option maxHeartbeats 400000 in
set_option maxRecDepth 20000 in
theorem c_Model_isStation (X : zXT) (h : zHp) (g : zLg) (s : Int32) : zDi X M_Model_isStation 1 [zR X 51, .int s] h g (zI (zb (o_Model_isStation h s))) h g := by
  refine zDi_of "PeriodSlotsModel" prog_9_method_11_code 2 (some .boolean) rfl (by decide) [zO X 51, zI s] rfl (fun _ q => q) (Nat.le_of_ble_eq_true rfl) ?_
  intro Γ Q C hQ
  refine zr_iload_n C d_X7_isStation_0 rfl ?_
  refine zr_i2l C d_X7_isStation_1 ?_
  refine zr_lconst C (v := 0) d_X7_isStation_2 (by decide) ?_
  refine zr_aload_n C d_X7_isStation_3 rfl ?_
  refine gf_Model_2 C m755 d_X7_isStation_4 ?_
  refine zr_iconst C (v := 1) d_X7_isStation_7 (by decide) ?_
  refine zr_isub C d_X7_isStation_8 ?_
  refine zr_i2l C d_X7_isStation_9 ?_
  refine zr_callSi (As := [.long (Int32.toInt64 s), .long 0, .long (Int32.toInt64 ((h 51 1) - 1))]) (st := []) C (c_Model_in X h g (Int32.toInt64 s) 0 (Int32.toInt64 ((h 51 1) - 1))) k_Model_in m856 m857 rfl (by decide) rfl (Nat.le_of_ble_eq_true rfl) d_X7_isStation_10 ?_
  have eR : o_Model_isStation h s = (o_Model_in (Int32.toInt64 s) 0 (Int32.toInt64 ((h 51 1) - 1))) := (by unfold o_Model_isStation; exact rfl)
  subst hQ
  rw [eR]
  exact zr_iretz C (zb_01 _) d_X7_isStation_13
theorem zin0 {x lo hi : Int64} : o_Model_in x lo hi = true ↔ lo ≤ x ∧ x ≤ hi := by
  unfold o_Model_in
  simp only [Bool.and_eq_true, Bool.not_eq_true', decide_eq_false_iff_not, lg_cmp_lt, lg_cmp_gt, Int64.not_lt]
theorem zin {x : Int32} {lo hi : Int64} {N : Nat} (c : o_Model_in (Int32.toInt64 x) lo hi = true) (h0 : 0 ≤ lo.toInt) (h1 : hi.toInt = (N : Int)) : ¬ x < 0 ∧ zcn x ≤ N := by
  obtain ⟨c1, c2⟩ := zin0.mp c
  have e1 : x.toInt64.toInt = x.toInt := Int32.toInt_toInt64 x
  have e2 : zcn x = x.toInt.toNat := rfl
  have e3 : (0 : Int32).toInt = 0 := rfl
  rw [Int64.le_iff_toInt_le, e1] at c1 c2
  refine ⟨?_, ?_⟩
  · rw [Int32.lt_iff_toInt_lt]; omega
  · omega
theorem zin_m {x y : Int32} {n : Nat} (e : y = nI n) (hn : n ≤ 8) (c : o_Model_in (Int32.toInt64 x) 0 (Int32.toInt64 (y - 1)) = true) : ¬ x < 0 ∧ zcn x < n := by
  obtain ⟨c1, c2⟩ := zin0.mp c
  have e1 : x.toInt64.toInt = x.toInt := Int32.toInt_toInt64 x
  have e2 : zcn x = x.toInt.toNat := rfl
  have e3 : (0 : Int32).toInt = 0 := rfl
  have e5 : (0 : Int64).toInt = 0 := rfl
  have e4 : (y - 1).toInt64.toInt = (n : Int) - 1 := by
    rw [Int32.toInt_toInt64, e]
    exact pk_sub_toInt (a := n) (b := 1) (by omega) (by omega)
  rw [Int64.le_iff_toInt_le, e1] at c1 c2
  rw [e4] at c2
  rw [e5] at c1
  refine ⟨?_, ?_⟩
  · rw [Int32.lt_iff_toInt_lt]; omega
  · omega
theorem zinm {h : zHp} {c k : Nat} {x : Int32} (f : zfit h c k 8) (q : o_Model_in (Int32.toInt64 x) 0 (Int32.toInt64 (h c k - 1)) = true) : ¬ x < 0 ∧ zcn x < zcn (h c k) := zin_m f.2 f.1 q
theorem zist {h : zHp} {s : Int32} (f : zfit h 51 1 8) (c : o_Model_isStation h s = true) : ¬ s < 0 ∧ zcn s < zcn (h 51 1) := zinm f c

theorem d_X7_all_0 : decode prog_9_method_12_code 0 = .ok (.iconst 1, 1) := by decide +kernel
theorem d_X7_all_1 : decode prog_9_method_12_code 1 = .ok (.aload_n 0, 1) := by decide +kernel
theorem d_X7_all_2 : decode prog_9_method_12_code 2 = .ok (.getfield 72, 3) := by decide +kernel
theorem d_X7_all_5 : decode prog_9_method_12_code 5 = .ok (.ishl, 1) := by decide +kernel
theorem d_X7_all_6 : decode prog_9_method_12_code 6 = .ok (.iconst 1, 1) := by decide +kernel
theorem d_X7_all_7 : decode prog_9_method_12_code 7 = .ok (.isub, 1) := by decide +kernel
theorem d_X7_all_8 : decode prog_9_method_12_code 8 = .ok (.ireturn, 1) := by decide +kernel
abbrev M_Model_all : zMT := (⟨"PeriodSlotsModel", "all", "()I"⟩, prog_9_method_12_code, 1, (some .int))
theorem k_Model_all : zcall M_Model_all 0 := ⟨zU_in (i := 904) (by decide +kernel) rfl, m62, ⟨by decide, by decide, by decide +kernel⟩, by decide⟩
def o_Model_all (h : zHp) : Int32 :=
  ((zshl 1 (h 51 1)) - 1)
theorem rd_Model_all {h h2 : zHp}  (e0 : h2 51 1 = h 51 1) : o_Model_all h2 = o_Model_all h := by
  unfold o_Model_all
  simp only [e0]

set_option maxHeartbeats 400000 in
set_option maxRecDepth 20000 in
theorem c_Model_all (X : zXT) (h : zHp) (g : zLg)  : zDi X M_Model_all 0 [zR X 51] h g (zI (o_Model_all h)) h g := by
  refine zDi_of "PeriodSlotsModel" prog_9_method_12_code 1 (some .int) rfl (by decide) [zO X 51] rfl (fun _ q => q) (Nat.le_of_ble_eq_true rfl) ?_
  intro Γ Q C hQ
  refine zr_iconst C (v := 1) d_X7_all_0 (by decide) ?_
  refine zr_aload_n C d_X7_all_1 rfl ?_
  refine gf_Model_2 C m755 d_X7_all_2 ?_
  refine zr_ishl C d_X7_all_5 ?_
  refine zr_iconst C (v := 1) d_X7_all_6 (by decide) ?_
  refine zr_isub C d_X7_all_7 ?_
  have eR : o_Model_all h = ((zshl 1 (h 51 1)) - 1) := (by unfold o_Model_all; exact rfl)
  subst hQ
  rw [eR]
  exact zr_ireti C d_X7_all_8
theorem d_X7_write_0 : decode prog_9_method_13_code 0 = .ok (.iload_n 1, 1) := by decide +kernel
theorem d_X7_write_1 : decode prog_9_method_13_code 1 = .ok (.i2l, 1) := by decide +kernel
theorem d_X7_write_2 : decode prog_9_method_13_code 2 = .ok (.lconst 0, 1) := by decide +kernel
theorem d_X7_write_3 : decode prog_9_method_13_code 3 = .ok (.ldc2_w 80, 3) := by decide +kernel
theorem d_X7_write_6 : decode prog_9_method_13_code 6 = .ok (.invokestatic 76, 3) := by decide +kernel
theorem d_X7_write_9 : decode prog_9_method_13_code 9 = .ok (.ifCond .ne 6, 3) := by decide +kernel
theorem d_X7_write_12 : decode prog_9_method_13_code 12 = .ok (.bipush (-2), 2) := by decide +kernel
theorem d_X7_write_14 : decode prog_9_method_13_code 14 = .ok (.ireturn, 1) := by decide +kernel
theorem d_X7_write_15 : decode prog_9_method_13_code 15 = .ok (.aload_n 0, 1) := by decide +kernel
theorem d_X7_write_16 : decode prog_9_method_13_code 16 = .ok (.getfield 82, 3) := by decide +kernel
theorem d_X7_write_19 : decode prog_9_method_13_code 19 = .ok (.bipush 110, 2) := by decide +kernel
theorem d_X7_write_21 : decode prog_9_method_13_code 21 = .ok (.if_icmp .ne 6, 3) := by decide +kernel
theorem d_X7_write_24 : decode prog_9_method_13_code 24 = .ok (.bipush (-4), 2) := by decide +kernel
theorem d_X7_write_26 : decode prog_9_method_13_code 26 = .ok (.ireturn, 1) := by decide +kernel
theorem d_X7_write_27 : decode prog_9_method_13_code 27 = .ok (.aload_n 0, 1) := by decide +kernel
theorem d_X7_write_28 : decode prog_9_method_13_code 28 = .ok (.getfield 7, 3) := by decide +kernel
theorem d_X7_write_31 : decode prog_9_method_13_code 31 = .ok (.aload_n 0, 1) := by decide +kernel
theorem d_X7_write_32 : decode prog_9_method_13_code 32 = .ok (.getfield 82, 3) := by decide +kernel
theorem d_X7_write_35 : decode prog_9_method_13_code 35 = .ok (.iload_n 1, 1) := by decide +kernel
theorem d_X7_write_36 : decode prog_9_method_13_code 36 = .ok (.iastore, 1) := by decide +kernel
theorem d_X7_write_37 : decode prog_9_method_13_code 37 = .ok (.aload_n 0, 1) := by decide +kernel
theorem d_X7_write_38 : decode prog_9_method_13_code 38 = .ok (.dup, 1) := by decide +kernel
theorem d_X7_write_39 : decode prog_9_method_13_code 39 = .ok (.getfield 82, 3) := by decide +kernel
theorem d_X7_write_42 : decode prog_9_method_13_code 42 = .ok (.iconst 1, 1) := by decide +kernel
theorem d_X7_write_43 : decode prog_9_method_13_code 43 = .ok (.iadd, 1) := by decide +kernel
theorem d_X7_write_44 : decode prog_9_method_13_code 44 = .ok (.putfield 82, 3) := by decide +kernel
theorem d_X7_write_47 : decode prog_9_method_13_code 47 = .ok (.aload_n 0, 1) := by decide +kernel
theorem d_X7_write_48 : decode prog_9_method_13_code 48 = .ok (.getfield 82, 3) := by decide +kernel
theorem d_X7_write_51 : decode prog_9_method_13_code 51 = .ok (.ireturn, 1) := by decide +kernel
abbrev M_Model_write : zMT := (⟨"PeriodSlotsModel", "write", "(I)I"⟩, prog_9_method_13_code, 2, (some .int))
theorem k_Model_write : zcall M_Model_write 1 := ⟨zU_in (i := 854) (by decide +kernel) rfl, m62, ⟨by decide, by decide, by decide +kernel⟩, by decide⟩
def o_Model_write (h : zHp) (letter : Int32) : Int32 × zHp :=
  (if (o_Model_in (Int32.toInt64 letter) 0 255) = true then (if (h 51 0) = 110 then ((-4), h) else (((h 51 0) + 1), (zup (zup h 52 (zcn (h 51 0)) letter) 51 0 ((h 51 0) + 1)))) else ((-2), h))
theorem fr_Model_write {h : zHp} {letter : Int32} (c k : Nat) (q0 : ¬ (c = 51 ∧ k = 0)) (q1 : c ≠ 52) : (o_Model_write h letter).2 c k = h c k := by
  unfold o_Model_write
  by_cases f1 : (o_Model_in (Int32.toInt64 letter) 0 255) = true
  · rw [if_pos f1]
    by_cases f2 : (h 51 0) = 110
    · rw [if_pos f2]
      try dsimp only
      first | done | exact rfl
    · rw [if_neg f2]
      try dsimp only
      first | done | exact ((zup_fr (by omega)).trans (zup_fr (Or.inl (by assumption))))
  · rw [if_neg f1]
    try dsimp only
    first | done | exact rfl
set_option maxHeartbeats 400000 in
set_option maxRecDepth 20000 in
theorem c_Model_write (X : zXT) (h : zHp) (g : zLg) (letter : Int32) (hf0 : zfit h 51 0 110) : zDi X M_Model_write 1 [zR X 51, .int letter] h g (zI ((o_Model_write h letter).1)) ((o_Model_write h letter).2) g := by
  have hf0_1 := hf0.1
  refine zDi_of "PeriodSlotsModel" prog_9_method_13_code 2 (some .int) rfl (by decide) [zO X 51, zI letter] rfl (fun _ q => q) (Nat.le_of_ble_eq_true rfl) ?_
  intro Γ Q C hQ
  refine zr_iload_n C d_X7_write_0 rfl ?_
  refine zr_i2l C d_X7_write_1 ?_
  refine zr_lconst C (v := 0) d_X7_write_2 (by decide) ?_
  refine zr_ldc2 C (v := 255) m855 d_X7_write_3 ?_
  refine zr_callSi (As := [.long (Int32.toInt64 letter), .long 0, .long 255]) (st := []) C (c_Model_in X h g (Int32.toInt64 letter) 0 255) k_Model_in m856 m857 rfl (by decide) rfl (Nat.le_of_ble_eq_true rfl) d_X7_write_6 ?_
  refine zr_ifz_ne C 15 d_X7_write_9 (by decide) (fun c9 => ?_) (fun c9 => ?_)
  · have ex1 := zin (N := 255) c9 (by decide) (by decide)
    have ex1_2 := ex1.2
    refine zr_aload_n C d_X7_write_15 rfl ?_
    refine gf_Model_1 C m754 d_X7_write_16 ?_
    refine zr_bipush C (v := 110) d_X7_write_19 (by decide) ?_
    refine zr_icmp_ne C 27 d_X7_write_21 (by decide) (fun c21 => ?_) (fun c21 => ?_)
    · have en2 := zn_ne (a := zcn (h 51 0)) (b := 110) hf0.2 rfl c21 (zcn_small _) (by decide)
      refine zr_aload_n C d_X7_write_27 rfl ?_
      refine gf_Model_0 C m753 d_X7_write_28 ?_
      refine zr_aload_n C d_X7_write_31 rfl ?_
      refine gf_Model_1 C m754 d_X7_write_32 ?_
      refine zr_iload_n C d_X7_write_35 rfl ?_
      refine zr_iast C za_52 (zcn (h 51 0)) hf0.2 (by omega) (by decide) d_X7_write_36 ?_
      refine zr_h (fun h3 eh3 => ?_)
      refine zr_aload_n C d_X7_write_37 rfl ?_
      refine zr_dup C d_X7_write_38 rfl ?_
      refine gf_Model_1 C m754 d_X7_write_39 ?_
      refine zr_top ((congrFun (congrFun eh3.symm _) _).trans (zup_fr (by omega))) ?_
      refine zr_iconst C (v := 1) d_X7_write_42 (by decide) ?_
      refine zr_iadd C d_X7_write_43 ?_
      refine pf_Model_1 C m754 d_X7_write_44 ?_
      refine zr_h (fun h4 eh4 => ?_)
      refine zr_aload_n C d_X7_write_47 rfl ?_
      refine gf_Model_1 C m754 d_X7_write_48 ?_
      refine zr_top ((congrFun (congrFun eh4.symm _) _).trans zup_at) ?_
      have eR : o_Model_write h letter = (((h 51 0) + 1), h4) := (by subst eh4 eh3; unfold o_Model_write; rw [if_pos c9, if_neg c21])
      subst hQ
      exact zTQ_Ih eR (zr_ireti C d_X7_write_51)
    · have en5 := zn_nne (a := zcn (h 51 0)) (b := 110) hf0.2 rfl c21 (zcn_small _) (by decide)
      refine zr_bipush C (v := (-4)) d_X7_write_24 (by decide) ?_
      have eR : o_Model_write h letter = ((-4), h) := (by unfold o_Model_write; rw [if_pos c9, if_pos c21])
      subst hQ
      exact zTQ_Ih eR (zr_ireti C d_X7_write_26)
  · refine zr_bipush C (v := (-2)) d_X7_write_12 (by decide) ?_
    have eR : o_Model_write h letter = ((-2), h) := (by unfold o_Model_write; rw [if_neg (zbf c9)])
    subst hQ
    exact zTQ_Ih eR (zr_ireti C d_X7_write_14)
theorem d_X7_wipe_0 : decode prog_9_method_14_code 0 = .ok (.aload_n 0, 1) := by decide +kernel
theorem d_X7_wipe_1 : decode prog_9_method_14_code 1 = .ok (.getfield 82, 3) := by decide +kernel
theorem d_X7_wipe_4 : decode prog_9_method_14_code 4 = .ok (.istore_n 1, 1) := by decide +kernel
theorem d_X7_wipe_5 : decode prog_9_method_14_code 5 = .ok (.aload_n 0, 1) := by decide +kernel
theorem d_X7_wipe_6 : decode prog_9_method_14_code 6 = .ok (.iconst 0, 1) := by decide +kernel
theorem d_X7_wipe_7 : decode prog_9_method_14_code 7 = .ok (.putfield 82, 3) := by decide +kernel
theorem d_X7_wipe_10 : decode prog_9_method_14_code 10 = .ok (.iload_n 1, 1) := by decide +kernel
theorem d_X7_wipe_11 : decode prog_9_method_14_code 11 = .ok (.ireturn, 1) := by decide +kernel
abbrev M_Model_wipe : zMT := (⟨"PeriodSlotsModel", "wipe", "()I"⟩, prog_9_method_14_code, 2, (some .int))
theorem k_Model_wipe : zcall M_Model_wipe 0 := ⟨zU_in (i := 862) (by decide +kernel) rfl, m62, ⟨by decide, by decide, by decide +kernel⟩, by decide⟩
def o_Model_wipe (h : zHp) : Int32 × zHp :=
  ((h 51 0), (zup h 51 0 0))
theorem fr_Model_wipe {h : zHp} (c k : Nat) (q0 : ¬ (c = 51 ∧ k = 0)) : (o_Model_wipe h).2 c k = h c k := by
  unfold o_Model_wipe
  try dsimp only
  first | done | exact (zup_fr (by omega))
set_option maxHeartbeats 400000 in
set_option maxRecDepth 20000 in
theorem c_Model_wipe (X : zXT) (h : zHp) (g : zLg)  : zDi X M_Model_wipe 0 [zR X 51] h g (zI ((o_Model_wipe h).1)) ((o_Model_wipe h).2) g := by
  refine zDi_of "PeriodSlotsModel" prog_9_method_14_code 2 (some .int) rfl (by decide) [zO X 51, none] rfl (fun _ q => q) (Nat.le_of_ble_eq_true rfl) ?_
  intro Γ Q C hQ
  refine zr_aload_n C d_X7_wipe_0 rfl ?_
  refine gf_Model_1 C m754 d_X7_wipe_1 ?_
  refine zr_istore_n C [zO X 51, zI (h 51 0)] d_X7_wipe_4 (Nat.le_of_ble_eq_true rfl) rfl rfl ?_
  refine zr_aload_n C d_X7_wipe_5 rfl ?_
  refine zr_iconst C (v := 0) d_X7_wipe_6 (by decide) ?_
  refine pf_Model_1 C m754 d_X7_wipe_7 ?_
  refine zr_h (fun h1 eh1 => ?_)
  refine zr_iload_n C d_X7_wipe_10 rfl ?_
  have eR : o_Model_wipe h = ((h 51 0), h1) := (by subst eh1; unfold o_Model_wipe; exact rfl)
  subst hQ
  exact zTQ_Ih eR (zr_ireti C d_X7_wipe_11)
theorem d_X7_hasRoom_0 : decode prog_9_method_15_code 0 = .ok (.aload_n 0, 1) := by decide +kernel
theorem d_X7_hasRoom_1 : decode prog_9_method_15_code 1 = .ok (.getfield 50, 3) := by decide +kernel
theorem d_X7_hasRoom_4 : decode prog_9_method_15_code 4 = .ok (.iload_n 1, 1) := by decide +kernel
theorem d_X7_hasRoom_5 : decode prog_9_method_15_code 5 = .ok (.iaload, 1) := by decide +kernel
theorem d_X7_hasRoom_6 : decode prog_9_method_15_code 6 = .ok (.iconst 1, 1) := by decide +kernel
theorem d_X7_hasRoom_7 : decode prog_9_method_15_code 7 = .ok (.iload_n 1, 1) := by decide +kernel
theorem d_X7_hasRoom_8 : decode prog_9_method_15_code 8 = .ok (.ishl, 1) := by decide +kernel
theorem d_X7_hasRoom_9 : decode prog_9_method_15_code 9 = .ok (.ior, 1) := by decide +kernel
theorem d_X7_hasRoom_10 : decode prog_9_method_15_code 10 = .ok (.iconst 1, 1) := by decide +kernel
theorem d_X7_hasRoom_11 : decode prog_9_method_15_code 11 = .ok (.aload_n 0, 1) := by decide +kernel
theorem d_X7_hasRoom_12 : decode prog_9_method_15_code 12 = .ok (.getfield 85, 3) := by decide +kernel
theorem d_X7_hasRoom_15 : decode prog_9_method_15_code 15 = .ok (.ishl, 1) := by decide +kernel
theorem d_X7_hasRoom_16 : decode prog_9_method_15_code 16 = .ok (.iconst 1, 1) := by decide +kernel
theorem d_X7_hasRoom_17 : decode prog_9_method_15_code 17 = .ok (.isub, 1) := by decide +kernel
theorem d_X7_hasRoom_18 : decode prog_9_method_15_code 18 = .ok (.if_icmp .eq 7, 3) := by decide +kernel
theorem d_X7_hasRoom_21 : decode prog_9_method_15_code 21 = .ok (.iconst 1, 1) := by decide +kernel
theorem d_X7_hasRoom_22 : decode prog_9_method_15_code 22 = .ok (.goto 4, 3) := by decide +kernel
theorem d_X7_hasRoom_25 : decode prog_9_method_15_code 25 = .ok (.iconst 0, 1) := by decide +kernel
theorem d_X7_hasRoom_26 : decode prog_9_method_15_code 26 = .ok (.ireturn, 1) := by decide +kernel
abbrev M_Model_hasRoom : zMT := (⟨"PeriodSlotsModel", "hasRoom", "(I)Z"⟩, prog_9_method_15_code, 2, (some .boolean))
theorem k_Model_hasRoom : zcall M_Model_hasRoom 1 := ⟨zU_in (i := 878) (by decide +kernel) rfl, m62, ⟨by decide, by decide, by decide +kernel⟩, by decide⟩
def o_Model_hasRoom (h : zHp) (s : Nat) : Bool :=
  (!(decide (((h 65 s) ||| (zshl 1 (nI s))) = ((zshl 1 (h 51 5)) - 1))))
theorem rd_Model_hasRoom {h h2 : zHp} {s : Nat} (e0 : h2 51 5 = h 51 5) (e1 : h2 65 = h 65) : o_Model_hasRoom h2 s = o_Model_hasRoom h s := by
  unfold o_Model_hasRoom
  simp only [e0, e1]

set_option maxHeartbeats 400000 in
set_option maxRecDepth 20000 in
theorem c_Model_hasRoom (X : zXT) (h : zHp) (g : zLg) (s : Nat) {x_s : Int32} (e_s : x_s = nI s) (hl0 : s < 8) : zDi X M_Model_hasRoom 0 [zR X 51, .int x_s] h g (zI (zb (o_Model_hasRoom h s))) h g := by
  subst e_s
  refine zDi_of "PeriodSlotsModel" prog_9_method_15_code 2 (some .boolean) rfl (by decide) [zO X 51, zI (nI s)] rfl (fun _ q => q) (Nat.le_of_ble_eq_true rfl) ?_
  intro Γ Q C hQ
  refine zr_aload_n C d_X7_hasRoom_0 rfl ?_
  refine gf_Model_20 C m773 d_X7_hasRoom_1 ?_
  refine zr_iload_n C d_X7_hasRoom_4 rfl ?_
  refine zr_iald C za_65 (s) rfl (by omega) (by decide) d_X7_hasRoom_5 ?_
  refine zr_iconst C (v := 1) d_X7_hasRoom_6 (by decide) ?_
  refine zr_iload_n C d_X7_hasRoom_7 rfl ?_
  refine zr_ishl C d_X7_hasRoom_8 ?_
  refine zr_ior C d_X7_hasRoom_9 ?_
  refine zr_iconst C (v := 1) d_X7_hasRoom_10 (by decide) ?_
  refine zr_aload_n C d_X7_hasRoom_11 rfl ?_
  refine gf_Model_17 C m770 d_X7_hasRoom_12 ?_
  refine zr_ishl C d_X7_hasRoom_15 ?_
  refine zr_iconst C (v := 1) d_X7_hasRoom_16 (by decide) ?_
  refine zr_isub C d_X7_hasRoom_17 ?_
  suffices hJ18 : ∀ (y1 : Bool), (!(decide (((h 65 s) ||| (zshl 1 (nI s))) = ((zshl 1 (h 51 5)) - 1)))) = y1 → zV X Γ Q 26 [none, none] [.int (zb y1)] h g by
    refine zr_icmp_eq C 25 d_X7_hasRoom_18 (by decide) (fun c18 => ?_) (fun c18 => ?_)
    · refine zr_iconst C (v := 0) d_X7_hasRoom_25 (by decide) ?_
      refine zr_lv [none, none] (by simp [zle]) ?_
      exact hJ18 false (by simp [c18])
    · refine zr_iconst C (v := 1) d_X7_hasRoom_21 (by decide) ?_
      refine zr_goto C 26 d_X7_hasRoom_22 (by decide) ?_
      refine zr_lv [none, none] (by simp [zle]) ?_
      exact hJ18 true (by simp [c18])
  intro y1 ey1
  have eR : o_Model_hasRoom h s = y1 := (by subst ey1; unfold o_Model_hasRoom; exact rfl)
  subst hQ
  rw [eR]
  exact zr_iretz C (zb_01 _) d_X7_hasRoom_26
theorem d_X7_takeSign_0 : decode prog_9_method_16_code 0 = .ok (.aload_n 0, 1) := by decide +kernel
theorem d_X7_takeSign_1 : decode prog_9_method_16_code 1 = .ok (.iload_n 1, 1) := by decide +kernel
theorem d_X7_takeSign_2 : decode prog_9_method_16_code 2 = .ok (.putfield 88, 3) := by decide +kernel
theorem d_X7_takeSign_5 : decode prog_9_method_16_code 5 = .ok (.aload_n 0, 1) := by decide +kernel
theorem d_X7_takeSign_6 : decode prog_9_method_16_code 6 = .ok (.iconst 1, 1) := by decide +kernel
theorem d_X7_takeSign_7 : decode prog_9_method_16_code 7 = .ok (.putfield 91, 3) := by decide +kernel
theorem d_X7_takeSign_10 : decode prog_9_method_16_code 10 = .ok (.iload_n 1, 1) := by decide +kernel
theorem d_X7_takeSign_11 : decode prog_9_method_16_code 11 = .ok (.bipush 83, 2) := by decide +kernel
theorem d_X7_takeSign_13 : decode prog_9_method_16_code 13 = .ok (.if_icmp .ne 18, 3) := by decide +kernel
theorem d_X7_takeSign_16 : decode prog_9_method_16_code 16 = .ok (.aload_n 0, 1) := by decide +kernel
theorem d_X7_takeSign_17 : decode prog_9_method_16_code 17 = .ok (.getfield 85, 3) := by decide +kernel
theorem d_X7_takeSign_20 : decode prog_9_method_16_code 20 = .ok (.bipush 8, 2) := by decide +kernel
theorem d_X7_takeSign_22 : decode prog_9_method_16_code 22 = .ok (.if_icmp .ge 7, 3) := by decide +kernel
theorem d_X7_takeSign_25 : decode prog_9_method_16_code 25 = .ok (.iconst 1, 1) := by decide +kernel
theorem d_X7_takeSign_26 : decode prog_9_method_16_code 26 = .ok (.goto 4, 3) := by decide +kernel
theorem d_X7_takeSign_29 : decode prog_9_method_16_code 29 = .ok (.iconst 0, 1) := by decide +kernel
theorem d_X7_takeSign_30 : decode prog_9_method_16_code 30 = .ok (.ireturn, 1) := by decide +kernel
theorem d_X7_takeSign_31 : decode prog_9_method_16_code 31 = .ok (.iconst 0, 1) := by decide +kernel
theorem d_X7_takeSign_32 : decode prog_9_method_16_code 32 = .ok (.istore_n 2, 1) := by decide +kernel
theorem d_X7_takeSign_33 : decode prog_9_method_16_code 33 = .ok (.iconst 0, 1) := by decide +kernel
theorem d_X7_takeSign_34 : decode prog_9_method_16_code 34 = .ok (.istore_n 3, 1) := by decide +kernel
theorem d_X7_takeSign_35 : decode prog_9_method_16_code 35 = .ok (.iload_n 3, 1) := by decide +kernel
theorem d_X7_takeSign_36 : decode prog_9_method_16_code 36 = .ok (.aload_n 0, 1) := by decide +kernel
theorem d_X7_takeSign_37 : decode prog_9_method_16_code 37 = .ok (.getfield 85, 3) := by decide +kernel
theorem d_X7_takeSign_40 : decode prog_9_method_16_code 40 = .ok (.if_icmp .ge 27, 3) := by decide +kernel
theorem d_X7_takeSign_43 : decode prog_9_method_16_code 43 = .ok (.iload_n 2, 1) := by decide +kernel
theorem d_X7_takeSign_44 : decode prog_9_method_16_code 44 = .ok (.ifCond .ne 11, 3) := by decide +kernel
theorem d_X7_takeSign_47 : decode prog_9_method_16_code 47 = .ok (.aload_n 0, 1) := by decide +kernel
theorem d_X7_takeSign_48 : decode prog_9_method_16_code 48 = .ok (.iload_n 3, 1) := by decide +kernel
theorem d_X7_takeSign_49 : decode prog_9_method_16_code 49 = .ok (.invokevirtual 94, 3) := by decide +kernel
theorem d_X7_takeSign_52 : decode prog_9_method_16_code 52 = .ok (.ifCond .eq 7, 3) := by decide +kernel
theorem d_X7_takeSign_55 : decode prog_9_method_16_code 55 = .ok (.iconst 1, 1) := by decide +kernel
theorem d_X7_takeSign_56 : decode prog_9_method_16_code 56 = .ok (.goto 4, 3) := by decide +kernel
theorem d_X7_takeSign_59 : decode prog_9_method_16_code 59 = .ok (.iconst 0, 1) := by decide +kernel
theorem d_X7_takeSign_60 : decode prog_9_method_16_code 60 = .ok (.istore_n 2, 1) := by decide +kernel
theorem d_X7_takeSign_61 : decode prog_9_method_16_code 61 = .ok (.iinc 3 1, 3) := by decide +kernel
theorem d_X7_takeSign_64 : decode prog_9_method_16_code 64 = .ok (.goto (-29), 3) := by decide +kernel
theorem d_X7_takeSign_67 : decode prog_9_method_16_code 67 = .ok (.iload_n 1, 1) := by decide +kernel
theorem d_X7_takeSign_68 : decode prog_9_method_16_code 68 = .ok (.bipush 76, 2) := by decide +kernel
theorem d_X7_takeSign_70 : decode prog_9_method_16_code 70 = .ok (.if_icmp .ne 11, 3) := by decide +kernel
theorem d_X7_takeSign_73 : decode prog_9_method_16_code 73 = .ok (.iload_n 2, 1) := by decide +kernel
theorem d_X7_takeSign_74 : decode prog_9_method_16_code 74 = .ok (.ifCond .eq 7, 3) := by decide +kernel
theorem d_X7_takeSign_77 : decode prog_9_method_16_code 77 = .ok (.iconst 1, 1) := by decide +kernel
theorem d_X7_takeSign_78 : decode prog_9_method_16_code 78 = .ok (.goto 4, 3) := by decide +kernel
theorem d_X7_takeSign_81 : decode prog_9_method_16_code 81 = .ok (.iconst 0, 1) := by decide +kernel
theorem d_X7_takeSign_82 : decode prog_9_method_16_code 82 = .ok (.ireturn, 1) := by decide +kernel
abbrev M_Model_takeSign : zMT := (⟨"PeriodSlotsModel", "takeSign", "(I)Z"⟩, prog_9_method_16_code, 4, (some .boolean))
theorem k_Model_takeSign : zcall M_Model_takeSign 1 := ⟨zU_in (i := 874) (by decide +kernel) rfl, m62, ⟨by decide, by decide, by decide +kernel⟩, by decide⟩
def o_Model_takeSign (h : zHp) (letter : Int32) : Bool × zHp :=
  (if letter = 83 then ((!(decide (8 ≤ (h 51 5)))), (zup (zup h 51 6 letter) 51 7 1)) else (((decide (letter = 76)) && (zrep (fun (i35_5 : Nat) (s35_5 : Bool) => (s35_5 || (o_Model_hasRoom h i35_5))) false (zcn (h 51 5)))), (zup (zup h 51 6 letter) 51 7 1)))
theorem fr_Model_takeSign {h : zHp} {letter : Int32} (c k : Nat) (q0 : ¬ (c = 51 ∧ k = 6)) (q1 : ¬ (c = 51 ∧ k = 7)) : (o_Model_takeSign h letter).2 c k = h c k := by
  unfold o_Model_takeSign
  by_cases f1 : letter = 83
  · rw [if_pos f1]
    try dsimp only
    first | done | exact ((zup_fr (by omega)).trans (zup_fr (by omega)))
  · rw [if_neg f1]
    try dsimp only
    first | done | exact ((zup_fr (by omega)).trans (zup_fr (by omega)))
set_option maxHeartbeats 400000 in
set_option maxRecDepth 20000 in
theorem c_Model_takeSign (X : zXT) (h : zHp) (g : zLg) (letter : Int32) (hf0 : zfit h 51 5 8) : zDi X M_Model_takeSign 1 [zR X 51, .int letter] h g (zI (zb ((o_Model_takeSign h letter).1))) ((o_Model_takeSign h letter).2) g := by
  have hf0_1 := hf0.1
  refine zDi_of "PeriodSlotsModel" prog_9_method_16_code 4 (some .boolean) rfl (by decide) [zO X 51, zI letter, none, none] rfl (fun _ q => q) (Nat.le_of_ble_eq_true rfl) ?_
  intro Γ Q C hQ
  refine zr_aload_n C d_X7_takeSign_0 rfl ?_
  refine zr_iload_n C d_X7_takeSign_1 rfl ?_
  refine pf_Model_21 C m774 d_X7_takeSign_2 ?_
  refine zr_h (fun h1 eh1 => ?_)
  refine zr_aload_n C d_X7_takeSign_5 rfl ?_
  refine zr_iconst C (v := 1) d_X7_takeSign_6 (by decide) ?_
  refine pf_Model_22 C m775 d_X7_takeSign_7 ?_
  refine zr_h (fun h2 eh2 => ?_)
  refine zr_iload_n C d_X7_takeSign_10 rfl ?_
  refine zr_bipush C (v := 83) d_X7_takeSign_11 (by decide) ?_
  refine zr_icmp_ne C 31 d_X7_takeSign_13 (by decide) (fun c13 => ?_) (fun c13 => ?_)
  · refine zr_iconst C (v := 0) d_X7_takeSign_31 (by decide) ?_
    refine zr_istore_n C [zO X 51, zI letter, zI 0, none] d_X7_takeSign_32 (Nat.le_of_ble_eq_true rfl) rfl rfl ?_
    refine zr_iconst C (v := 0) d_X7_takeSign_33 (by decide) ?_
    refine zr_istore_n C [zO X 51, zI letter, zI 0, zI 0] d_X7_takeSign_34 (Nat.le_of_ble_eq_true rfl) rfl rfl ?_
    refine zfor (f := (fun (i35_5 : Nat) (s35_5 : Bool) => (s35_5 || (o_Model_hasRoom h i35_5)))) (a := false) (fun i35_5 s35_5 => zV X Γ Q 35 [zO X 51, zI letter, zI (zb s35_5), zI (nI i35_5)] [] h2 g) (fun _ _ => True) (zcn (h 51 5)) trivial (fun i35_5 s35_5 hi35_5 hI35_5 => ⟨trivial, fun hk35_5 => ?_⟩) (fun r35_5 er35_5 hI35_5 => ?_)
    · refine zr_iload_n C d_X7_takeSign_35 rfl ?_
      refine zr_aload_n C d_X7_takeSign_36 rfl ?_
      refine gf_Model_17 C m770 d_X7_takeSign_37 ?_
      refine zr_top ((congrFun (congrFun eh2.symm _) _).trans ((zup_fr (by omega)).trans ((congrFun (congrFun eh1.symm _) _).trans (zup_fr (by omega))))) ?_
      refine zr_icmp_ge C 67 d_X7_takeSign_40 (by decide) (fun c => absurd c (zge_no rfl (by omega))) (fun _ => ?_)
      refine zr_iload_n C d_X7_takeSign_43 rfl ?_
      suffices hJ44 : ∀ (y6 : Bool), (s35_5 || (o_Model_hasRoom h i35_5)) = y6 → zV X Γ Q 60 [zO X 51, zI letter, none, zI (nI i35_5)] [.int (zb y6)] h2 g by
        refine zr_ifz_ne C 55 d_X7_takeSign_44 (by decide) (fun c44 => ?_) (fun c44 => ?_)
        · refine zr_iconst C (v := 1) d_X7_takeSign_55 (by decide) ?_
          refine zr_goto C 60 d_X7_takeSign_56 (by decide) ?_
          refine zr_lv [zO X 51, zI letter, none, zI (nI i35_5)] (by simp [zle]) ?_
          exact hJ44 true (by simp [c44])
        · refine zr_aload_n C d_X7_takeSign_47 rfl ?_
          refine zr_iload_n C d_X7_takeSign_48 rfl ?_
          refine zr_callVi (As := [.int (nI i35_5)]) (st := []) (c := 51) C (c_Model_hasRoom X h2 g i35_5 rfl (by omega)) k_Model_hasRoom m875 m877 m22 (by decide) (zC_Model X _ _) rfl rfl (by decide) rfl (Nat.le_of_ble_eq_true rfl) d_X7_takeSign_49 ?_
          refine zr_topz (rd_Model_hasRoom ((congrFun (congrFun eh2.symm _) _).trans ((zup_fr (by omega)).trans ((congrFun (congrFun eh1.symm _) _).trans (zup_fr (by omega))))) (funext fun kk => ((congrFun (congrFun eh2.symm _) _).trans ((zup_fr (by omega)).trans ((congrFun (congrFun eh1.symm _) _).trans (zup_fr (by omega))))))) ?_
          refine zr_ifz_eq C 59 d_X7_takeSign_52 (by decide) (fun c52 => ?_) (fun c52 => ?_)
          · refine zr_iconst C (v := 0) d_X7_takeSign_59 (by decide) ?_
            refine zr_lv [zO X 51, zI letter, none, zI (nI i35_5)] (by simp [zle]) ?_
            exact hJ44 false (by simp [c44, c52])
          · refine zr_iconst C (v := 1) d_X7_takeSign_55 (by decide) ?_
            refine zr_goto C 60 d_X7_takeSign_56 (by decide) ?_
            refine zr_lv [zO X 51, zI letter, none, zI (nI i35_5)] (by simp [zle]) ?_
            exact hJ44 true (by simp [c44, c52])
      intro y6 ey6
      refine zr_istore_n C [zO X 51, zI letter, zI (zb y6), zI (nI i35_5)] d_X7_takeSign_60 (Nat.le_of_ble_eq_true rfl) rfl rfl ?_
      refine zr_iinc C [zO X 51, zI letter, zI (zb y6), zI (nI (i35_5 + 1))] (v := (nI (i35_5 + 1))) d_X7_takeSign_61 rfl (zn_add rfl rfl) (Nat.le_of_ble_eq_true rfl) rfl rfl ?_
      refine zr_goto C 35 d_X7_takeSign_64 (by decide) ?_
      exact hk35_5 y6 (by subst ey6; exact rfl)
    refine zr_iload_n C d_X7_takeSign_35 rfl ?_
    refine zr_aload_n C d_X7_takeSign_36 rfl ?_
    refine gf_Model_17 C m770 d_X7_takeSign_37 ?_
    refine zr_top ((congrFun (congrFun eh2.symm _) _).trans ((zup_fr (by omega)).trans ((congrFun (congrFun eh1.symm _) _).trans (zup_fr (by omega))))) ?_
    refine zr_icmp_ge C 67 d_X7_takeSign_40 (by decide) (fun _ => ?_) (fun c => absurd (zge_yes rfl (by omega) (by have := zcn_small (h 51 5); omega)) c)
    refine zr_iload_n C d_X7_takeSign_67 rfl ?_
    refine zr_bipush C (v := 76) d_X7_takeSign_68 (by decide) ?_
    suffices hJ70 : ∀ (y7 : Bool), ((decide (letter = 76)) && r35_5) = y7 → zV X Γ Q 82 [none, none, none, none] [.int (zb y7)] h2 g by
      refine zr_icmp_ne C 81 d_X7_takeSign_70 (by decide) (fun c70 => ?_) (fun c70 => ?_)
      · refine zr_iconst C (v := 0) d_X7_takeSign_81 (by decide) ?_
        refine zr_lv [none, none, none, none] (by simp [zle]) ?_
        exact hJ70 false (by simp [c70])
      · refine zr_iload_n C d_X7_takeSign_73 rfl ?_
        refine zr_ifz_eq C 81 d_X7_takeSign_74 (by decide) (fun c74 => ?_) (fun c74 => ?_)
        · refine zr_iconst C (v := 0) d_X7_takeSign_81 (by decide) ?_
          refine zr_lv [none, none, none, none] (by simp [zle]) ?_
          exact hJ70 false (by simp [c70, c74])
        · refine zr_iconst C (v := 1) d_X7_takeSign_77 (by decide) ?_
          refine zr_goto C 82 d_X7_takeSign_78 (by decide) ?_
          refine zr_lv [none, none, none, none] (by simp [zle]) ?_
          exact hJ70 true (by simp [c70, c74])
    intro y7 ey7
    have eR : o_Model_takeSign h letter = (y7, h2) := (by subst ey7 er35_5 eh2 eh1; unfold o_Model_takeSign; rw [if_neg c13])
    subst hQ
    exact zTQ_Zh eR (zr_iretz C (zb_01 _) d_X7_takeSign_82)
  · refine zr_aload_n C d_X7_takeSign_16 rfl ?_
    refine gf_Model_17 C m770 d_X7_takeSign_17 ?_
    refine zr_top ((congrFun (congrFun eh2.symm _) _).trans ((zup_fr (by omega)).trans ((congrFun (congrFun eh1.symm _) _).trans (zup_fr (by omega))))) ?_
    refine zr_bipush C (v := 8) d_X7_takeSign_20 (by decide) ?_
    suffices hJ22 : ∀ (y10 : Bool), (!(decide (8 ≤ (h 51 5)))) = y10 → zV X Γ Q 30 [none, none, none, none] [.int (zb y10)] h2 g by
      refine zr_icmp_ge C 29 d_X7_takeSign_22 (by decide) (fun c22 => ?_) (fun c22 => ?_)
      · have en8 := zn_ge (a := zcn (h 51 5)) (b := 8) hf0.2 rfl c22 (zcn_small _) (by decide)
        refine zr_iconst C (v := 0) d_X7_takeSign_29 (by decide) ?_
        refine zr_lv [none, none, none, none] (by simp [zle]) ?_
        exact hJ22 false (by simp [c22])
      · have en9 := zn_nge (a := zcn (h 51 5)) (b := 8) hf0.2 rfl c22 (zcn_small _) (by decide)
        refine zr_iconst C (v := 1) d_X7_takeSign_25 (by decide) ?_
        refine zr_goto C 30 d_X7_takeSign_26 (by decide) ?_
        refine zr_lv [none, none, none, none] (by simp [zle]) ?_
        exact hJ22 true (by simp [c22])
    intro y10 ey10
    have eR : o_Model_takeSign h letter = (y10, h2) := (by subst ey10 eh2 eh1; unfold o_Model_takeSign; rw [if_pos c13])
    subst hQ
    exact zTQ_Zh eR (zr_iretz C (zb_01 _) d_X7_takeSign_30)
theorem d_X7_takeOfStation_0 : decode prog_9_method_17_code 0 = .ok (.aload_n 0, 1) := by decide +kernel
theorem d_X7_takeOfStation_1 : decode prog_9_method_17_code 1 = .ok (.getfield 91, 3) := by decide +kernel
theorem d_X7_takeOfStation_4 : decode prog_9_method_17_code 4 = .ok (.iconst 1, 1) := by decide +kernel
theorem d_X7_takeOfStation_5 : decode prog_9_method_17_code 5 = .ok (.if_icmp .ne 35, 3) := by decide +kernel
theorem d_X7_takeOfStation_8 : decode prog_9_method_17_code 8 = .ok (.aload_n 0, 1) := by decide +kernel
theorem d_X7_takeOfStation_9 : decode prog_9_method_17_code 9 = .ok (.iconst 2, 1) := by decide +kernel
theorem d_X7_takeOfStation_10 : decode prog_9_method_17_code 10 = .ok (.putfield 91, 3) := by decide +kernel
theorem d_X7_takeOfStation_13 : decode prog_9_method_17_code 13 = .ok (.aload_n 0, 1) := by decide +kernel
theorem d_X7_takeOfStation_14 : decode prog_9_method_17_code 14 = .ok (.getfield 44, 3) := by decide +kernel
theorem d_X7_takeOfStation_17 : decode prog_9_method_17_code 17 = .ok (.aload_n 0, 1) := by decide +kernel
theorem d_X7_takeOfStation_18 : decode prog_9_method_17_code 18 = .ok (.getfield 85, 3) := by decide +kernel
theorem d_X7_takeOfStation_21 : decode prog_9_method_17_code 21 = .ok (.iconst 1, 1) := by decide +kernel
theorem d_X7_takeOfStation_22 : decode prog_9_method_17_code 22 = .ok (.iload_n 1, 1) := by decide +kernel
theorem d_X7_takeOfStation_23 : decode prog_9_method_17_code 23 = .ok (.bipush 48, 2) := by decide +kernel
theorem d_X7_takeOfStation_25 : decode prog_9_method_17_code 25 = .ok (.isub, 1) := by decide +kernel
theorem d_X7_takeOfStation_26 : decode prog_9_method_17_code 26 = .ok (.ishl, 1) := by decide +kernel
theorem d_X7_takeOfStation_27 : decode prog_9_method_17_code 27 = .ok (.iastore, 1) := by decide +kernel
theorem d_X7_takeOfStation_28 : decode prog_9_method_17_code 28 = .ok (.iload_n 1, 1) := by decide +kernel
theorem d_X7_takeOfStation_29 : decode prog_9_method_17_code 29 = .ok (.i2l, 1) := by decide +kernel
theorem d_X7_takeOfStation_30 : decode prog_9_method_17_code 30 = .ok (.ldc2_w 98, 3) := by decide +kernel
theorem d_X7_takeOfStation_33 : decode prog_9_method_17_code 33 = .ok (.ldc2_w 100, 3) := by decide +kernel
theorem d_X7_takeOfStation_36 : decode prog_9_method_17_code 36 = .ok (.invokestatic 76, 3) := by decide +kernel
theorem d_X7_takeOfStation_39 : decode prog_9_method_17_code 39 = .ok (.ireturn, 1) := by decide +kernel
theorem d_X7_takeOfStation_40 : decode prog_9_method_17_code 40 = .ok (.aload_n 0, 1) := by decide +kernel
theorem d_X7_takeOfStation_41 : decode prog_9_method_17_code 41 = .ok (.iconst 0, 1) := by decide +kernel
theorem d_X7_takeOfStation_42 : decode prog_9_method_17_code 42 = .ok (.putfield 91, 3) := by decide +kernel
theorem d_X7_takeOfStation_45 : decode prog_9_method_17_code 45 = .ok (.iload_n 1, 1) := by decide +kernel
theorem d_X7_takeOfStation_46 : decode prog_9_method_17_code 46 = .ok (.bipush 45, 2) := by decide +kernel
theorem d_X7_takeOfStation_48 : decode prog_9_method_17_code 48 = .ok (.if_icmp .eq 27, 3) := by decide +kernel
theorem d_X7_takeOfStation_51 : decode prog_9_method_17_code 51 = .ok (.iload_n 1, 1) := by decide +kernel
theorem d_X7_takeOfStation_52 : decode prog_9_method_17_code 52 = .ok (.i2l, 1) := by decide +kernel
theorem d_X7_takeOfStation_53 : decode prog_9_method_17_code 53 = .ok (.ldc2_w 102, 3) := by decide +kernel
theorem d_X7_takeOfStation_56 : decode prog_9_method_17_code 56 = .ok (.bipush 96, 2) := by decide +kernel
theorem d_X7_takeOfStation_58 : decode prog_9_method_17_code 58 = .ok (.aload_n 0, 1) := by decide +kernel
theorem d_X7_takeOfStation_59 : decode prog_9_method_17_code 59 = .ok (.getfield 44, 3) := by decide +kernel
theorem d_X7_takeOfStation_62 : decode prog_9_method_17_code 62 = .ok (.aload_n 0, 1) := by decide +kernel
theorem d_X7_takeOfStation_63 : decode prog_9_method_17_code 63 = .ok (.getfield 85, 3) := by decide +kernel
theorem d_X7_takeOfStation_66 : decode prog_9_method_17_code 66 = .ok (.iaload, 1) := by decide +kernel
theorem d_X7_takeOfStation_67 : decode prog_9_method_17_code 67 = .ok (.iadd, 1) := by decide +kernel
theorem d_X7_takeOfStation_68 : decode prog_9_method_17_code 68 = .ok (.i2l, 1) := by decide +kernel
theorem d_X7_takeOfStation_69 : decode prog_9_method_17_code 69 = .ok (.invokestatic 76, 3) := by decide +kernel
theorem d_X7_takeOfStation_72 : decode prog_9_method_17_code 72 = .ok (.ifCond .eq 7, 3) := by decide +kernel
theorem d_X7_takeOfStation_75 : decode prog_9_method_17_code 75 = .ok (.iconst 1, 1) := by decide +kernel
theorem d_X7_takeOfStation_76 : decode prog_9_method_17_code 76 = .ok (.goto 4, 3) := by decide +kernel
theorem d_X7_takeOfStation_79 : decode prog_9_method_17_code 79 = .ok (.iconst 0, 1) := by decide +kernel
theorem d_X7_takeOfStation_80 : decode prog_9_method_17_code 80 = .ok (.istore_n 2, 1) := by decide +kernel
theorem d_X7_takeOfStation_81 : decode prog_9_method_17_code 81 = .ok (.aload_n 0, 1) := by decide +kernel
theorem d_X7_takeOfStation_82 : decode prog_9_method_17_code 82 = .ok (.getfield 47, 3) := by decide +kernel
theorem d_X7_takeOfStation_85 : decode prog_9_method_17_code 85 = .ok (.aload_n 0, 1) := by decide +kernel
theorem d_X7_takeOfStation_86 : decode prog_9_method_17_code 86 = .ok (.getfield 85, 3) := by decide +kernel
theorem d_X7_takeOfStation_89 : decode prog_9_method_17_code 89 = .ok (.iload_n 1, 1) := by decide +kernel
theorem d_X7_takeOfStation_90 : decode prog_9_method_17_code 90 = .ok (.bipush 45, 2) := by decide +kernel
theorem d_X7_takeOfStation_92 : decode prog_9_method_17_code 92 = .ok (.if_icmp .ne 8, 3) := by decide +kernel
theorem d_X7_takeOfStation_95 : decode prog_9_method_17_code 95 = .ok (.bipush (-9), 2) := by decide +kernel
theorem d_X7_takeOfStation_97 : decode prog_9_method_17_code 97 = .ok (.goto 7, 3) := by decide +kernel
theorem d_X7_takeOfStation_100 : decode prog_9_method_17_code 100 = .ok (.iload_n 1, 1) := by decide +kernel
theorem d_X7_takeOfStation_101 : decode prog_9_method_17_code 101 = .ok (.bipush 97, 2) := by decide +kernel
theorem d_X7_takeOfStation_103 : decode prog_9_method_17_code 103 = .ok (.isub, 1) := by decide +kernel
theorem d_X7_takeOfStation_104 : decode prog_9_method_17_code 104 = .ok (.iastore, 1) := by decide +kernel
theorem d_X7_takeOfStation_105 : decode prog_9_method_17_code 105 = .ok (.aload_n 0, 1) := by decide +kernel
theorem d_X7_takeOfStation_106 : decode prog_9_method_17_code 106 = .ok (.getfield 50, 3) := by decide +kernel
theorem d_X7_takeOfStation_109 : decode prog_9_method_17_code 109 = .ok (.aload_n 0, 1) := by decide +kernel
theorem d_X7_takeOfStation_110 : decode prog_9_method_17_code 110 = .ok (.getfield 85, 3) := by decide +kernel
theorem d_X7_takeOfStation_113 : decode prog_9_method_17_code 113 = .ok (.iconst 0, 1) := by decide +kernel
theorem d_X7_takeOfStation_114 : decode prog_9_method_17_code 114 = .ok (.iastore, 1) := by decide +kernel
theorem d_X7_takeOfStation_115 : decode prog_9_method_17_code 115 = .ok (.aload_n 0, 1) := by decide +kernel
theorem d_X7_takeOfStation_116 : decode prog_9_method_17_code 116 = .ok (.dup, 1) := by decide +kernel
theorem d_X7_takeOfStation_117 : decode prog_9_method_17_code 117 = .ok (.getfield 85, 3) := by decide +kernel
theorem d_X7_takeOfStation_120 : decode prog_9_method_17_code 120 = .ok (.iconst 1, 1) := by decide +kernel
theorem d_X7_takeOfStation_121 : decode prog_9_method_17_code 121 = .ok (.iadd, 1) := by decide +kernel
theorem d_X7_takeOfStation_122 : decode prog_9_method_17_code 122 = .ok (.putfield 85, 3) := by decide +kernel
theorem d_X7_takeOfStation_125 : decode prog_9_method_17_code 125 = .ok (.iload_n 2, 1) := by decide +kernel
theorem d_X7_takeOfStation_126 : decode prog_9_method_17_code 126 = .ok (.ireturn, 1) := by decide +kernel
abbrev M_Model_takeOfStation : zMT := (⟨"PeriodSlotsModel", "takeOfStation", "(I)Z"⟩, prog_9_method_17_code, 3, (some .boolean))
theorem k_Model_takeOfStation : zcall M_Model_takeOfStation 1 := ⟨zU_in (i := 882) (by decide +kernel) rfl, m62, ⟨by decide, by decide, by decide +kernel⟩, by decide⟩
def o_Model_takeOfStation (h : zHp) (letter : Int32) : Bool × zHp :=
  (if (h 51 7) = 1 then ((o_Model_in (Int32.toInt64 letter) 49 51), (zup (zup h 51 7 2) 63 (zcn (h 51 5)) (zshl 1 (letter - 48)))) else (((decide (letter = 45)) || (o_Model_in (Int32.toInt64 letter) 97 (Int32.toInt64 (96 + (h 63 (zcn (h 51 5))))))), (zup (zup (zup (zup h 51 7 0) 64 (zcn (h 51 5)) (if letter = 45 then (-9) else (letter - 97))) 65 (zcn (h 51 5)) 0) 51 5 ((h 51 5) + 1))))
theorem fr_Model_takeOfStation {h : zHp} {letter : Int32} (c k : Nat) (q0 : ¬ (c = 51 ∧ k = 7)) (q1 : ¬ (c = 51 ∧ k = 5)) (q2 : c ≠ 63) (q3 : c ≠ 64) (q4 : c ≠ 65) : (o_Model_takeOfStation h letter).2 c k = h c k := by
  unfold o_Model_takeOfStation
  by_cases f1 : (h 51 7) = 1
  · rw [if_pos f1]
    try dsimp only
    first | done | exact ((zup_fr (Or.inl (by assumption))).trans (zup_fr (by omega)))
  · rw [if_neg f1]
    try dsimp only
    first | done | exact ((zup_fr (by omega)).trans ((zup_fr (Or.inl (by assumption))).trans ((zup_fr (Or.inl (by assumption))).trans (zup_fr (by omega)))))
set_option maxHeartbeats 400000 in
set_option maxRecDepth 20000 in
theorem c_Model_takeOfStation (X : zXT) (h : zHp) (g : zLg) (letter : Int32) (hf0 : zfit h 51 5 7) : zDi X M_Model_takeOfStation 1 [zR X 51, .int letter] h g (zI (zb ((o_Model_takeOfStation h letter).1))) ((o_Model_takeOfStation h letter).2) g := by
  have hf0_1 := hf0.1
  refine zDi_of "PeriodSlotsModel" prog_9_method_17_code 3 (some .boolean) rfl (by decide) [zO X 51, zI letter, none] rfl (fun _ q => q) (Nat.le_of_ble_eq_true rfl) ?_
  intro Γ Q C hQ
  refine zr_aload_n C d_X7_takeOfStation_0 rfl ?_
  refine gf_Model_22 C m775 d_X7_takeOfStation_1 ?_
  refine zr_iconst C (v := 1) d_X7_takeOfStation_4 (by decide) ?_
  refine zr_icmp_ne C 40 d_X7_takeOfStation_5 (by decide) (fun c5 => ?_) (fun c5 => ?_)
  · refine zr_aload_n C d_X7_takeOfStation_40 rfl ?_
    refine zr_iconst C (v := 0) d_X7_takeOfStation_41 (by decide) ?_
    refine pf_Model_22 C m775 d_X7_takeOfStation_42 ?_
    refine zr_h (fun h1 eh1 => ?_)
    refine zr_iload_n C d_X7_takeOfStation_45 rfl ?_
    refine zr_bipush C (v := 45) d_X7_takeOfStation_46 (by decide) ?_
    suffices hJ48 : ∀ (y3 : Bool), ((decide (letter = 45)) || (o_Model_in (Int32.toInt64 letter) 97 (Int32.toInt64 (96 + (h 63 (zcn (h 51 5))))))) = y3 → zV X Γ Q 80 [zO X 51, zI letter, none] [.int (zb y3)] h1 g by
      refine zr_icmp_eq C 75 d_X7_takeOfStation_48 (by decide) (fun c48 => ?_) (fun c48 => ?_)
      · refine zr_iconst C (v := 1) d_X7_takeOfStation_75 (by decide) ?_
        refine zr_goto C 80 d_X7_takeOfStation_76 (by decide) ?_
        exact hJ48 true (by simp [c48])
      · refine zr_iload_n C d_X7_takeOfStation_51 rfl ?_
        refine zr_i2l C d_X7_takeOfStation_52 ?_
        refine zr_ldc2 C (v := 97) m885 d_X7_takeOfStation_53 ?_
        refine zr_bipush C (v := 96) d_X7_takeOfStation_56 (by decide) ?_
        refine zr_aload_n C d_X7_takeOfStation_58 rfl ?_
        refine gf_Model_18 C m771 d_X7_takeOfStation_59 ?_
        refine zr_aload_n C d_X7_takeOfStation_62 rfl ?_
        refine gf_Model_17 C m770 d_X7_takeOfStation_63 ?_
        refine zr_top ((congrFun (congrFun eh1.symm _) _).trans (zup_fr (by omega))) ?_
        refine zr_iald C za_63 (zcn (h 51 5)) hf0.2 (by omega) (by decide) d_X7_takeOfStation_66 ?_
        refine zr_top ((congrFun (congrFun eh1.symm _) _).trans (zup_fr (by omega))) ?_
        refine zr_iadd C d_X7_takeOfStation_67 ?_
        refine zr_i2l C d_X7_takeOfStation_68 ?_
        refine zr_callSi (As := [.long (Int32.toInt64 letter), .long 97, .long (Int32.toInt64 (96 + (h 63 (zcn (h 51 5)))))]) (st := []) C (c_Model_in X h1 g (Int32.toInt64 letter) 97 (Int32.toInt64 (96 + (h 63 (zcn (h 51 5)))))) k_Model_in m856 m857 rfl (by decide) rfl (Nat.le_of_ble_eq_true rfl) d_X7_takeOfStation_69 ?_
        refine zr_ifz_eq C 79 d_X7_takeOfStation_72 (by decide) (fun c72 => ?_) (fun c72 => ?_)
        · refine zr_iconst C (v := 0) d_X7_takeOfStation_79 (by decide) ?_
          exact hJ48 false (by simp [c48, c72])
        · refine zr_iconst C (v := 1) d_X7_takeOfStation_75 (by decide) ?_
          refine zr_goto C 80 d_X7_takeOfStation_76 (by decide) ?_
          exact hJ48 true (by simp [c48, c72])
    intro y3 ey3
    refine zr_istore_n C [zO X 51, zI letter, zI (zb y3)] d_X7_takeOfStation_80 (Nat.le_of_ble_eq_true rfl) rfl rfl ?_
    refine zr_aload_n C d_X7_takeOfStation_81 rfl ?_
    refine gf_Model_19 C m772 d_X7_takeOfStation_82 ?_
    refine zr_aload_n C d_X7_takeOfStation_85 rfl ?_
    refine gf_Model_17 C m770 d_X7_takeOfStation_86 ?_
    refine zr_top ((congrFun (congrFun eh1.symm _) _).trans (zup_fr (by omega))) ?_
    refine zr_iload_n C d_X7_takeOfStation_89 rfl ?_
    refine zr_bipush C (v := 45) d_X7_takeOfStation_90 (by decide) ?_
    suffices hJ92 : ∀ (y4 : Int32), (if letter = 45 then (-9) else (letter - 97)) = y4 → zV X Γ Q 104 [zO X 51, none, zI (zb y3)] [.int y4, .int (h 51 5), zR X 64] h1 g by
      refine zr_icmp_ne C 100 d_X7_takeOfStation_92 (by decide) (fun c92 => ?_) (fun c92 => ?_)
      · refine zr_iload_n C d_X7_takeOfStation_100 rfl ?_
        refine zr_bipush C (v := 97) d_X7_takeOfStation_101 (by decide) ?_
        refine zr_isub C d_X7_takeOfStation_103 ?_
        refine zr_lv [zO X 51, none, zI (zb y3)] (by simp [zle]) ?_
        exact hJ92 (letter - 97) (((if_neg c92)))
      · refine zr_bipush C (v := (-9)) d_X7_takeOfStation_95 (by decide) ?_
        refine zr_goto C 104 d_X7_takeOfStation_97 (by decide) ?_
        refine zr_lv [zO X 51, none, zI (zb y3)] (by simp [zle]) ?_
        exact hJ92 (-9) (((if_pos c92)))
    intro y4 ey4
    refine zr_iast C za_64 (zcn (h 51 5)) hf0.2 (by omega) (by decide) d_X7_takeOfStation_104 ?_
    refine zr_h (fun h5 eh5 => ?_)
    refine zr_aload_n C d_X7_takeOfStation_105 rfl ?_
    refine gf_Model_20 C m773 d_X7_takeOfStation_106 ?_
    refine zr_aload_n C d_X7_takeOfStation_109 rfl ?_
    refine gf_Model_17 C m770 d_X7_takeOfStation_110 ?_
    refine zr_top ((congrFun (congrFun eh5.symm _) _).trans ((zup_fr (by omega)).trans ((congrFun (congrFun eh1.symm _) _).trans (zup_fr (by omega))))) ?_
    refine zr_iconst C (v := 0) d_X7_takeOfStation_113 (by decide) ?_
    refine zr_iast C za_65 (zcn (h 51 5)) hf0.2 (by omega) (by decide) d_X7_takeOfStation_114 ?_
    refine zr_h (fun h6 eh6 => ?_)
    refine zr_aload_n C d_X7_takeOfStation_115 rfl ?_
    refine zr_dup C d_X7_takeOfStation_116 rfl ?_
    refine gf_Model_17 C m770 d_X7_takeOfStation_117 ?_
    refine zr_top ((congrFun (congrFun eh6.symm _) _).trans ((zup_fr (by omega)).trans ((congrFun (congrFun eh5.symm _) _).trans ((zup_fr (by omega)).trans ((congrFun (congrFun eh1.symm _) _).trans (zup_fr (by omega))))))) ?_
    refine zr_iconst C (v := 1) d_X7_takeOfStation_120 (by decide) ?_
    refine zr_iadd C d_X7_takeOfStation_121 ?_
    refine pf_Model_17 C m770 d_X7_takeOfStation_122 ?_
    refine zr_h (fun h7 eh7 => ?_)
    refine zr_iload_n C d_X7_takeOfStation_125 rfl ?_
    have eR : o_Model_takeOfStation h letter = (y3, h7) := (by subst eh7 eh6 eh5 ey4 ey3 eh1; unfold o_Model_takeOfStation; rw [if_neg c5])
    subst hQ
    exact zTQ_Zh eR (zr_iretz C (zb_01 _) d_X7_takeOfStation_126)
  · refine zr_aload_n C d_X7_takeOfStation_8 rfl ?_
    refine zr_iconst C (v := 2) d_X7_takeOfStation_9 (by decide) ?_
    refine pf_Model_22 C m775 d_X7_takeOfStation_10 ?_
    refine zr_h (fun h8 eh8 => ?_)
    refine zr_aload_n C d_X7_takeOfStation_13 rfl ?_
    refine gf_Model_18 C m771 d_X7_takeOfStation_14 ?_
    refine zr_aload_n C d_X7_takeOfStation_17 rfl ?_
    refine gf_Model_17 C m770 d_X7_takeOfStation_18 ?_
    refine zr_top ((congrFun (congrFun eh8.symm _) _).trans (zup_fr (by omega))) ?_
    refine zr_iconst C (v := 1) d_X7_takeOfStation_21 (by decide) ?_
    refine zr_iload_n C d_X7_takeOfStation_22 rfl ?_
    refine zr_bipush C (v := 48) d_X7_takeOfStation_23 (by decide) ?_
    refine zr_isub C d_X7_takeOfStation_25 ?_
    refine zr_ishl C d_X7_takeOfStation_26 ?_
    refine zr_iast C za_63 (zcn (h 51 5)) hf0.2 (by omega) (by decide) d_X7_takeOfStation_27 ?_
    refine zr_h (fun h9 eh9 => ?_)
    refine zr_iload_n C d_X7_takeOfStation_28 rfl ?_
    refine zr_i2l C d_X7_takeOfStation_29 ?_
    refine zr_ldc2 C (v := 49) m883 d_X7_takeOfStation_30 ?_
    refine zr_ldc2 C (v := 51) m884 d_X7_takeOfStation_33 ?_
    refine zr_callSi (As := [.long (Int32.toInt64 letter), .long 49, .long 51]) (st := []) C (c_Model_in X h9 g (Int32.toInt64 letter) 49 51) k_Model_in m856 m857 rfl (by decide) rfl (Nat.le_of_ble_eq_true rfl) d_X7_takeOfStation_36 ?_
    have eR : o_Model_takeOfStation h letter = ((o_Model_in (Int32.toInt64 letter) 49 51), h9) := (by subst eh9 eh8; unfold o_Model_takeOfStation; rw [if_pos c5])
    subst hQ
    exact zTQ_Zh eR (zr_iretz C (zb_01 _) d_X7_takeOfStation_39)
theorem d_X7_takeOfLink_0 : decode prog_9_method_18_code 0 = .ok (.iload_n 1, 1) := by decide +kernel
theorem d_X7_takeOfLink_1 : decode prog_9_method_18_code 1 = .ok (.bipush 48, 2) := by decide +kernel
theorem d_X7_takeOfLink_3 : decode prog_9_method_18_code 3 = .ok (.isub, 1) := by decide +kernel
theorem d_X7_takeOfLink_4 : decode prog_9_method_18_code 4 = .ok (.istore_n 2, 1) := by decide +kernel
theorem d_X7_takeOfLink_5 : decode prog_9_method_18_code 5 = .ok (.iload_n 2, 1) := by decide +kernel
theorem d_X7_takeOfLink_6 : decode prog_9_method_18_code 6 = .ok (.i2l, 1) := by decide +kernel
theorem d_X7_takeOfLink_7 : decode prog_9_method_18_code 7 = .ok (.lconst 0, 1) := by decide +kernel
theorem d_X7_takeOfLink_8 : decode prog_9_method_18_code 8 = .ok (.aload_n 0, 1) := by decide +kernel
theorem d_X7_takeOfLink_9 : decode prog_9_method_18_code 9 = .ok (.getfield 85, 3) := by decide +kernel
theorem d_X7_takeOfLink_12 : decode prog_9_method_18_code 12 = .ok (.iconst 1, 1) := by decide +kernel
theorem d_X7_takeOfLink_13 : decode prog_9_method_18_code 13 = .ok (.isub, 1) := by decide +kernel
theorem d_X7_takeOfLink_14 : decode prog_9_method_18_code 14 = .ok (.i2l, 1) := by decide +kernel
theorem d_X7_takeOfLink_15 : decode prog_9_method_18_code 15 = .ok (.invokestatic 76, 3) := by decide +kernel
theorem d_X7_takeOfLink_18 : decode prog_9_method_18_code 18 = .ok (.ifCond .ne 5, 3) := by decide +kernel
theorem d_X7_takeOfLink_21 : decode prog_9_method_18_code 21 = .ok (.iconst 0, 1) := by decide +kernel
theorem d_X7_takeOfLink_22 : decode prog_9_method_18_code 22 = .ok (.ireturn, 1) := by decide +kernel
theorem d_X7_takeOfLink_23 : decode prog_9_method_18_code 23 = .ok (.aload_n 0, 1) := by decide +kernel
theorem d_X7_takeOfLink_24 : decode prog_9_method_18_code 24 = .ok (.getfield 91, 3) := by decide +kernel
theorem d_X7_takeOfLink_27 : decode prog_9_method_18_code 27 = .ok (.iconst 1, 1) := by decide +kernel
theorem d_X7_takeOfLink_28 : decode prog_9_method_18_code 28 = .ok (.if_icmp .ne 19, 3) := by decide +kernel
theorem d_X7_takeOfLink_31 : decode prog_9_method_18_code 31 = .ok (.aload_n 0, 1) := by decide +kernel
theorem d_X7_takeOfLink_32 : decode prog_9_method_18_code 32 = .ok (.iconst 2, 1) := by decide +kernel
theorem d_X7_takeOfLink_33 : decode prog_9_method_18_code 33 = .ok (.putfield 91, 3) := by decide +kernel
theorem d_X7_takeOfLink_36 : decode prog_9_method_18_code 36 = .ok (.aload_n 0, 1) := by decide +kernel
theorem d_X7_takeOfLink_37 : decode prog_9_method_18_code 37 = .ok (.iload_n 2, 1) := by decide +kernel
theorem d_X7_takeOfLink_38 : decode prog_9_method_18_code 38 = .ok (.putfield 104, 3) := by decide +kernel
theorem d_X7_takeOfLink_41 : decode prog_9_method_18_code 41 = .ok (.aload_n 0, 1) := by decide +kernel
theorem d_X7_takeOfLink_42 : decode prog_9_method_18_code 42 = .ok (.iload_n 2, 1) := by decide +kernel
theorem d_X7_takeOfLink_43 : decode prog_9_method_18_code 43 = .ok (.invokevirtual 94, 3) := by decide +kernel
theorem d_X7_takeOfLink_46 : decode prog_9_method_18_code 46 = .ok (.ireturn, 1) := by decide +kernel
theorem d_X7_takeOfLink_47 : decode prog_9_method_18_code 47 = .ok (.aload_n 0, 1) := by decide +kernel
theorem d_X7_takeOfLink_48 : decode prog_9_method_18_code 48 = .ok (.iconst 0, 1) := by decide +kernel
theorem d_X7_takeOfLink_49 : decode prog_9_method_18_code 49 = .ok (.putfield 91, 3) := by decide +kernel
theorem d_X7_takeOfLink_52 : decode prog_9_method_18_code 52 = .ok (.iload_n 2, 1) := by decide +kernel
theorem d_X7_takeOfLink_53 : decode prog_9_method_18_code 53 = .ok (.aload_n 0, 1) := by decide +kernel
theorem d_X7_takeOfLink_54 : decode prog_9_method_18_code 54 = .ok (.getfield 104, 3) := by decide +kernel
theorem d_X7_takeOfLink_57 : decode prog_9_method_18_code 57 = .ok (.if_icmp .eq 19, 3) := by decide +kernel
theorem d_X7_takeOfLink_60 : decode prog_9_method_18_code 60 = .ok (.aload_n 0, 1) := by decide +kernel
theorem d_X7_takeOfLink_61 : decode prog_9_method_18_code 61 = .ok (.getfield 50, 3) := by decide +kernel
theorem d_X7_takeOfLink_64 : decode prog_9_method_18_code 64 = .ok (.iload_n 2, 1) := by decide +kernel
theorem d_X7_takeOfLink_65 : decode prog_9_method_18_code 65 = .ok (.iaload, 1) := by decide +kernel
theorem d_X7_takeOfLink_66 : decode prog_9_method_18_code 66 = .ok (.aload_n 0, 1) := by decide +kernel
theorem d_X7_takeOfLink_67 : decode prog_9_method_18_code 67 = .ok (.getfield 104, 3) := by decide +kernel
theorem d_X7_takeOfLink_70 : decode prog_9_method_18_code 70 = .ok (.invokestatic 107, 3) := by decide +kernel
theorem d_X7_takeOfLink_73 : decode prog_9_method_18_code 73 = .ok (.ifCond .eq 5, 3) := by decide +kernel
theorem d_X7_takeOfLink_76 : decode prog_9_method_18_code 76 = .ok (.iconst 0, 1) := by decide +kernel
theorem d_X7_takeOfLink_77 : decode prog_9_method_18_code 77 = .ok (.ireturn, 1) := by decide +kernel
theorem d_X7_takeOfLink_78 : decode prog_9_method_18_code 78 = .ok (.aload_n 0, 1) := by decide +kernel
theorem d_X7_takeOfLink_79 : decode prog_9_method_18_code 79 = .ok (.getfield 50, 3) := by decide +kernel
theorem d_X7_takeOfLink_82 : decode prog_9_method_18_code 82 = .ok (.iload_n 2, 1) := by decide +kernel
theorem d_X7_takeOfLink_83 : decode prog_9_method_18_code 83 = .ok (.dup2, 1) := by decide +kernel
theorem d_X7_takeOfLink_84 : decode prog_9_method_18_code 84 = .ok (.iaload, 1) := by decide +kernel
theorem d_X7_takeOfLink_85 : decode prog_9_method_18_code 85 = .ok (.iconst 1, 1) := by decide +kernel
theorem d_X7_takeOfLink_86 : decode prog_9_method_18_code 86 = .ok (.aload_n 0, 1) := by decide +kernel
theorem d_X7_takeOfLink_87 : decode prog_9_method_18_code 87 = .ok (.getfield 104, 3) := by decide +kernel
theorem d_X7_takeOfLink_90 : decode prog_9_method_18_code 90 = .ok (.ishl, 1) := by decide +kernel
theorem d_X7_takeOfLink_91 : decode prog_9_method_18_code 91 = .ok (.ior, 1) := by decide +kernel
theorem d_X7_takeOfLink_92 : decode prog_9_method_18_code 92 = .ok (.iastore, 1) := by decide +kernel
theorem d_X7_takeOfLink_93 : decode prog_9_method_18_code 93 = .ok (.aload_n 0, 1) := by decide +kernel
theorem d_X7_takeOfLink_94 : decode prog_9_method_18_code 94 = .ok (.getfield 50, 3) := by decide +kernel
theorem d_X7_takeOfLink_97 : decode prog_9_method_18_code 97 = .ok (.aload_n 0, 1) := by decide +kernel
theorem d_X7_takeOfLink_98 : decode prog_9_method_18_code 98 = .ok (.getfield 104, 3) := by decide +kernel
theorem d_X7_takeOfLink_101 : decode prog_9_method_18_code 101 = .ok (.dup2, 1) := by decide +kernel
theorem d_X7_takeOfLink_102 : decode prog_9_method_18_code 102 = .ok (.iaload, 1) := by decide +kernel
theorem d_X7_takeOfLink_103 : decode prog_9_method_18_code 103 = .ok (.iconst 1, 1) := by decide +kernel
theorem d_X7_takeOfLink_104 : decode prog_9_method_18_code 104 = .ok (.iload_n 2, 1) := by decide +kernel
theorem d_X7_takeOfLink_105 : decode prog_9_method_18_code 105 = .ok (.ishl, 1) := by decide +kernel
theorem d_X7_takeOfLink_106 : decode prog_9_method_18_code 106 = .ok (.ior, 1) := by decide +kernel
theorem d_X7_takeOfLink_107 : decode prog_9_method_18_code 107 = .ok (.iastore, 1) := by decide +kernel
theorem d_X7_takeOfLink_108 : decode prog_9_method_18_code 108 = .ok (.iconst 1, 1) := by decide +kernel
theorem d_X7_takeOfLink_109 : decode prog_9_method_18_code 109 = .ok (.ireturn, 1) := by decide +kernel
abbrev M_Model_takeOfLink : zMT := (⟨"PeriodSlotsModel", "takeOfLink", "(I)Z"⟩, prog_9_method_18_code, 3, (some .boolean))
theorem k_Model_takeOfLink : zcall M_Model_takeOfLink 1 := ⟨zU_in (i := 889) (by decide +kernel) rfl, m62, ⟨by decide, by decide, by decide +kernel⟩, by decide⟩
def o_Model_takeOfLink (h : zHp) (letter : Int32) : Bool × zHp :=
  (if (o_Model_in (Int32.toInt64 (letter - 48)) 0 (Int32.toInt64 ((h 51 5) - 1))) = true then (if (h 51 7) = 1 then ((o_Model_hasRoom h (zcn (letter - 48))), (zup (zup h 51 7 2) 51 8 (letter - 48))) else (if (letter - 48) = (h 51 8) then (false, (zup h 51 7 0)) else (if (o_Model_has (h 65 (zcn (letter - 48))) (h 51 8)) = true then (false, (zup h 51 7 0)) else (true, (zup (zup (zup h 51 7 0) 65 (zcn (letter - 48)) ((h 65 (zcn (letter - 48))) ||| (zshl 1 (h 51 8)))) 65 (zcn (h 51 8)) (((zup (zup h 51 7 0) 65 (zcn (letter - 48)) ((h 65 (zcn (letter - 48))) ||| (zshl 1 (h 51 8)))) 65 (zcn (h 51 8))) ||| (zshl 1 (letter - 48)))))))) else (false, h))
theorem fr_Model_takeOfLink {h : zHp} {letter : Int32} (c k : Nat) (q0 : ¬ (c = 51 ∧ k = 7)) (q1 : ¬ (c = 51 ∧ k = 8)) (q2 : c ≠ 65) : (o_Model_takeOfLink h letter).2 c k = h c k := by
  unfold o_Model_takeOfLink
  by_cases f1 : (o_Model_in (Int32.toInt64 (letter - 48)) 0 (Int32.toInt64 ((h 51 5) - 1))) = true
  · rw [if_pos f1]
    by_cases f2 : (h 51 7) = 1
    · rw [if_pos f2]
      try dsimp only
      first | done | exact ((zup_fr (by omega)).trans (zup_fr (by omega)))
    · rw [if_neg f2]
      by_cases f3 : (letter - 48) = (h 51 8)
      · rw [if_pos f3]
        try dsimp only
        first | done | exact (zup_fr (by omega))
      · rw [if_neg f3]
        by_cases f4 : (o_Model_has (h 65 (zcn (letter - 48))) (h 51 8)) = true
        · rw [if_pos f4]
          try dsimp only
          first | done | exact (zup_fr (by omega))
        · rw [if_neg f4]
          try dsimp only
          first | done | exact ((zup_fr (Or.inl (by assumption))).trans ((zup_fr (Or.inl (by assumption))).trans (zup_fr (by omega))))
  · rw [if_neg f1]
    try dsimp only
    first | done | exact rfl
set_option maxHeartbeats 400000 in
set_option maxRecDepth 20000 in
theorem c_Model_takeOfLink (X : zXT) (h : zHp) (g : zLg) (letter : Int32) (hf0 : zfit h 51 5 8) (hf1 : zfit h 51 8 7) : zDi X M_Model_takeOfLink 1 [zR X 51, .int letter] h g (zI (zb ((o_Model_takeOfLink h letter).1))) ((o_Model_takeOfLink h letter).2) g := by
  have hf0_1 := hf0.1
  have hf1_1 := hf1.1
  refine zDi_of "PeriodSlotsModel" prog_9_method_18_code 3 (some .boolean) rfl (by decide) [zO X 51, zI letter, none] rfl (fun _ q => q) (Nat.le_of_ble_eq_true rfl) ?_
  intro Γ Q C hQ
  refine zr_iload_n C d_X7_takeOfLink_0 rfl ?_
  refine zr_bipush C (v := 48) d_X7_takeOfLink_1 (by decide) ?_
  refine zr_isub C d_X7_takeOfLink_3 ?_
  refine zr_istore_n C [zO X 51, zI letter, zI (letter - 48)] d_X7_takeOfLink_4 (Nat.le_of_ble_eq_true rfl) rfl rfl ?_
  refine zr_iload_n C d_X7_takeOfLink_5 rfl ?_
  refine zr_i2l C d_X7_takeOfLink_6 ?_
  refine zr_lconst C (v := 0) d_X7_takeOfLink_7 (by decide) ?_
  refine zr_aload_n C d_X7_takeOfLink_8 rfl ?_
  refine gf_Model_17 C m770 d_X7_takeOfLink_9 ?_
  refine zr_iconst C (v := 1) d_X7_takeOfLink_12 (by decide) ?_
  refine zr_isub C d_X7_takeOfLink_13 ?_
  refine zr_i2l C d_X7_takeOfLink_14 ?_
  refine zr_callSi (As := [.long (Int32.toInt64 (letter - 48)), .long 0, .long (Int32.toInt64 ((h 51 5) - 1))]) (st := []) C (c_Model_in X h g (Int32.toInt64 (letter - 48)) 0 (Int32.toInt64 ((h 51 5) - 1))) k_Model_in m856 m857 rfl (by decide) rfl (Nat.le_of_ble_eq_true rfl) d_X7_takeOfLink_15 ?_
  refine zr_ifz_ne C 23 d_X7_takeOfLink_18 (by decide) (fun c18 => ?_) (fun c18 => ?_)
  · have ex1 := zinm hf0 c18
    have ex1_2 := ex1.2
    have ex1_b := hf0.1
    refine zr_aload_n C d_X7_takeOfLink_23 rfl ?_
    refine gf_Model_22 C m775 d_X7_takeOfLink_24 ?_
    refine zr_iconst C (v := 1) d_X7_takeOfLink_27 (by decide) ?_
    refine zr_icmp_ne C 47 d_X7_takeOfLink_28 (by decide) (fun c28 => ?_) (fun c28 => ?_)
    · refine zr_aload_n C d_X7_takeOfLink_47 rfl ?_
      refine zr_iconst C (v := 0) d_X7_takeOfLink_48 (by decide) ?_
      refine pf_Model_22 C m775 d_X7_takeOfLink_49 ?_
      refine zr_h (fun h2 eh2 => ?_)
      refine zr_iload_n C d_X7_takeOfLink_52 rfl ?_
      refine zr_aload_n C d_X7_takeOfLink_53 rfl ?_
      refine gf_Model_23 C m776 d_X7_takeOfLink_54 ?_
      refine zr_top ((congrFun (congrFun eh2.symm _) _).trans (zup_fr (by omega))) ?_
      refine zr_icmp_eq C 76 d_X7_takeOfLink_57 (by decide) (fun c57 => ?_) (fun c57 => ?_)
      · have en3 := zn_eq (a := zcn (letter - 48)) (b := zcn (h 51 8)) (zix ex1.1) hf1.2 c57 (zcn_small _) (zcn_small _)
        refine zr_iconst C (v := 0) d_X7_takeOfLink_76 (by decide) ?_
        have eR : o_Model_takeOfLink h letter = (false, h2) := (by subst eh2; unfold o_Model_takeOfLink; rw [if_pos c18, if_neg c28, if_pos c57])
        subst hQ
        exact zTQ_Zh eR (zr_iretz C (Or.inl rfl) d_X7_takeOfLink_77)
      · have en4 := zn_neq (a := zcn (letter - 48)) (b := zcn (h 51 8)) (zix ex1.1) hf1.2 c57 (zcn_small _) (zcn_small _)
        refine zr_aload_n C d_X7_takeOfLink_60 rfl ?_
        refine gf_Model_20 C m773 d_X7_takeOfLink_61 ?_
        refine zr_iload_n C d_X7_takeOfLink_64 rfl ?_
        refine zr_iald C za_65 (zcn (letter - 48)) (zix ex1.1) (by omega) (by decide) d_X7_takeOfLink_65 ?_
        refine zr_top ((congrFun (congrFun eh2.symm _) _).trans (zup_fr (by omega))) ?_
        refine zr_aload_n C d_X7_takeOfLink_66 rfl ?_
        refine gf_Model_23 C m776 d_X7_takeOfLink_67 ?_
        refine zr_top ((congrFun (congrFun eh2.symm _) _).trans (zup_fr (by omega))) ?_
        refine zr_callSi (As := [.int (h 65 (zcn (letter - 48))), .int (h 51 8)]) (st := []) C (c_Model_has X h2 g (h 65 (zcn (letter - 48))) (h 51 8)) k_Model_has m890 m891 rfl (by decide) rfl (Nat.le_of_ble_eq_true rfl) d_X7_takeOfLink_70 ?_
        refine zr_ifz_eq C 78 d_X7_takeOfLink_73 (by decide) (fun c73 => ?_) (fun c73 => ?_)
        · refine zr_aload_n C d_X7_takeOfLink_78 rfl ?_
          refine gf_Model_20 C m773 d_X7_takeOfLink_79 ?_
          refine zr_iload_n C d_X7_takeOfLink_82 rfl ?_
          refine zr_dup2 C d_X7_takeOfLink_83 rfl rfl ?_
          refine zr_iald C za_65 (zcn (letter - 48)) (zix ex1.1) (by omega) (by decide) d_X7_takeOfLink_84 ?_
          refine zr_top ((congrFun (congrFun eh2.symm _) _).trans (zup_fr (by omega))) ?_
          refine zr_iconst C (v := 1) d_X7_takeOfLink_85 (by decide) ?_
          refine zr_aload_n C d_X7_takeOfLink_86 rfl ?_
          refine gf_Model_23 C m776 d_X7_takeOfLink_87 ?_
          refine zr_top ((congrFun (congrFun eh2.symm _) _).trans (zup_fr (by omega))) ?_
          refine zr_ishl C d_X7_takeOfLink_90 ?_
          refine zr_ior C d_X7_takeOfLink_91 ?_
          refine zr_iast C za_65 (zcn (letter - 48)) (zix ex1.1) (by omega) (by decide) d_X7_takeOfLink_92 ?_
          refine zr_h (fun h5 eh5 => ?_)
          refine zr_aload_n C d_X7_takeOfLink_93 rfl ?_
          refine gf_Model_20 C m773 d_X7_takeOfLink_94 ?_
          refine zr_aload_n C d_X7_takeOfLink_97 rfl ?_
          refine gf_Model_23 C m776 d_X7_takeOfLink_98 ?_
          refine zr_top ((congrFun (congrFun eh5.symm _) _).trans ((zup_fr (by omega)).trans ((congrFun (congrFun eh2.symm _) _).trans (zup_fr (by omega))))) ?_
          refine zr_dup2 C d_X7_takeOfLink_101 rfl rfl ?_
          refine zr_iald C za_65 (zcn (h 51 8)) hf1.2 (by omega) (by decide) d_X7_takeOfLink_102 ?_
          refine zr_iconst C (v := 1) d_X7_takeOfLink_103 (by decide) ?_
          refine zr_iload_n C d_X7_takeOfLink_104 rfl ?_
          refine zr_ishl C d_X7_takeOfLink_105 ?_
          refine zr_ior C d_X7_takeOfLink_106 ?_
          refine zr_iast C za_65 (zcn (h 51 8)) hf1.2 (by omega) (by decide) d_X7_takeOfLink_107 ?_
          refine zr_h (fun h6 eh6 => ?_)
          refine zr_iconst C (v := 1) d_X7_takeOfLink_108 (by decide) ?_
          have eR : o_Model_takeOfLink h letter = (true, h6) := (by subst eh6 eh5 eh2; unfold o_Model_takeOfLink; rw [if_pos c18, if_neg c28, if_neg c57, if_neg (zbf c73)])
          subst hQ
          exact zTQ_Zh eR (zr_iretz C (Or.inr rfl) d_X7_takeOfLink_109)
        · refine zr_iconst C (v := 0) d_X7_takeOfLink_76 (by decide) ?_
          have eR : o_Model_takeOfLink h letter = (false, h2) := (by subst eh2; unfold o_Model_takeOfLink; rw [if_pos c18, if_neg c28, if_neg c57, if_pos c73])
          subst hQ
          exact zTQ_Zh eR (zr_iretz C (Or.inl rfl) d_X7_takeOfLink_77)
    · refine zr_aload_n C d_X7_takeOfLink_31 rfl ?_
      refine zr_iconst C (v := 2) d_X7_takeOfLink_32 (by decide) ?_
      refine pf_Model_22 C m775 d_X7_takeOfLink_33 ?_
      refine zr_h (fun h7 eh7 => ?_)
      refine zr_aload_n C d_X7_takeOfLink_36 rfl ?_
      refine zr_iload_n C d_X7_takeOfLink_37 rfl ?_
      refine pf_Model_23 C m776 d_X7_takeOfLink_38 ?_
      refine zr_h (fun h8 eh8 => ?_)
      refine zr_aload_n C d_X7_takeOfLink_41 rfl ?_
      refine zr_iload_n C d_X7_takeOfLink_42 rfl ?_
      refine zr_callVi (As := [.int (letter - 48)]) (st := []) (c := 51) C (c_Model_hasRoom X h8 g (zcn (letter - 48)) (zix ex1.1) (by omega)) k_Model_hasRoom m875 m877 m22 (by decide) (zC_Model X _ _) rfl rfl (by decide) rfl (Nat.le_of_ble_eq_true rfl) d_X7_takeOfLink_43 ?_
      refine zr_topz (rd_Model_hasRoom ((congrFun (congrFun eh8.symm _) _).trans ((zup_fr (by omega)).trans ((congrFun (congrFun eh7.symm _) _).trans (zup_fr (by omega))))) (funext fun kk => ((congrFun (congrFun eh8.symm _) _).trans ((zup_fr (by omega)).trans ((congrFun (congrFun eh7.symm _) _).trans (zup_fr (by omega))))))) ?_
      have eR : o_Model_takeOfLink h letter = ((o_Model_hasRoom h (zcn (letter - 48))), h8) := (by subst eh8 eh7; unfold o_Model_takeOfLink; rw [if_pos c18, if_pos c28])
      subst hQ
      exact zTQ_Zh eR (zr_iretz C (zb_01 _) d_X7_takeOfLink_46)
  · refine zr_iconst C (v := 0) d_X7_takeOfLink_21 (by decide) ?_
    have eR : o_Model_takeOfLink h letter = (false, h) := (by unfold o_Model_takeOfLink; rw [if_neg (zbf c18)])
    subst hQ
    exact zTQ_Zh eR (zr_iretz C (Or.inl rfl) d_X7_takeOfLink_22)
theorem d_X7_ticksOf_0 : decode prog_9_method_22_code 0 = .ok (.iconst 0, 1) := by decide +kernel
theorem d_X7_ticksOf_1 : decode prog_9_method_22_code 1 = .ok (.istore_n 2, 1) := by decide +kernel
theorem d_X7_ticksOf_2 : decode prog_9_method_22_code 2 = .ok (.iconst 0, 1) := by decide +kernel
theorem d_X7_ticksOf_3 : decode prog_9_method_22_code 3 = .ok (.istore_n 3, 1) := by decide +kernel
theorem d_X7_ticksOf_4 : decode prog_9_method_22_code 4 = .ok (.iload_n 3, 1) := by decide +kernel
theorem d_X7_ticksOf_5 : decode prog_9_method_22_code 5 = .ok (.bipush 8, 2) := by decide +kernel
theorem d_X7_ticksOf_7 : decode prog_9_method_22_code 7 = .ok (.if_icmp .ge 32, 3) := by decide +kernel
theorem d_X7_ticksOf_10 : decode prog_9_method_22_code 10 = .ok (.iload_n 2, 1) := by decide +kernel
theorem d_X7_ticksOf_11 : decode prog_9_method_22_code 11 = .ok (.iload_n 0, 1) := by decide +kernel
theorem d_X7_ticksOf_12 : decode prog_9_method_22_code 12 = .ok (.bipush (-9), 2) := by decide +kernel
theorem d_X7_ticksOf_14 : decode prog_9_method_22_code 14 = .ok (.if_icmp .eq 16, 3) := by decide +kernel
theorem d_X7_ticksOf_17 : decode prog_9_method_22_code 17 = .ok (.iload_n 3, 1) := by decide +kernel
theorem d_X7_ticksOf_18 : decode prog_9_method_22_code 18 = .ok (.iload_n 1, 1) := by decide +kernel
theorem d_X7_ticksOf_19 : decode prog_9_method_22_code 19 = .ok (.irem, 1) := by decide +kernel
theorem d_X7_ticksOf_20 : decode prog_9_method_22_code 20 = .ok (.iload_n 0, 1) := by decide +kernel
theorem d_X7_ticksOf_21 : decode prog_9_method_22_code 21 = .ok (.if_icmp .ne 9, 3) := by decide +kernel
theorem d_X7_ticksOf_24 : decode prog_9_method_22_code 24 = .ok (.iconst 1, 1) := by decide +kernel
theorem d_X7_ticksOf_25 : decode prog_9_method_22_code 25 = .ok (.iload_n 3, 1) := by decide +kernel
theorem d_X7_ticksOf_26 : decode prog_9_method_22_code 26 = .ok (.ishl, 1) := by decide +kernel
theorem d_X7_ticksOf_27 : decode prog_9_method_22_code 27 = .ok (.goto 4, 3) := by decide +kernel
theorem d_X7_ticksOf_30 : decode prog_9_method_22_code 30 = .ok (.iconst 0, 1) := by decide +kernel
theorem d_X7_ticksOf_31 : decode prog_9_method_22_code 31 = .ok (.ior, 1) := by decide +kernel
theorem d_X7_ticksOf_32 : decode prog_9_method_22_code 32 = .ok (.istore_n 2, 1) := by decide +kernel
theorem d_X7_ticksOf_33 : decode prog_9_method_22_code 33 = .ok (.iinc 3 1, 3) := by decide +kernel
theorem d_X7_ticksOf_36 : decode prog_9_method_22_code 36 = .ok (.goto (-32), 3) := by decide +kernel
theorem d_X7_ticksOf_39 : decode prog_9_method_22_code 39 = .ok (.iload_n 2, 1) := by decide +kernel
theorem d_X7_ticksOf_40 : decode prog_9_method_22_code 40 = .ok (.ireturn, 1) := by decide +kernel
abbrev M_Model_ticksOf : zMT := (⟨"PeriodSlotsModel", "ticksOf", "(II)I"⟩, prog_9_method_22_code, 4, (some .int))
theorem k_Model_ticksOf : zcall M_Model_ticksOf 2 := ⟨zU_in (i := 930) (by decide +kernel) rfl, m62, ⟨by decide, by decide, by decide +kernel⟩, by decide⟩
def o_Model_ticksOf (offset : Int32) (per : Int32) : Int32 :=
  (zrep (fun (i4_1 : Nat) (s4_1 : Int32) => (s4_1 ||| (if offset = (-9) then 0 else (if (zrem (nI i4_1) per) = offset then (zshl 1 (nI i4_1)) else 0)))) 0 8)
set_option maxHeartbeats 400000 in
set_option maxRecDepth 20000 in
theorem c_Model_ticksOf (X : zXT) (h : zHp) (g : zLg) (offset : Int32) (per : Int32) (hn_per : ¬ per = 0) : zDi X M_Model_ticksOf 0 [.int offset, .int per] h g (zI (o_Model_ticksOf offset per)) h g := by
  refine zDi_of "PeriodSlotsModel" prog_9_method_22_code 4 (some .int) rfl (by decide) [zI offset, zI per, none, none] rfl (fun _ q => q) (Nat.le_of_ble_eq_true rfl) ?_
  intro Γ Q C hQ
  refine zr_iconst C (v := 0) d_X7_ticksOf_0 (by decide) ?_
  refine zr_istore_n C [zI offset, zI per, zI 0, none] d_X7_ticksOf_1 (Nat.le_of_ble_eq_true rfl) rfl rfl ?_
  refine zr_iconst C (v := 0) d_X7_ticksOf_2 (by decide) ?_
  refine zr_istore_n C [zI offset, zI per, zI 0, zI 0] d_X7_ticksOf_3 (Nat.le_of_ble_eq_true rfl) rfl rfl ?_
  refine zfor (f := (fun (i4_1 : Nat) (s4_1 : Int32) => (s4_1 ||| (if offset = (-9) then 0 else (if (zrem (nI i4_1) per) = offset then (zshl 1 (nI i4_1)) else 0))))) (a := 0) (fun i4_1 s4_1 => zV X Γ Q 4 [zI offset, zI per, zI s4_1, zI (nI i4_1)] [] h g) (fun _ _ => True) (8) trivial (fun i4_1 s4_1 hi4_1 hI4_1 => ⟨trivial, fun hk4_1 => ?_⟩) (fun r4_1 er4_1 hI4_1 => ?_)
  · refine zr_iload_n C d_X7_ticksOf_4 rfl ?_
    refine zr_bipush C (v := 8) d_X7_ticksOf_5 (by decide) ?_
    refine zr_icmp_ge C 39 d_X7_ticksOf_7 (by decide) (fun c => absurd c (zge_noN (B := 8) rfl (by omega) (by omega))) (fun _ => ?_)
    refine zr_iload_n C d_X7_ticksOf_10 rfl ?_
    refine zr_iload_n C d_X7_ticksOf_11 rfl ?_
    refine zr_bipush C (v := (-9)) d_X7_ticksOf_12 (by decide) ?_
    suffices hJ14 : ∀ (y2 : Int32), (if offset = (-9) then 0 else (if (zrem (nI i4_1) per) = offset then (zshl 1 (nI i4_1)) else 0)) = y2 → zV X Γ Q 31 [zI offset, zI per, none, zI (nI i4_1)] [.int y2, .int s4_1] h g by
      refine zr_icmp_eq C 30 d_X7_ticksOf_14 (by decide) (fun c14 => ?_) (fun c14 => ?_)
      · refine zr_iconst C (v := 0) d_X7_ticksOf_30 (by decide) ?_
        refine zr_lv [zI offset, zI per, none, zI (nI i4_1)] (by simp [zle]) ?_
        exact hJ14 0 (((if_pos c14)))
      · refine zr_iload_n C d_X7_ticksOf_17 rfl ?_
        refine zr_iload_n C d_X7_ticksOf_18 rfl ?_
        refine zr_irem C d_X7_ticksOf_19 hn_per ?_
        refine zr_iload_n C d_X7_ticksOf_20 rfl ?_
        refine zr_icmp_ne C 30 d_X7_ticksOf_21 (by decide) (fun c21 => ?_) (fun c21 => ?_)
        · refine zr_iconst C (v := 0) d_X7_ticksOf_30 (by decide) ?_
          refine zr_lv [zI offset, zI per, none, zI (nI i4_1)] (by simp [zle]) ?_
          exact hJ14 0 (((if_neg c14).trans ((if_neg c21))))
        · refine zr_iconst C (v := 1) d_X7_ticksOf_24 (by decide) ?_
          refine zr_iload_n C d_X7_ticksOf_25 rfl ?_
          refine zr_ishl C d_X7_ticksOf_26 ?_
          refine zr_goto C 31 d_X7_ticksOf_27 (by decide) ?_
          refine zr_lv [zI offset, zI per, none, zI (nI i4_1)] (by simp [zle]) ?_
          exact hJ14 (zshl 1 (nI i4_1)) (((if_neg c14).trans ((if_pos c21))))
    intro y2 ey2
    refine zr_ior C d_X7_ticksOf_31 ?_
    refine zr_istore_n C [zI offset, zI per, zI (s4_1 ||| y2), zI (nI i4_1)] d_X7_ticksOf_32 (Nat.le_of_ble_eq_true rfl) rfl rfl ?_
    refine zr_iinc C [zI offset, zI per, zI (s4_1 ||| y2), zI (nI (i4_1 + 1))] (v := (nI (i4_1 + 1))) d_X7_ticksOf_33 rfl (zn_add rfl rfl) (Nat.le_of_ble_eq_true rfl) rfl rfl ?_
    refine zr_goto C 4 d_X7_ticksOf_36 (by decide) ?_
    exact hk4_1 (s4_1 ||| y2) (by subst ey2; exact rfl)
  refine zr_iload_n C d_X7_ticksOf_4 rfl ?_
  refine zr_bipush C (v := 8) d_X7_ticksOf_5 (by decide) ?_
  refine zr_icmp_ge C 39 d_X7_ticksOf_7 (by decide) (fun _ => ?_) (fun c => absurd (zge_yesN (B := 8) rfl (by omega) (by omega)) c)
  refine zr_iload_n C d_X7_ticksOf_39 rfl ?_
  have eR : o_Model_ticksOf offset per = r4_1 := (by subst er4_1; unfold o_Model_ticksOf; exact rfl)
  subst hQ
  rw [eR]
  exact zr_ireti C d_X7_ticksOf_40
theorem d_X7_ticks_0 : decode prog_9_method_23_code 0 = .ok (.aload_n 1, 1) := by decide +kernel
theorem d_X7_ticks_1 : decode prog_9_method_23_code 1 = .ok (.iload_n 2, 1) := by decide +kernel
theorem d_X7_ticks_2 : decode prog_9_method_23_code 2 = .ok (.iaload, 1) := by decide +kernel
theorem d_X7_ticks_3 : decode prog_9_method_23_code 3 = .ok (.aload_n 0, 1) := by decide +kernel
theorem d_X7_ticks_4 : decode prog_9_method_23_code 4 = .ok (.getfield 13, 3) := by decide +kernel
theorem d_X7_ticks_7 : decode prog_9_method_23_code 7 = .ok (.iload_n 2, 1) := by decide +kernel
theorem d_X7_ticks_8 : decode prog_9_method_23_code 8 = .ok (.iaload, 1) := by decide +kernel
theorem d_X7_ticks_9 : decode prog_9_method_23_code 9 = .ok (.invokestatic 127, 3) := by decide +kernel
theorem d_X7_ticks_12 : decode prog_9_method_23_code 12 = .ok (.ireturn, 1) := by decide +kernel
abbrev M_Model_ticks : zMT := (⟨"PeriodSlotsModel", "ticks", "([II)I"⟩, prog_9_method_23_code, 3, (some .int))
theorem k_Model_ticks : zcall M_Model_ticks 2 := ⟨zU_in (i := 927) (by decide +kernel) rfl, m62, ⟨by decide, by decide, by decide +kernel⟩, by decide⟩
def o_Model_ticks (h : zHp) (r : Nat) (s : Nat) : Int32 :=
  (o_Model_ticksOf (h r s) (h 53 s))
theorem rd_Model_ticks {h h2 : zHp} {r : Nat} {s : Nat} (e0 : h2 53 = h 53) (e1 : h2 r = h r) : o_Model_ticks h2 r s = o_Model_ticks h r s := by
  unfold o_Model_ticks
  simp only [e0, e1]

set_option maxHeartbeats 400000 in
set_option maxRecDepth 20000 in
theorem c_Model_ticks (X : zXT) (h : zHp) (g : zLg) (r : Nat) (s : Nat) {x_s : Int32} (e_s : x_s = nI s) (hr : r = 54 ∨ r = 55 ∨ r = 56) (hl0 : s < 8) (hp_s : ¬ h 53 s = 0) : zDi X M_Model_ticks 1 [zR X 51, zR X r, .int x_s] h g (zI (o_Model_ticks h r s)) h g := by
  subst e_s
  refine zDi_of "PeriodSlotsModel" prog_9_method_23_code 3 (some .int) rfl (by decide) [zO X 51, zO X r, zI (nI s)] rfl (fun _ q => q) (Nat.le_of_ble_eq_true rfl) ?_
  intro Γ Q C hQ
  refine zr_aload_n C d_X7_ticks_0 rfl ?_
  refine zr_iload_n C d_X7_ticks_1 rfl ?_
  refine zr_iald C (za_row hr) (s) rfl (by omega) (by decide) d_X7_ticks_2 ?_
  refine zr_aload_n C d_X7_ticks_3 rfl ?_
  refine gf_Model_3 C m756 d_X7_ticks_4 ?_
  refine zr_iload_n C d_X7_ticks_7 rfl ?_
  refine zr_iald C za_53 (s) rfl (by omega) (by decide) d_X7_ticks_8 ?_
  refine zr_callSi (As := [.int (h r s), .int (h 53 s)]) (st := []) C (c_Model_ticksOf X h g (h r s) (h 53 s) hp_s) k_Model_ticksOf m928 m929 rfl (by decide) rfl (Nat.le_of_ble_eq_true rfl) d_X7_ticks_9 ?_
  have eR : o_Model_ticks h r s = (o_Model_ticksOf (h r s) (h 53 s)) := (by unfold o_Model_ticks; exact rfl)
  subst hQ
  rw [eR]
  exact zr_ireti C d_X7_ticks_12
theorem d_X7_held_0 : decode prog_9_method_24_code 0 = .ok (.aload_n 0, 1) := by decide +kernel
theorem d_X7_held_1 : decode prog_9_method_24_code 1 = .ok (.aload_n 1, 1) := by decide +kernel
theorem d_X7_held_2 : decode prog_9_method_24_code 2 = .ok (.iload_n 2, 1) := by decide +kernel
theorem d_X7_held_3 : decode prog_9_method_24_code 3 = .ok (.invokevirtual 131, 3) := by decide +kernel
theorem d_X7_held_6 : decode prog_9_method_24_code 6 = .ok (.aload_n 1, 1) := by decide +kernel
theorem d_X7_held_7 : decode prog_9_method_24_code 7 = .ok (.bipush 8, 2) := by decide +kernel
theorem d_X7_held_9 : decode prog_9_method_24_code 9 = .ok (.iload_n 2, 1) := by decide +kernel
theorem d_X7_held_10 : decode prog_9_method_24_code 10 = .ok (.iadd, 1) := by decide +kernel
theorem d_X7_held_11 : decode prog_9_method_24_code 11 = .ok (.iaload, 1) := by decide +kernel
theorem d_X7_held_12 : decode prog_9_method_24_code 12 = .ok (.aload_n 0, 1) := by decide +kernel
theorem d_X7_held_13 : decode prog_9_method_24_code 13 = .ok (.getfield 13, 3) := by decide +kernel
theorem d_X7_held_16 : decode prog_9_method_24_code 16 = .ok (.iload_n 2, 1) := by decide +kernel
theorem d_X7_held_17 : decode prog_9_method_24_code 17 = .ok (.iaload, 1) := by decide +kernel
theorem d_X7_held_18 : decode prog_9_method_24_code 18 = .ok (.invokestatic 127, 3) := by decide +kernel
theorem d_X7_held_21 : decode prog_9_method_24_code 21 = .ok (.ior, 1) := by decide +kernel
theorem d_X7_held_22 : decode prog_9_method_24_code 22 = .ok (.ireturn, 1) := by decide +kernel
abbrev M_Model_held : zMT := (⟨"PeriodSlotsModel", "held", "([II)I"⟩, prog_9_method_24_code, 3, (some .int))
theorem k_Model_held : zcall M_Model_held 2 := ⟨zU_in (i := 952) (by decide +kernel) rfl, m62, ⟨by decide, by decide, by decide +kernel⟩, by decide⟩
def o_Model_held (h : zHp) (r : Nat) (s : Nat) : Int32 :=
  ((o_Model_ticks h r s) ||| (o_Model_ticksOf (h r (8 + s)) (h 53 s)))
theorem rd_Model_held {h h2 : zHp} {r : Nat} {s : Nat} (e0 : h2 53 = h 53) (e1 : h2 r = h r) : o_Model_held h2 r s = o_Model_held h r s := by
  unfold o_Model_held
  simp only [e0, e1, rd_Model_ticks e0 e1]

set_option maxHeartbeats 400000 in
set_option maxRecDepth 20000 in
theorem c_Model_held (X : zXT) (h : zHp) (g : zLg) (r : Nat) (s : Nat) {x_s : Int32} (e_s : x_s = nI s) (hr : r = 54 ∨ r = 55 ∨ r = 56) (hl0 : s < 8) (hp_s : ¬ h 53 s = 0) : zDi X M_Model_held 2 [zR X 51, zR X r, .int x_s] h g (zI (o_Model_held h r s)) h g := by
  subst e_s
  refine zDi_of "PeriodSlotsModel" prog_9_method_24_code 3 (some .int) rfl (by decide) [zO X 51, zO X r, zI (nI s)] rfl (fun _ q => q) (Nat.le_of_ble_eq_true rfl) ?_
  intro Γ Q C hQ
  refine zr_aload_n C d_X7_held_0 rfl ?_
  refine zr_aload_n C d_X7_held_1 rfl ?_
  refine zr_iload_n C d_X7_held_2 rfl ?_
  refine zr_callVi (As := [zR X r, .int (nI s)]) (st := []) (c := 51) C (c_Model_ticks X h g r s rfl hr (by omega) hp_s) k_Model_ticks m924 m926 m30 (by decide) (zC_Model X _ _) rfl rfl (by decide) rfl (Nat.le_of_ble_eq_true rfl) d_X7_held_3 ?_
  refine zr_aload_n C d_X7_held_6 rfl ?_
  refine zr_bipush C (v := 8) d_X7_held_7 (by decide) ?_
  refine zr_iload_n C d_X7_held_9 rfl ?_
  refine zr_iadd C d_X7_held_10 ?_
  refine zr_iald C (za_row hr) (8 + s) (zn_add rfl rfl) (by omega) (by decide) d_X7_held_11 ?_
  refine zr_aload_n C d_X7_held_12 rfl ?_
  refine gf_Model_3 C m756 d_X7_held_13 ?_
  refine zr_iload_n C d_X7_held_16 rfl ?_
  refine zr_iald C za_53 (s) rfl (by omega) (by decide) d_X7_held_17 ?_
  refine zr_callSi (As := [.int (h r (8 + s)), .int (h 53 s)]) (st := [.int (o_Model_ticks h r s)]) C (c_Model_ticksOf X h g (h r (8 + s)) (h 53 s) hp_s) k_Model_ticksOf m928 m929 rfl (by decide) rfl (Nat.le_of_ble_eq_true rfl) d_X7_held_18 ?_
  refine zr_ior C d_X7_held_21 ?_
  have eR : o_Model_held h r s = ((o_Model_ticks h r s) ||| (o_Model_ticksOf (h r (8 + s)) (h 53 s))) := (by unfold o_Model_held; exact rfl)
  subst hQ
  rw [eR]
  exact zr_ireti C d_X7_held_22
theorem d_X7_neighbours_0 : decode prog_9_method_25_code 0 = .ok (.aload_n 0, 1) := by decide +kernel
theorem d_X7_neighbours_1 : decode prog_9_method_25_code 1 = .ok (.getfield 135, 3) := by decide +kernel
theorem d_X7_neighbours_4 : decode prog_9_method_25_code 4 = .ok (.iload_n 2, 1) := by decide +kernel
theorem d_X7_neighbours_5 : decode prog_9_method_25_code 5 = .ok (.invokestatic 107, 3) := by decide +kernel
theorem d_X7_neighbours_8 : decode prog_9_method_25_code 8 = .ok (.ifCond .eq 17, 3) := by decide +kernel
theorem d_X7_neighbours_11 : decode prog_9_method_25_code 11 = .ok (.aload_n 1, 1) := by decide +kernel
theorem d_X7_neighbours_12 : decode prog_9_method_25_code 12 = .ok (.bipush 16, 2) := by decide +kernel
theorem d_X7_neighbours_14 : decode prog_9_method_25_code 14 = .ok (.iload_n 2, 1) := by decide +kernel
theorem d_X7_neighbours_15 : decode prog_9_method_25_code 15 = .ok (.iadd, 1) := by decide +kernel
theorem d_X7_neighbours_16 : decode prog_9_method_25_code 16 = .ok (.iaload, 1) := by decide +kernel
theorem d_X7_neighbours_17 : decode prog_9_method_25_code 17 = .ok (.aload_n 0, 1) := by decide +kernel
theorem d_X7_neighbours_18 : decode prog_9_method_25_code 18 = .ok (.getfield 135, 3) := by decide +kernel
theorem d_X7_neighbours_21 : decode prog_9_method_25_code 21 = .ok (.iand, 1) := by decide +kernel
theorem d_X7_neighbours_22 : decode prog_9_method_25_code 22 = .ok (.goto 4, 3) := by decide +kernel
theorem d_X7_neighbours_25 : decode prog_9_method_25_code 25 = .ok (.iconst 0, 1) := by decide +kernel
theorem d_X7_neighbours_26 : decode prog_9_method_25_code 26 = .ok (.ireturn, 1) := by decide +kernel
abbrev M_Model_neighbours : zMT := (⟨"PeriodSlotsModel", "neighbours", "([II)I"⟩, prog_9_method_25_code, 3, (some .int))
theorem k_Model_neighbours : zcall M_Model_neighbours 2 := ⟨zU_in (i := 912) (by decide +kernel) rfl, m62, ⟨by decide, by decide, by decide +kernel⟩, by decide⟩
def o_Model_neighbours (h : zHp) (r : Nat) (s : Nat) : Int32 :=
  (if (o_Model_has (h 51 9) (nI s)) = true then ((h r (16 + s)) &&& (h 51 9)) else 0)
theorem rd_Model_neighbours {h h2 : zHp} {r : Nat} {s : Nat} (e0 : h2 51 9 = h 51 9) (e1 : h2 r = h r) : o_Model_neighbours h2 r s = o_Model_neighbours h r s := by
  unfold o_Model_neighbours
  simp only [e0, e1]

set_option maxHeartbeats 400000 in
set_option maxRecDepth 20000 in
theorem c_Model_neighbours (X : zXT) (h : zHp) (g : zLg) (r : Nat) (s : Nat) {x_s : Int32} (e_s : x_s = nI s) (hr : r = 54 ∨ r = 55 ∨ r = 56) (hl0 : s < 8) : zDi X M_Model_neighbours 1 [zR X 51, zR X r, .int x_s] h g (zI (o_Model_neighbours h r s)) h g := by
  subst e_s
  refine zDi_of "PeriodSlotsModel" prog_9_method_25_code 3 (some .int) rfl (by decide) [zO X 51, zO X r, zI (nI s)] rfl (fun _ q => q) (Nat.le_of_ble_eq_true rfl) ?_
  intro Γ Q C hQ
  refine zr_aload_n C d_X7_neighbours_0 rfl ?_
  refine gf_Model_24 C m777 d_X7_neighbours_1 ?_
  refine zr_iload_n C d_X7_neighbours_4 rfl ?_
  refine zr_callSi (As := [.int (h 51 9), .int (nI s)]) (st := []) C (c_Model_has X h g (h 51 9) (nI s)) k_Model_has m890 m891 rfl (by decide) rfl (Nat.le_of_ble_eq_true rfl) d_X7_neighbours_5 ?_
  suffices hJ8 : ∀ (y1 : Int32), (if (o_Model_has (h 51 9) (nI s)) = true then ((h r (16 + s)) &&& (h 51 9)) else 0) = y1 → zV X Γ Q 26 [none, none, none] [.int y1] h g by
    refine zr_ifz_eq C 25 d_X7_neighbours_8 (by decide) (fun c8 => ?_) (fun c8 => ?_)
    · refine zr_iconst C (v := 0) d_X7_neighbours_25 (by decide) ?_
      refine zr_lv [none, none, none] (by simp [zle]) ?_
      exact hJ8 0 (((if_neg (zbf c8))))
    · refine zr_aload_n C d_X7_neighbours_11 rfl ?_
      refine zr_bipush C (v := 16) d_X7_neighbours_12 (by decide) ?_
      refine zr_iload_n C d_X7_neighbours_14 rfl ?_
      refine zr_iadd C d_X7_neighbours_15 ?_
      refine zr_iald C (za_row hr) (16 + s) (zn_add rfl rfl) (by omega) (by decide) d_X7_neighbours_16 ?_
      refine zr_aload_n C d_X7_neighbours_17 rfl ?_
      refine gf_Model_24 C m777 d_X7_neighbours_18 ?_
      refine zr_iand C d_X7_neighbours_21 ?_
      refine zr_goto C 26 d_X7_neighbours_22 (by decide) ?_
      refine zr_lv [none, none, none] (by simp [zle]) ?_
      exact hJ8 ((h r (16 + s)) &&& (h 51 9)) (((if_pos c8)))
  intro y1 ey1
  have eR : o_Model_neighbours h r s = y1 := (by subst ey1; unfold o_Model_neighbours; exact rfl)
  subst hQ
  rw [eR]
  exact zr_ireti C d_X7_neighbours_26
theorem d_X7_layNear_0 : decode prog_9_method_26_code 0 = .ok (.aload_n 0, 1) := by decide +kernel
theorem d_X7_layNear_1 : decode prog_9_method_26_code 1 = .ok (.iload_n 2, 1) := by decide +kernel
theorem d_X7_layNear_2 : decode prog_9_method_26_code 2 = .ok (.putfield 135, 3) := by decide +kernel
theorem d_X7_layNear_5 : decode prog_9_method_26_code 5 = .ok (.iconst 0, 1) := by decide +kernel
theorem d_X7_layNear_6 : decode prog_9_method_26_code 6 = .ok (.istore_n 3, 1) := by decide +kernel
theorem d_X7_layNear_7 : decode prog_9_method_26_code 7 = .ok (.iload_n 3, 1) := by decide +kernel
theorem d_X7_layNear_8 : decode prog_9_method_26_code 8 = .ok (.aload_n 0, 1) := by decide +kernel
theorem d_X7_layNear_9 : decode prog_9_method_26_code 9 = .ok (.getfield 72, 3) := by decide +kernel
theorem d_X7_layNear_12 : decode prog_9_method_26_code 12 = .ok (.if_icmp .ge 87, 3) := by decide +kernel
theorem d_X7_layNear_15 : decode prog_9_method_26_code 15 = .ok (.aload_n 0, 1) := by decide +kernel
theorem d_X7_layNear_16 : decode prog_9_method_26_code 16 = .ok (.aload_n 1, 1) := by decide +kernel
theorem d_X7_layNear_17 : decode prog_9_method_26_code 17 = .ok (.iload_n 3, 1) := by decide +kernel
theorem d_X7_layNear_18 : decode prog_9_method_26_code 18 = .ok (.invokevirtual 138, 3) := by decide +kernel
theorem d_X7_layNear_21 : decode prog_9_method_26_code 21 = .ok (.istore 4, 2) := by decide +kernel
theorem d_X7_layNear_23 : decode prog_9_method_26_code 23 = .ok (.aload_n 0, 1) := by decide +kernel
theorem d_X7_layNear_24 : decode prog_9_method_26_code 24 = .ok (.getfield 53, 3) := by decide +kernel
theorem d_X7_layNear_27 : decode prog_9_method_26_code 27 = .ok (.iload_n 3, 1) := by decide +kernel
theorem d_X7_layNear_28 : decode prog_9_method_26_code 28 = .ok (.iload 4, 2) := by decide +kernel
theorem d_X7_layNear_30 : decode prog_9_method_26_code 30 = .ok (.iastore, 1) := by decide +kernel
theorem d_X7_layNear_31 : decode prog_9_method_26_code 31 = .ok (.iconst 0, 1) := by decide +kernel
theorem d_X7_layNear_32 : decode prog_9_method_26_code 32 = .ok (.istore 5, 2) := by decide +kernel
theorem d_X7_layNear_34 : decode prog_9_method_26_code 34 = .ok (.iload 5, 2) := by decide +kernel
theorem d_X7_layNear_36 : decode prog_9_method_26_code 36 = .ok (.aload_n 0, 1) := by decide +kernel
theorem d_X7_layNear_37 : decode prog_9_method_26_code 37 = .ok (.getfield 72, 3) := by decide +kernel
theorem d_X7_layNear_40 : decode prog_9_method_26_code 40 = .ok (.if_icmp .ge 39, 3) := by decide +kernel
theorem d_X7_layNear_43 : decode prog_9_method_26_code 43 = .ok (.aload_n 0, 1) := by decide +kernel
theorem d_X7_layNear_44 : decode prog_9_method_26_code 44 = .ok (.getfield 53, 3) := by decide +kernel
theorem d_X7_layNear_47 : decode prog_9_method_26_code 47 = .ok (.iload_n 3, 1) := by decide +kernel
theorem d_X7_layNear_48 : decode prog_9_method_26_code 48 = .ok (.dup2, 1) := by decide +kernel
theorem d_X7_layNear_49 : decode prog_9_method_26_code 49 = .ok (.iaload, 1) := by decide +kernel
theorem d_X7_layNear_50 : decode prog_9_method_26_code 50 = .ok (.iload 4, 2) := by decide +kernel
theorem d_X7_layNear_52 : decode prog_9_method_26_code 52 = .ok (.iload 5, 2) := by decide +kernel
theorem d_X7_layNear_54 : decode prog_9_method_26_code 54 = .ok (.invokestatic 107, 3) := by decide +kernel
theorem d_X7_layNear_57 : decode prog_9_method_26_code 57 = .ok (.ifCond .eq 13, 3) := by decide +kernel
theorem d_X7_layNear_60 : decode prog_9_method_26_code 60 = .ok (.aload_n 0, 1) := by decide +kernel
theorem d_X7_layNear_61 : decode prog_9_method_26_code 61 = .ok (.aload_n 1, 1) := by decide +kernel
theorem d_X7_layNear_62 : decode prog_9_method_26_code 62 = .ok (.iload 5, 2) := by decide +kernel
theorem d_X7_layNear_64 : decode prog_9_method_26_code 64 = .ok (.invokevirtual 138, 3) := by decide +kernel
theorem d_X7_layNear_67 : decode prog_9_method_26_code 67 = .ok (.goto 4, 3) := by decide +kernel
theorem d_X7_layNear_70 : decode prog_9_method_26_code 70 = .ok (.iconst 0, 1) := by decide +kernel
theorem d_X7_layNear_71 : decode prog_9_method_26_code 71 = .ok (.ior, 1) := by decide +kernel
theorem d_X7_layNear_72 : decode prog_9_method_26_code 72 = .ok (.iastore, 1) := by decide +kernel
theorem d_X7_layNear_73 : decode prog_9_method_26_code 73 = .ok (.iinc 5 1, 3) := by decide +kernel
theorem d_X7_layNear_76 : decode prog_9_method_26_code 76 = .ok (.goto (-42), 3) := by decide +kernel
theorem d_X7_layNear_79 : decode prog_9_method_26_code 79 = .ok (.aload_n 0, 1) := by decide +kernel
theorem d_X7_layNear_80 : decode prog_9_method_26_code 80 = .ok (.getfield 53, 3) := by decide +kernel
theorem d_X7_layNear_83 : decode prog_9_method_26_code 83 = .ok (.iload_n 3, 1) := by decide +kernel
theorem d_X7_layNear_84 : decode prog_9_method_26_code 84 = .ok (.dup2, 1) := by decide +kernel
theorem d_X7_layNear_85 : decode prog_9_method_26_code 85 = .ok (.iaload, 1) := by decide +kernel
theorem d_X7_layNear_86 : decode prog_9_method_26_code 86 = .ok (.iconst 1, 1) := by decide +kernel
theorem d_X7_layNear_87 : decode prog_9_method_26_code 87 = .ok (.iload_n 3, 1) := by decide +kernel
theorem d_X7_layNear_88 : decode prog_9_method_26_code 88 = .ok (.ishl, 1) := by decide +kernel
theorem d_X7_layNear_89 : decode prog_9_method_26_code 89 = .ok (.iconst (-1), 1) := by decide +kernel
theorem d_X7_layNear_90 : decode prog_9_method_26_code 90 = .ok (.ixor, 1) := by decide +kernel
theorem d_X7_layNear_91 : decode prog_9_method_26_code 91 = .ok (.iand, 1) := by decide +kernel
theorem d_X7_layNear_92 : decode prog_9_method_26_code 92 = .ok (.iastore, 1) := by decide +kernel
theorem d_X7_layNear_93 : decode prog_9_method_26_code 93 = .ok (.iinc 3 1, 3) := by decide +kernel
theorem d_X7_layNear_96 : decode prog_9_method_26_code 96 = .ok (.goto (-89), 3) := by decide +kernel
theorem d_X7_layNear_99 : decode prog_9_method_26_code 99 = .ok (.return_, 1) := by decide +kernel
abbrev M_Model_layNear : zMT := (⟨"PeriodSlotsModel", "layNear", "([II)V"⟩, prog_9_method_26_code, 6, none)
theorem k_Model_layNear : zcall M_Model_layNear 2 := ⟨zU_in (i := 908) (by decide +kernel) rfl, m62, ⟨by decide, by decide, by decide +kernel⟩, by decide⟩
def o_Model_layNear (h : zHp) (r : Nat) (those : Int32) : zHp :=
  (zrep (fun (i7_2 : Nat) (s7_2 : zHp) => (zup (zrep (fun (i34_4 : Nat) (s34_4 : zHp) => (zup s34_4 66 i7_2 ((s34_4 66 i7_2) ||| (if (o_Model_has (o_Model_neighbours s7_2 r i7_2) (nI i34_4)) = true then (o_Model_neighbours s34_4 r i34_4) else 0)))) (zup s7_2 66 i7_2 (o_Model_neighbours s7_2 r i7_2)) (zcn (h 51 1))) 66 i7_2 (((zrep (fun (i34_4 : Nat) (s34_4 : zHp) => (zup s34_4 66 i7_2 ((s34_4 66 i7_2) ||| (if (o_Model_has (o_Model_neighbours s7_2 r i7_2) (nI i34_4)) = true then (o_Model_neighbours s34_4 r i34_4) else 0)))) (zup s7_2 66 i7_2 (o_Model_neighbours s7_2 r i7_2)) (zcn (h 51 1))) 66 i7_2) &&& ((zshl 1 (nI i7_2)) ^^^ (-1))))) (zup h 51 9 those) (zcn (h 51 1)))
theorem fr_Model_layNear {h : zHp} {r : Nat} {those : Int32} (c k : Nat) (q0 : ¬ (c = 51 ∧ k = 9)) (q1 : c ≠ 66) : (o_Model_layNear h r those) c k = h c k := by
  unfold o_Model_layNear
  have hI7_2 := zrep_inv (f := (fun (i7_2 : Nat) (s7_2 : zHp) => (zup (zrep (fun (i34_4 : Nat) (s34_4 : zHp) => (zup s34_4 66 i7_2 ((s34_4 66 i7_2) ||| (if (o_Model_has (o_Model_neighbours s7_2 r i7_2) (nI i34_4)) = true then (o_Model_neighbours s34_4 r i34_4) else 0)))) (zup s7_2 66 i7_2 (o_Model_neighbours s7_2 r i7_2)) (zcn (h 51 1))) 66 i7_2 (((zrep (fun (i34_4 : Nat) (s34_4 : zHp) => (zup s34_4 66 i7_2 ((s34_4 66 i7_2) ||| (if (o_Model_has (o_Model_neighbours s7_2 r i7_2) (nI i34_4)) = true then (o_Model_neighbours s34_4 r i34_4) else 0)))) (zup s7_2 66 i7_2 (o_Model_neighbours s7_2 r i7_2)) (zcn (h 51 1))) 66 i7_2) &&& ((zshl 1 (nI i7_2)) ^^^ (-1)))))) (a := (zup h 51 9 those)) (fun _ s7_2 => ∀ c k : Nat, ¬ (c = 51 ∧ k = 9) → c ≠ 66 → s7_2 c k = (zup h 51 9 those) c k) (zcn (h 51 1)) (fun _ _ _ _ => rfl) (fun i7_2 s7_2 hi7_2 hI7_2 => (by
      have hI34_4 := zrep_inv (f := (fun (i34_4 : Nat) (s34_4 : zHp) => (zup s34_4 66 i7_2 ((s34_4 66 i7_2) ||| (if (o_Model_has (o_Model_neighbours s7_2 r i7_2) (nI i34_4)) = true then (o_Model_neighbours s34_4 r i34_4) else 0))))) (a := (zup s7_2 66 i7_2 (o_Model_neighbours s7_2 r i7_2))) (fun _ s34_4 => ∀ c k : Nat, ¬ (c = 51 ∧ k = 9) → c ≠ 66 → s34_4 c k = (zup s7_2 66 i7_2 (o_Model_neighbours s7_2 r i7_2)) c k) (zcn (h 51 1)) (fun _ _ _ _ => rfl) (fun i34_4 s34_4 hi34_4 hI34_4 => (fun c k q0 q1 => (by (try dsimp only); exact ((zup_fr (Or.inl (by assumption))).trans (hI34_4 _ _ (by assumption) (by assumption))))))
      exact fun c k q0 q1 => (by (try dsimp only); exact ((zup_fr (Or.inl (by assumption))).trans ((hI34_4 _ _ (by assumption) (by assumption)).trans ((zup_fr (Or.inl (by assumption))).trans (hI7_2 _ _ (by assumption) (by assumption))))))))
  first | done | exact ((hI7_2 _ _ (by assumption) (by assumption)).trans (zup_fr (by omega)))
set_option maxHeartbeats 400000 in
set_option maxRecDepth 20000 in
theorem c_Model_layNear (X : zXT) (h : zHp) (g : zLg) (r : Nat) (those : Int32) (hr : r = 54 ∨ r = 55 ∨ r = 56) (hf0 : zfit h 51 1 8) : zDi X M_Model_layNear 2 [zR X 51, zR X r, .int those] h g none (o_Model_layNear h r those) g := by
  have hf0_1 := hf0.1
  refine zDi_of "PeriodSlotsModel" prog_9_method_26_code 6 none rfl (by decide) [zO X 51, zO X r, zI those, none, none, none] rfl (fun _ q => q) (Nat.le_of_ble_eq_true rfl) ?_
  intro Γ Q C hQ
  refine zr_aload_n C d_X7_layNear_0 rfl ?_
  refine zr_iload_n C d_X7_layNear_1 rfl ?_
  refine pf_Model_24 C m777 d_X7_layNear_2 ?_
  refine zr_h (fun h1 eh1 => ?_)
  refine zr_iconst C (v := 0) d_X7_layNear_5 (by decide) ?_
  refine zr_istore_n C [zO X 51, zO X r, zI those, zI 0, none, none] d_X7_layNear_6 (Nat.le_of_ble_eq_true rfl) rfl rfl ?_
  refine zr_lv [zO X 51, zO X r, none, zI 0, none, none] (by simp [zle]) ?_
  refine zfor (f := (fun (i7_2 : Nat) (s7_2 : zHp) => (zup (zrep (fun (i34_4 : Nat) (s34_4 : zHp) => (zup s34_4 66 i7_2 ((s34_4 66 i7_2) ||| (if (o_Model_has (o_Model_neighbours s7_2 r i7_2) (nI i34_4)) = true then (o_Model_neighbours s34_4 r i34_4) else 0)))) (zup s7_2 66 i7_2 (o_Model_neighbours s7_2 r i7_2)) (zcn (h 51 1))) 66 i7_2 (((zrep (fun (i34_4 : Nat) (s34_4 : zHp) => (zup s34_4 66 i7_2 ((s34_4 66 i7_2) ||| (if (o_Model_has (o_Model_neighbours s7_2 r i7_2) (nI i34_4)) = true then (o_Model_neighbours s34_4 r i34_4) else 0)))) (zup s7_2 66 i7_2 (o_Model_neighbours s7_2 r i7_2)) (zcn (h 51 1))) 66 i7_2) &&& ((zshl 1 (nI i7_2)) ^^^ (-1)))))) (a := h1) (fun i7_2 s7_2 => zV X Γ Q 7 [zO X 51, zO X r, none, zI (nI i7_2), none, none] [] s7_2 g) (fun _ s7_2 => ∀ c k : Nat, ¬ (c = 51 ∧ k = 9) → c ≠ 66 → s7_2 c k = h1 c k) (zcn (h 51 1)) (fun _ _ _ _ => rfl) (fun i7_2 s7_2 hi7_2 hI7_2 => ⟨(by
      have hI34_4 := zrep_inv (f := (fun (i34_4 : Nat) (s34_4 : zHp) => (zup s34_4 66 i7_2 ((s34_4 66 i7_2) ||| (if (o_Model_has (o_Model_neighbours s7_2 r i7_2) (nI i34_4)) = true then (o_Model_neighbours s34_4 r i34_4) else 0))))) (a := (zup s7_2 66 i7_2 (o_Model_neighbours s7_2 r i7_2))) (fun _ s34_4 => ∀ c k : Nat, ¬ (c = 51 ∧ k = 9) → c ≠ 66 → s34_4 c k = (zup s7_2 66 i7_2 (o_Model_neighbours s7_2 r i7_2)) c k) (zcn (h 51 1)) (fun _ _ _ _ => rfl) (fun i34_4 s34_4 hi34_4 hI34_4 => (fun c k q0 q1 => (by (try dsimp only); exact ((zup_fr (Or.inl (by assumption))).trans (hI34_4 _ _ (by assumption) (by assumption))))))
      exact fun c k q0 q1 => (by (try dsimp only); exact ((zup_fr (Or.inl (by assumption))).trans ((hI34_4 _ _ (by assumption) (by assumption)).trans ((zup_fr (Or.inl (by assumption))).trans (hI7_2 _ _ (by assumption) (by assumption))))))), fun hk7_2 => ?_⟩) (fun r7_2 er7_2 hI7_2 => ?_)
  · refine zr_iload_n C d_X7_layNear_7 rfl ?_
    refine zr_aload_n C d_X7_layNear_8 rfl ?_
    refine gf_Model_2 C m755 d_X7_layNear_9 ?_
    refine zr_top ((hI7_2 _ _ (by omega) (by omega)).trans ((congrFun (congrFun eh1.symm _) _).trans (zup_fr (by omega)))) ?_
    refine zr_icmp_ge C 99 d_X7_layNear_12 (by decide) (fun c => absurd c (zge_no rfl (by omega))) (fun _ => ?_)
    refine zr_aload_n C d_X7_layNear_15 rfl ?_
    refine zr_aload_n C d_X7_layNear_16 rfl ?_
    refine zr_iload_n C d_X7_layNear_17 rfl ?_
    refine zr_callVi (As := [zR X r, .int (nI i7_2)]) (st := []) (c := 51) C (c_Model_neighbours X s7_2 g r i7_2 rfl hr (by omega)) k_Model_neighbours m909 m911 m27 (by decide) (zC_Model X _ _) rfl rfl (by decide) rfl (Nat.le_of_ble_eq_true rfl) d_X7_layNear_18 ?_
    refine zr_istore C [zO X 51, zO X r, none, zI (nI i7_2), zI (o_Model_neighbours s7_2 r i7_2), none] d_X7_layNear_21 (Nat.le_of_ble_eq_true rfl) rfl rfl ?_
    refine zr_aload_n C d_X7_layNear_23 rfl ?_
    refine gf_Model_25 C m778 d_X7_layNear_24 ?_
    refine zr_iload_n C d_X7_layNear_27 rfl ?_
    refine zr_iload C d_X7_layNear_28 rfl ?_
    refine zr_iast C za_66 (i7_2) rfl (by omega) (by decide) d_X7_layNear_30 ?_
    refine zr_h (fun h3 eh3 => ?_)
    refine zr_iconst C (v := 0) d_X7_layNear_31 (by decide) ?_
    refine zr_istore C [zO X 51, zO X r, none, zI (nI i7_2), zI (o_Model_neighbours s7_2 r i7_2), zI 0] d_X7_layNear_32 (Nat.le_of_ble_eq_true rfl) rfl rfl ?_
    refine zfor (f := (fun (i34_4 : Nat) (s34_4 : zHp) => (zup s34_4 66 i7_2 ((s34_4 66 i7_2) ||| (if (o_Model_has (o_Model_neighbours s7_2 r i7_2) (nI i34_4)) = true then (o_Model_neighbours s34_4 r i34_4) else 0))))) (a := h3) (fun i34_4 s34_4 => zV X Γ Q 34 [zO X 51, zO X r, none, zI (nI i7_2), zI (o_Model_neighbours s7_2 r i7_2), zI (nI i34_4)] [] s34_4 g) (fun _ s34_4 => ∀ c k : Nat, ¬ (c = 51 ∧ k = 9) → c ≠ 66 → s34_4 c k = h3 c k) (zcn (h 51 1)) (fun _ _ _ _ => rfl) (fun i34_4 s34_4 hi34_4 hI34_4 => ⟨(fun c k q0 q1 => (by (try dsimp only); exact ((zup_fr (Or.inl (by assumption))).trans (hI34_4 _ _ (by assumption) (by assumption))))), fun hk34_4 => ?_⟩) (fun r34_4 er34_4 hI34_4 => ?_)
    · refine zr_iload C d_X7_layNear_34 rfl ?_
      refine zr_aload_n C d_X7_layNear_36 rfl ?_
      refine gf_Model_2 C m755 d_X7_layNear_37 ?_
      refine zr_top ((hI34_4 _ _ (by omega) (by omega)).trans ((congrFun (congrFun eh3.symm _) _).trans ((zup_fr (by omega)).trans ((hI7_2 _ _ (by omega) (by omega)).trans ((congrFun (congrFun eh1.symm _) _).trans (zup_fr (by omega))))))) ?_
      refine zr_icmp_ge C 79 d_X7_layNear_40 (by decide) (fun c => absurd c (zge_no rfl (by omega))) (fun _ => ?_)
      refine zr_aload_n C d_X7_layNear_43 rfl ?_
      refine gf_Model_25 C m778 d_X7_layNear_44 ?_
      refine zr_iload_n C d_X7_layNear_47 rfl ?_
      refine zr_dup2 C d_X7_layNear_48 rfl rfl ?_
      refine zr_iald C za_66 (i7_2) rfl (by omega) (by decide) d_X7_layNear_49 ?_
      refine zr_iload C d_X7_layNear_50 rfl ?_
      refine zr_iload C d_X7_layNear_52 rfl ?_
      refine zr_callSi (As := [.int (o_Model_neighbours s7_2 r i7_2), .int (nI i34_4)]) (st := [.int (s34_4 66 i7_2), .int (nI i7_2), zR X 66]) C (c_Model_has X s34_4 g (o_Model_neighbours s7_2 r i7_2) (nI i34_4)) k_Model_has m890 m891 rfl (by decide) rfl (Nat.le_of_ble_eq_true rfl) d_X7_layNear_54 ?_
      suffices hJ57 : ∀ (y5 : Int32), (if (o_Model_has (o_Model_neighbours s7_2 r i7_2) (nI i34_4)) = true then (o_Model_neighbours s34_4 r i34_4) else 0) = y5 → zV X Γ Q 71 [zO X 51, zO X r, none, zI (nI i7_2), zI (o_Model_neighbours s7_2 r i7_2), zI (nI i34_4)] [.int y5, .int (s34_4 66 i7_2), .int (nI i7_2), zR X 66] s34_4 g by
        refine zr_ifz_eq C 70 d_X7_layNear_57 (by decide) (fun c57 => ?_) (fun c57 => ?_)
        · refine zr_iconst C (v := 0) d_X7_layNear_70 (by decide) ?_
          exact hJ57 0 (((if_neg (zbf c57))))
        · refine zr_aload_n C d_X7_layNear_60 rfl ?_
          refine zr_aload_n C d_X7_layNear_61 rfl ?_
          refine zr_iload C d_X7_layNear_62 rfl ?_
          refine zr_callVi (As := [zR X r, .int (nI i34_4)]) (st := [.int (s34_4 66 i7_2), .int (nI i7_2), zR X 66]) (c := 51) C (c_Model_neighbours X s34_4 g r i34_4 rfl hr (by omega)) k_Model_neighbours m909 m911 m27 (by decide) (zC_Model X _ _) rfl rfl (by decide) rfl (Nat.le_of_ble_eq_true rfl) d_X7_layNear_64 ?_
          refine zr_goto C 71 d_X7_layNear_67 (by decide) ?_
          exact hJ57 (o_Model_neighbours s34_4 r i34_4) (((if_pos c57)))
      intro y5 ey5
      refine zr_ior C d_X7_layNear_71 ?_
      refine zr_iast C za_66 (i7_2) rfl (by omega) (by decide) d_X7_layNear_72 ?_
      refine zr_h (fun h6 eh6 => ?_)
      refine zr_iinc C [zO X 51, zO X r, none, zI (nI i7_2), zI (o_Model_neighbours s7_2 r i7_2), zI (nI (i34_4 + 1))] (v := (nI (i34_4 + 1))) d_X7_layNear_73 rfl (zn_add rfl rfl) (Nat.le_of_ble_eq_true rfl) rfl rfl ?_
      refine zr_goto C 34 d_X7_layNear_76 (by decide) ?_
      exact hk34_4 h6 (by subst eh6 ey5; exact rfl)
    refine zr_iload C d_X7_layNear_34 rfl ?_
    refine zr_aload_n C d_X7_layNear_36 rfl ?_
    refine gf_Model_2 C m755 d_X7_layNear_37 ?_
    refine zr_top ((hI34_4 _ _ (by omega) (by omega)).trans ((congrFun (congrFun eh3.symm _) _).trans ((zup_fr (by omega)).trans ((hI7_2 _ _ (by omega) (by omega)).trans ((congrFun (congrFun eh1.symm _) _).trans (zup_fr (by omega))))))) ?_
    refine zr_icmp_ge C 79 d_X7_layNear_40 (by decide) (fun _ => ?_) (fun c => absurd (zge_yes rfl (by omega) (by have := zcn_small (h 51 1); omega)) c)
    refine zr_aload_n C d_X7_layNear_79 rfl ?_
    refine gf_Model_25 C m778 d_X7_layNear_80 ?_
    refine zr_iload_n C d_X7_layNear_83 rfl ?_
    refine zr_dup2 C d_X7_layNear_84 rfl rfl ?_
    refine zr_iald C za_66 (i7_2) rfl (by omega) (by decide) d_X7_layNear_85 ?_
    refine zr_iconst C (v := 1) d_X7_layNear_86 (by decide) ?_
    refine zr_iload_n C d_X7_layNear_87 rfl ?_
    refine zr_ishl C d_X7_layNear_88 ?_
    refine zr_iconst C (v := (-1)) d_X7_layNear_89 (by decide) ?_
    refine zr_ixor C d_X7_layNear_90 ?_
    refine zr_iand C d_X7_layNear_91 ?_
    refine zr_iast C za_66 (i7_2) rfl (by omega) (by decide) d_X7_layNear_92 ?_
    refine zr_h (fun h7 eh7 => ?_)
    refine zr_iinc C [zO X 51, zO X r, none, zI (nI (i7_2 + 1)), zI (o_Model_neighbours s7_2 r i7_2), zI (nI (zcn (h 51 1)))] (v := (nI (i7_2 + 1))) d_X7_layNear_93 rfl (zn_add rfl rfl) (Nat.le_of_ble_eq_true rfl) rfl rfl ?_
    refine zr_goto C 7 d_X7_layNear_96 (by decide) ?_
    refine zr_lv [zO X 51, zO X r, none, zI (nI (i7_2 + 1)), none, none] (by simp [zle]) ?_
    exact hk7_2 h7 (by subst eh7 er34_4 eh3; exact rfl)
  refine zr_iload_n C d_X7_layNear_7 rfl ?_
  refine zr_aload_n C d_X7_layNear_8 rfl ?_
  refine gf_Model_2 C m755 d_X7_layNear_9 ?_
  refine zr_top ((hI7_2 _ _ (by omega) (by omega)).trans ((congrFun (congrFun eh1.symm _) _).trans (zup_fr (by omega)))) ?_
  refine zr_icmp_ge C 99 d_X7_layNear_12 (by decide) (fun _ => ?_) (fun c => absurd (zge_yes rfl (by omega) (by have := zcn_small (h 51 1); omega)) c)
  have eR : o_Model_layNear h r those = r7_2 := (by subst er7_2 eh1; unfold o_Model_layNear; exact rfl)
  subst hQ
  rw [eR]
  exact zr_vret C d_X7_layNear_99
theorem d_X7_drawOf_0 : decode prog_9_method_27_code 0 = .ok (.bipush 7, 2) := by decide +kernel
theorem d_X7_drawOf_2 : decode prog_9_method_27_code 2 = .ok (.bipush 37, 2) := by decide +kernel
theorem d_X7_drawOf_4 : decode prog_9_method_27_code 4 = .ok (.iload_n 0, 1) := by decide +kernel
theorem d_X7_drawOf_5 : decode prog_9_method_27_code 5 = .ok (.imul, 1) := by decide +kernel
theorem d_X7_drawOf_6 : decode prog_9_method_27_code 6 = .ok (.iadd, 1) := by decide +kernel
theorem d_X7_drawOf_7 : decode prog_9_method_27_code 7 = .ok (.bipush 101, 2) := by decide +kernel
theorem d_X7_drawOf_9 : decode prog_9_method_27_code 9 = .ok (.iload_n 1, 1) := by decide +kernel
theorem d_X7_drawOf_10 : decode prog_9_method_27_code 10 = .ok (.sipush 1009, 3) := by decide +kernel
theorem d_X7_drawOf_13 : decode prog_9_method_27_code 13 = .ok (.irem, 1) := by decide +kernel
theorem d_X7_drawOf_14 : decode prog_9_method_27_code 14 = .ok (.imul, 1) := by decide +kernel
theorem d_X7_drawOf_15 : decode prog_9_method_27_code 15 = .ok (.iadd, 1) := by decide +kernel
theorem d_X7_drawOf_16 : decode prog_9_method_27_code 16 = .ok (.sipush 1009, 3) := by decide +kernel
theorem d_X7_drawOf_19 : decode prog_9_method_27_code 19 = .ok (.irem, 1) := by decide +kernel
theorem d_X7_drawOf_20 : decode prog_9_method_27_code 20 = .ok (.istore_n 2, 1) := by decide +kernel
theorem d_X7_drawOf_21 : decode prog_9_method_27_code 21 = .ok (.iload_n 2, 1) := by decide +kernel
theorem d_X7_drawOf_22 : decode prog_9_method_27_code 22 = .ok (.iload_n 2, 1) := by decide +kernel
theorem d_X7_drawOf_23 : decode prog_9_method_27_code 23 = .ok (.imul, 1) := by decide +kernel
theorem d_X7_drawOf_24 : decode prog_9_method_27_code 24 = .ok (.sipush 1009, 3) := by decide +kernel
theorem d_X7_drawOf_27 : decode prog_9_method_27_code 27 = .ok (.irem, 1) := by decide +kernel
theorem d_X7_drawOf_28 : decode prog_9_method_27_code 28 = .ok (.iload_n 2, 1) := by decide +kernel
theorem d_X7_drawOf_29 : decode prog_9_method_27_code 29 = .ok (.imul, 1) := by decide +kernel
theorem d_X7_drawOf_30 : decode prog_9_method_27_code 30 = .ok (.sipush 1009, 3) := by decide +kernel
theorem d_X7_drawOf_33 : decode prog_9_method_27_code 33 = .ok (.irem, 1) := by decide +kernel
theorem d_X7_drawOf_34 : decode prog_9_method_27_code 34 = .ok (.ireturn, 1) := by decide +kernel
abbrev M_Model_drawOf : zMT := (⟨"PeriodSlotsModel", "drawOf", "(II)I"⟩, prog_9_method_27_code, 3, (some .int))
theorem k_Model_drawOf : zcall M_Model_drawOf 2 := ⟨zU_in (i := 948) (by decide +kernel) rfl, m62, ⟨by decide, by decide, by decide +kernel⟩, by decide⟩
def o_Model_drawOf (s : Int32) (round : Int32) : Int32 :=
  (zrem ((zrem ((zrem ((7 + (37 * s)) + (101 * (zrem round 1009))) 1009) * (zrem ((7 + (37 * s)) + (101 * (zrem round 1009))) 1009)) 1009) * (zrem ((7 + (37 * s)) + (101 * (zrem round 1009))) 1009)) 1009)
set_option maxHeartbeats 400000 in
set_option maxRecDepth 20000 in
theorem c_Model_drawOf (X : zXT) (h : zHp) (g : zLg) (s : Int32) (round : Int32) : zDi X M_Model_drawOf 0 [.int s, .int round] h g (zI (o_Model_drawOf s round)) h g := by
  refine zDi_of "PeriodSlotsModel" prog_9_method_27_code 3 (some .int) rfl (by decide) [zI s, zI round, none] rfl (fun _ q => q) (Nat.le_of_ble_eq_true rfl) ?_
  intro Γ Q C hQ
  refine zr_bipush C (v := 7) d_X7_drawOf_0 (by decide) ?_
  refine zr_bipush C (v := 37) d_X7_drawOf_2 (by decide) ?_
  refine zr_iload_n C d_X7_drawOf_4 rfl ?_
  refine zr_imul C d_X7_drawOf_5 ?_
  refine zr_iadd C d_X7_drawOf_6 ?_
  refine zr_bipush C (v := 101) d_X7_drawOf_7 (by decide) ?_
  refine zr_iload_n C d_X7_drawOf_9 rfl ?_
  refine zr_sipush C (v := 1009) d_X7_drawOf_10 (by decide) ?_
  refine zr_irem C d_X7_drawOf_13 (by decide) ?_
  refine zr_imul C d_X7_drawOf_14 ?_
  refine zr_iadd C d_X7_drawOf_15 ?_
  refine zr_sipush C (v := 1009) d_X7_drawOf_16 (by decide) ?_
  refine zr_irem C d_X7_drawOf_19 (by decide) ?_
  refine zr_istore_n C [zI s, zI round, zI (zrem ((7 + (37 * s)) + (101 * (zrem round 1009))) 1009)] d_X7_drawOf_20 (Nat.le_of_ble_eq_true rfl) rfl rfl ?_
  refine zr_iload_n C d_X7_drawOf_21 rfl ?_
  refine zr_iload_n C d_X7_drawOf_22 rfl ?_
  refine zr_imul C d_X7_drawOf_23 ?_
  refine zr_sipush C (v := 1009) d_X7_drawOf_24 (by decide) ?_
  refine zr_irem C d_X7_drawOf_27 (by decide) ?_
  refine zr_iload_n C d_X7_drawOf_28 rfl ?_
  refine zr_imul C d_X7_drawOf_29 ?_
  refine zr_sipush C (v := 1009) d_X7_drawOf_30 (by decide) ?_
  refine zr_irem C d_X7_drawOf_33 (by decide) ?_
  have eR : o_Model_drawOf s round = (zrem ((zrem ((zrem ((7 + (37 * s)) + (101 * (zrem round 1009))) 1009) * (zrem ((7 + (37 * s)) + (101 * (zrem round 1009))) 1009)) 1009) * (zrem ((7 + (37 * s)) + (101 * (zrem round 1009))) 1009)) 1009) := (by unfold o_Model_drawOf; exact rfl)
  subst hQ
  rw [eR]
  exact zr_ireti C d_X7_drawOf_34
theorem d_X7_isAbove_0 : decode prog_9_method_28_code 0 = .ok (.iload_n 0, 1) := by decide +kernel
theorem d_X7_isAbove_1 : decode prog_9_method_28_code 1 = .ok (.iload_n 2, 1) := by decide +kernel
theorem d_X7_isAbove_2 : decode prog_9_method_28_code 2 = .ok (.invokestatic 141, 3) := by decide +kernel
theorem d_X7_isAbove_5 : decode prog_9_method_28_code 5 = .ok (.istore_n 3, 1) := by decide +kernel
theorem d_X7_isAbove_6 : decode prog_9_method_28_code 6 = .ok (.iload_n 1, 1) := by decide +kernel
theorem d_X7_isAbove_7 : decode prog_9_method_28_code 7 = .ok (.iload_n 2, 1) := by decide +kernel
theorem d_X7_isAbove_8 : decode prog_9_method_28_code 8 = .ok (.invokestatic 141, 3) := by decide +kernel
theorem d_X7_isAbove_11 : decode prog_9_method_28_code 11 = .ok (.istore 4, 2) := by decide +kernel
theorem d_X7_isAbove_13 : decode prog_9_method_28_code 13 = .ok (.iload_n 3, 1) := by decide +kernel
theorem d_X7_isAbove_14 : decode prog_9_method_28_code 14 = .ok (.iload 4, 2) := by decide +kernel
theorem d_X7_isAbove_16 : decode prog_9_method_28_code 16 = .ok (.if_icmp .gt 14, 3) := by decide +kernel
theorem d_X7_isAbove_19 : decode prog_9_method_28_code 19 = .ok (.iload_n 3, 1) := by decide +kernel
theorem d_X7_isAbove_20 : decode prog_9_method_28_code 20 = .ok (.iload 4, 2) := by decide +kernel
theorem d_X7_isAbove_22 : decode prog_9_method_28_code 22 = .ok (.if_icmp .ne 12, 3) := by decide +kernel
theorem d_X7_isAbove_25 : decode prog_9_method_28_code 25 = .ok (.iload_n 0, 1) := by decide +kernel
theorem d_X7_isAbove_26 : decode prog_9_method_28_code 26 = .ok (.iload_n 1, 1) := by decide +kernel
theorem d_X7_isAbove_27 : decode prog_9_method_28_code 27 = .ok (.if_icmp .ge 7, 3) := by decide +kernel
theorem d_X7_isAbove_30 : decode prog_9_method_28_code 30 = .ok (.iconst 1, 1) := by decide +kernel
theorem d_X7_isAbove_31 : decode prog_9_method_28_code 31 = .ok (.goto 4, 3) := by decide +kernel
theorem d_X7_isAbove_34 : decode prog_9_method_28_code 34 = .ok (.iconst 0, 1) := by decide +kernel
theorem d_X7_isAbove_35 : decode prog_9_method_28_code 35 = .ok (.ireturn, 1) := by decide +kernel
abbrev M_Model_isAbove : zMT := (⟨"PeriodSlotsModel", "isAbove", "(III)Z"⟩, prog_9_method_28_code, 5, (some .boolean))
theorem k_Model_isAbove : zcall M_Model_isAbove 3 := ⟨zU_in (i := 945) (by decide +kernel) rfl, m62, ⟨by decide, by decide, by decide +kernel⟩, by decide⟩
def o_Model_isAbove (s : Int32) (e : Int32) (round : Int32) : Bool :=
  ((decide ((o_Model_drawOf e round) < (o_Model_drawOf s round))) || ((decide ((o_Model_drawOf s round) = (o_Model_drawOf e round))) && (!(decide (e ≤ s)))))
set_option maxHeartbeats 400000 in
set_option maxRecDepth 20000 in
theorem c_Model_isAbove (X : zXT) (h : zHp) (g : zLg) (s : Int32) (e : Int32) (round : Int32) : zDi X M_Model_isAbove 1 [.int s, .int e, .int round] h g (zI (zb (o_Model_isAbove s e round))) h g := by
  refine zDi_of "PeriodSlotsModel" prog_9_method_28_code 5 (some .boolean) rfl (by decide) [zI s, zI e, zI round, none, none] rfl (fun _ q => q) (Nat.le_of_ble_eq_true rfl) ?_
  intro Γ Q C hQ
  refine zr_iload_n C d_X7_isAbove_0 rfl ?_
  refine zr_iload_n C d_X7_isAbove_1 rfl ?_
  refine zr_callSi (As := [.int s, .int round]) (st := []) C (c_Model_drawOf X h g s round) k_Model_drawOf m946 m947 rfl (by decide) rfl (Nat.le_of_ble_eq_true rfl) d_X7_isAbove_2 ?_
  refine zr_istore_n C [zI s, zI e, zI round, zI (o_Model_drawOf s round), none] d_X7_isAbove_5 (Nat.le_of_ble_eq_true rfl) rfl rfl ?_
  refine zr_iload_n C d_X7_isAbove_6 rfl ?_
  refine zr_iload_n C d_X7_isAbove_7 rfl ?_
  refine zr_callSi (As := [.int e, .int round]) (st := []) C (c_Model_drawOf X h g e round) k_Model_drawOf m946 m947 rfl (by decide) rfl (Nat.le_of_ble_eq_true rfl) d_X7_isAbove_8 ?_
  refine zr_istore C [zI s, zI e, zI round, zI (o_Model_drawOf s round), zI (o_Model_drawOf e round)] d_X7_isAbove_11 (Nat.le_of_ble_eq_true rfl) rfl rfl ?_
  refine zr_iload_n C d_X7_isAbove_13 rfl ?_
  refine zr_iload C d_X7_isAbove_14 rfl ?_
  suffices hJ16 : ∀ (y1 : Bool), ((decide ((o_Model_drawOf e round) < (o_Model_drawOf s round))) || ((decide ((o_Model_drawOf s round) = (o_Model_drawOf e round))) && (!(decide (e ≤ s))))) = y1 → zV X Γ Q 35 [none, none, none, none, none] [.int (zb y1)] h g by
    refine zr_icmp_gt C 30 d_X7_isAbove_16 (by decide) (fun c16 => ?_) (fun c16 => ?_)
    · refine zr_iconst C (v := 1) d_X7_isAbove_30 (by decide) ?_
      refine zr_goto C 35 d_X7_isAbove_31 (by decide) ?_
      refine zr_lv [none, none, none, none, none] (by simp [zle]) ?_
      exact hJ16 true (by simp [c16])
    · refine zr_iload_n C d_X7_isAbove_19 rfl ?_
      refine zr_iload C d_X7_isAbove_20 rfl ?_
      refine zr_icmp_ne C 34 d_X7_isAbove_22 (by decide) (fun c22 => ?_) (fun c22 => ?_)
      · refine zr_iconst C (v := 0) d_X7_isAbove_34 (by decide) ?_
        refine zr_lv [none, none, none, none, none] (by simp [zle]) ?_
        exact hJ16 false (by simp [c16, c22])
      · refine zr_iload_n C d_X7_isAbove_25 rfl ?_
        refine zr_iload_n C d_X7_isAbove_26 rfl ?_
        refine zr_icmp_ge C 34 d_X7_isAbove_27 (by decide) (fun c27 => ?_) (fun c27 => ?_)
        · refine zr_iconst C (v := 0) d_X7_isAbove_34 (by decide) ?_
          refine zr_lv [none, none, none, none, none] (by simp [zle]) ?_
          exact hJ16 false (by simp [c16, c22, c27])
        · refine zr_iconst C (v := 1) d_X7_isAbove_30 (by decide) ?_
          refine zr_goto C 35 d_X7_isAbove_31 (by decide) ?_
          refine zr_lv [none, none, none, none, none] (by simp [zle]) ?_
          exact hJ16 true (by simp [c16, c22, c27])
  intro y1 ey1
  have eR : o_Model_isAbove s e round = y1 := (by subst ey1; unfold o_Model_isAbove; exact rfl)
  subst hQ
  rw [eR]
  exact zr_iretz C (zb_01 _) d_X7_isAbove_35
theorem d_X7_heldNear_0 : decode prog_9_method_29_code 0 = .ok (.iconst 0, 1) := by decide +kernel
theorem d_X7_heldNear_1 : decode prog_9_method_29_code 1 = .ok (.istore 4, 2) := by decide +kernel
theorem d_X7_heldNear_3 : decode prog_9_method_29_code 3 = .ok (.iconst 0, 1) := by decide +kernel
theorem d_X7_heldNear_4 : decode prog_9_method_29_code 4 = .ok (.istore 5, 2) := by decide +kernel
theorem d_X7_heldNear_6 : decode prog_9_method_29_code 6 = .ok (.iload 5, 2) := by decide +kernel
theorem d_X7_heldNear_8 : decode prog_9_method_29_code 8 = .ok (.aload_n 0, 1) := by decide +kernel
theorem d_X7_heldNear_9 : decode prog_9_method_29_code 9 = .ok (.getfield 72, 3) := by decide +kernel
theorem d_X7_heldNear_12 : decode prog_9_method_29_code 12 = .ok (.if_icmp .ge 56, 3) := by decide +kernel
theorem d_X7_heldNear_15 : decode prog_9_method_29_code 15 = .ok (.iload 4, 2) := by decide +kernel
theorem d_X7_heldNear_17 : decode prog_9_method_29_code 17 = .ok (.aload_n 0, 1) := by decide +kernel
theorem d_X7_heldNear_18 : decode prog_9_method_29_code 18 = .ok (.getfield 53, 3) := by decide +kernel
theorem d_X7_heldNear_21 : decode prog_9_method_29_code 21 = .ok (.iload_n 2, 1) := by decide +kernel
theorem d_X7_heldNear_22 : decode prog_9_method_29_code 22 = .ok (.iaload, 1) := by decide +kernel
theorem d_X7_heldNear_23 : decode prog_9_method_29_code 23 = .ok (.iload 5, 2) := by decide +kernel
theorem d_X7_heldNear_25 : decode prog_9_method_29_code 25 = .ok (.invokestatic 107, 3) := by decide +kernel
theorem d_X7_heldNear_28 : decode prog_9_method_29_code 28 = .ok (.ifCond .eq 30, 3) := by decide +kernel
theorem d_X7_heldNear_31 : decode prog_9_method_29_code 31 = .ok (.iload_n 3, 1) := by decide +kernel
theorem d_X7_heldNear_32 : decode prog_9_method_29_code 32 = .ok (.ifCond .eq 16, 3) := by decide +kernel
theorem d_X7_heldNear_35 : decode prog_9_method_29_code 35 = .ok (.iload 5, 2) := by decide +kernel
theorem d_X7_heldNear_37 : decode prog_9_method_29_code 37 = .ok (.iload_n 2, 1) := by decide +kernel
theorem d_X7_heldNear_38 : decode prog_9_method_29_code 38 = .ok (.aload_n 1, 1) := by decide +kernel
theorem d_X7_heldNear_39 : decode prog_9_method_29_code 39 = .ok (.bipush 24, 2) := by decide +kernel
theorem d_X7_heldNear_41 : decode prog_9_method_29_code 41 = .ok (.iaload, 1) := by decide +kernel
theorem d_X7_heldNear_42 : decode prog_9_method_29_code 42 = .ok (.invokestatic 144, 3) := by decide +kernel
theorem d_X7_heldNear_45 : decode prog_9_method_29_code 45 = .ok (.ifCond .eq 13, 3) := by decide +kernel
theorem d_X7_heldNear_48 : decode prog_9_method_29_code 48 = .ok (.aload_n 0, 1) := by decide +kernel
theorem d_X7_heldNear_49 : decode prog_9_method_29_code 49 = .ok (.aload_n 1, 1) := by decide +kernel
theorem d_X7_heldNear_50 : decode prog_9_method_29_code 50 = .ok (.iload 5, 2) := by decide +kernel
theorem d_X7_heldNear_52 : decode prog_9_method_29_code 52 = .ok (.invokevirtual 148, 3) := by decide +kernel
theorem d_X7_heldNear_55 : decode prog_9_method_29_code 55 = .ok (.goto 4, 3) := by decide +kernel
theorem d_X7_heldNear_58 : decode prog_9_method_29_code 58 = .ok (.iconst 0, 1) := by decide +kernel
theorem d_X7_heldNear_59 : decode prog_9_method_29_code 59 = .ok (.ior, 1) := by decide +kernel
theorem d_X7_heldNear_60 : decode prog_9_method_29_code 60 = .ok (.istore 4, 2) := by decide +kernel
theorem d_X7_heldNear_62 : decode prog_9_method_29_code 62 = .ok (.iinc 5 1, 3) := by decide +kernel
theorem d_X7_heldNear_65 : decode prog_9_method_29_code 65 = .ok (.goto (-59), 3) := by decide +kernel
theorem d_X7_heldNear_68 : decode prog_9_method_29_code 68 = .ok (.iload 4, 2) := by decide +kernel
theorem d_X7_heldNear_70 : decode prog_9_method_29_code 70 = .ok (.ireturn, 1) := by decide +kernel
abbrev M_Model_heldNear : zMT := (⟨"PeriodSlotsModel", "heldNear", "([IIZ)I"⟩, prog_9_method_29_code, 6, (some .int))
theorem k_Model_heldNear : zcall M_Model_heldNear 3 := ⟨zU_in (i := 942) (by decide +kernel) rfl, m62, ⟨by decide, by decide, by decide +kernel⟩, by decide⟩
def o_Model_heldNear (h : zHp) (r : Nat) (s : Nat) (above : Bool) : Int32 :=
  (zrep (fun (i6_1 : Nat) (s6_1 : Int32) => (s6_1 ||| (if (o_Model_has (h 66 s) (nI i6_1)) = true then (if above = true then (if (o_Model_isAbove (nI i6_1) (nI s) (h r 24)) = true then (o_Model_held h r i6_1) else 0) else (o_Model_held h r i6_1)) else 0))) 0 (zcn (h 51 1)))
theorem rd_Model_heldNear {h h2 : zHp} {r : Nat} {s : Nat} {above : Bool} (e0 : h2 51 1 = h 51 1) (e1 : h2 53 = h 53) (e2 : h2 66 = h 66) (e3 : h2 r = h r) : o_Model_heldNear h2 r s above = o_Model_heldNear h r s above := by
  unfold o_Model_heldNear
  simp only [e0, e1, e2, e3, rd_Model_held e1 e3]

set_option maxHeartbeats 400000 in
set_option maxRecDepth 20000 in
theorem c_Model_heldNear (X : zXT) (h : zHp) (g : zLg) (r : Nat) (s : Nat) (above : Bool) {x_s : Int32} (e_s : x_s = nI s) (hr : r = 54 ∨ r = 55 ∨ r = 56) (hf0 : zfit h 51 1 8) (hper : zper h) (hl2 : s < 8) : zDi X M_Model_heldNear 3 [zR X 51, zR X r, .int x_s, .int (zb above)] h g (zI (o_Model_heldNear h r s above)) h g := by
  subst e_s
  have hf0_1 := hf0.1
  refine zDi_of "PeriodSlotsModel" prog_9_method_29_code 6 (some .int) rfl (by decide) [zO X 51, zO X r, zI (nI s), zI (zb above), none, none] rfl (fun _ q => q) (Nat.le_of_ble_eq_true rfl) ?_
  intro Γ Q C hQ
  refine zr_iconst C (v := 0) d_X7_heldNear_0 (by decide) ?_
  refine zr_istore C [zO X 51, zO X r, zI (nI s), zI (zb above), zI 0, none] d_X7_heldNear_1 (Nat.le_of_ble_eq_true rfl) rfl rfl ?_
  refine zr_iconst C (v := 0) d_X7_heldNear_3 (by decide) ?_
  refine zr_istore C [zO X 51, zO X r, zI (nI s), zI (zb above), zI 0, zI 0] d_X7_heldNear_4 (Nat.le_of_ble_eq_true rfl) rfl rfl ?_
  refine zfor (f := (fun (i6_1 : Nat) (s6_1 : Int32) => (s6_1 ||| (if (o_Model_has (h 66 s) (nI i6_1)) = true then (if above = true then (if (o_Model_isAbove (nI i6_1) (nI s) (h r 24)) = true then (o_Model_held h r i6_1) else 0) else (o_Model_held h r i6_1)) else 0)))) (a := 0) (fun i6_1 s6_1 => zV X Γ Q 6 [zO X 51, zO X r, zI (nI s), zI (zb above), zI s6_1, zI (nI i6_1)] [] h g) (fun _ _ => True) (zcn (h 51 1)) trivial (fun i6_1 s6_1 hi6_1 hI6_1 => ⟨trivial, fun hk6_1 => ?_⟩) (fun r6_1 er6_1 hI6_1 => ?_)
  · refine zr_iload C d_X7_heldNear_6 rfl ?_
    refine zr_aload_n C d_X7_heldNear_8 rfl ?_
    refine gf_Model_2 C m755 d_X7_heldNear_9 ?_
    refine zr_icmp_ge C 68 d_X7_heldNear_12 (by decide) (fun c => absurd c (zge_no rfl (by omega))) (fun _ => ?_)
    refine zr_iload C d_X7_heldNear_15 rfl ?_
    refine zr_aload_n C d_X7_heldNear_17 rfl ?_
    refine gf_Model_25 C m778 d_X7_heldNear_18 ?_
    refine zr_iload_n C d_X7_heldNear_21 rfl ?_
    refine zr_iald C za_66 (s) rfl (by omega) (by decide) d_X7_heldNear_22 ?_
    refine zr_iload C d_X7_heldNear_23 rfl ?_
    refine zr_callSi (As := [.int (h 66 s), .int (nI i6_1)]) (st := [.int s6_1]) C (c_Model_has X h g (h 66 s) (nI i6_1)) k_Model_has m890 m891 rfl (by decide) rfl (Nat.le_of_ble_eq_true rfl) d_X7_heldNear_25 ?_
    suffices hJ28 : ∀ (y2 : Int32), (if (o_Model_has (h 66 s) (nI i6_1)) = true then (if above = true then (if (o_Model_isAbove (nI i6_1) (nI s) (h r 24)) = true then (o_Model_held h r i6_1) else 0) else (o_Model_held h r i6_1)) else 0) = y2 → zV X Γ Q 59 [zO X 51, zO X r, zI (nI s), zI (zb above), none, zI (nI i6_1)] [.int y2, .int s6_1] h g by
      refine zr_ifz_eq C 58 d_X7_heldNear_28 (by decide) (fun c28 => ?_) (fun c28 => ?_)
      · refine zr_iconst C (v := 0) d_X7_heldNear_58 (by decide) ?_
        refine zr_lv [zO X 51, zO X r, zI (nI s), zI (zb above), none, zI (nI i6_1)] (by simp [zle]) ?_
        exact hJ28 0 (((if_neg (zbf c28))))
      · refine zr_iload_n C d_X7_heldNear_31 rfl ?_
        refine zr_ifz_eq C 48 d_X7_heldNear_32 (by decide) (fun c32 => ?_) (fun c32 => ?_)
        · refine zr_aload_n C d_X7_heldNear_48 rfl ?_
          refine zr_aload_n C d_X7_heldNear_49 rfl ?_
          refine zr_iload C d_X7_heldNear_50 rfl ?_
          refine zr_callVi (As := [zR X r, .int (nI i6_1)]) (st := [.int s6_1]) (c := 51) C (c_Model_held X h g r i6_1 rfl hr (by omega) (hper i6_1 (by omega))) k_Model_held m949 m951 m34 (by decide) (zC_Model X _ _) rfl rfl (by decide) rfl (Nat.le_of_ble_eq_true rfl) d_X7_heldNear_52 ?_
          refine zr_goto C 59 d_X7_heldNear_55 (by decide) ?_
          refine zr_lv [zO X 51, zO X r, zI (nI s), zI (zb above), none, zI (nI i6_1)] (by simp [zle]) ?_
          exact hJ28 (o_Model_held h r i6_1) (((if_pos c28).trans ((if_neg (zbf c32)))))
        · refine zr_iload C d_X7_heldNear_35 rfl ?_
          refine zr_iload_n C d_X7_heldNear_37 rfl ?_
          refine zr_aload_n C d_X7_heldNear_38 rfl ?_
          refine zr_bipush C (v := 24) d_X7_heldNear_39 (by decide) ?_
          refine zr_iald C (za_row hr) (24) rfl (by omega) (by decide) d_X7_heldNear_41 ?_
          refine zr_callSi (As := [.int (nI i6_1), .int (nI s), .int (h r 24)]) (st := [.int s6_1]) C (c_Model_isAbove X h g (nI i6_1) (nI s) (h r 24)) k_Model_isAbove m943 m944 rfl (by decide) rfl (Nat.le_of_ble_eq_true rfl) d_X7_heldNear_42 ?_
          refine zr_ifz_eq C 58 d_X7_heldNear_45 (by decide) (fun c45 => ?_) (fun c45 => ?_)
          · refine zr_iconst C (v := 0) d_X7_heldNear_58 (by decide) ?_
            refine zr_lv [zO X 51, zO X r, zI (nI s), zI (zb above), none, zI (nI i6_1)] (by simp [zle]) ?_
            exact hJ28 0 (((if_pos c28).trans ((if_pos c32).trans ((if_neg (zbf c45))))))
          · refine zr_aload_n C d_X7_heldNear_48 rfl ?_
            refine zr_aload_n C d_X7_heldNear_49 rfl ?_
            refine zr_iload C d_X7_heldNear_50 rfl ?_
            refine zr_callVi (As := [zR X r, .int (nI i6_1)]) (st := [.int s6_1]) (c := 51) C (c_Model_held X h g r i6_1 rfl hr (by omega) (hper i6_1 (by omega))) k_Model_held m949 m951 m34 (by decide) (zC_Model X _ _) rfl rfl (by decide) rfl (Nat.le_of_ble_eq_true rfl) d_X7_heldNear_52 ?_
            refine zr_goto C 59 d_X7_heldNear_55 (by decide) ?_
            refine zr_lv [zO X 51, zO X r, zI (nI s), zI (zb above), none, zI (nI i6_1)] (by simp [zle]) ?_
            exact hJ28 (o_Model_held h r i6_1) (((if_pos c28).trans ((if_pos c32).trans ((if_pos c45)))))
    intro y2 ey2
    refine zr_ior C d_X7_heldNear_59 ?_
    refine zr_istore C [zO X 51, zO X r, zI (nI s), zI (zb above), zI (s6_1 ||| y2), zI (nI i6_1)] d_X7_heldNear_60 (Nat.le_of_ble_eq_true rfl) rfl rfl ?_
    refine zr_iinc C [zO X 51, zO X r, zI (nI s), zI (zb above), zI (s6_1 ||| y2), zI (nI (i6_1 + 1))] (v := (nI (i6_1 + 1))) d_X7_heldNear_62 rfl (zn_add rfl rfl) (Nat.le_of_ble_eq_true rfl) rfl rfl ?_
    refine zr_goto C 6 d_X7_heldNear_65 (by decide) ?_
    exact hk6_1 (s6_1 ||| y2) (by subst ey2; exact rfl)
  refine zr_iload C d_X7_heldNear_6 rfl ?_
  refine zr_aload_n C d_X7_heldNear_8 rfl ?_
  refine gf_Model_2 C m755 d_X7_heldNear_9 ?_
  refine zr_icmp_ge C 68 d_X7_heldNear_12 (by decide) (fun _ => ?_) (fun c => absurd (zge_yes rfl (by omega) (by have := zcn_small (h 51 1); omega)) c)
  refine zr_iload C d_X7_heldNear_68 rfl ?_
  have eR : o_Model_heldNear h r s above = r6_1 := (by subst er6_1; unfold o_Model_heldNear; exact rfl)
  subst hQ
  rw [eR]
  exact zr_ireti C d_X7_heldNear_70
theorem d_X7_isUnsettled_0 : decode prog_9_method_30_code 0 = .ok (.aload_n 1, 1) := by decide +kernel
theorem d_X7_isUnsettled_1 : decode prog_9_method_30_code 1 = .ok (.iload_n 2, 1) := by decide +kernel
theorem d_X7_isUnsettled_2 : decode prog_9_method_30_code 2 = .ok (.iaload, 1) := by decide +kernel
theorem d_X7_isUnsettled_3 : decode prog_9_method_30_code 3 = .ok (.bipush (-9), 2) := by decide +kernel
theorem d_X7_isUnsettled_5 : decode prog_9_method_30_code 5 = .ok (.if_icmp .eq 20, 3) := by decide +kernel
theorem d_X7_isUnsettled_8 : decode prog_9_method_30_code 8 = .ok (.aload_n 0, 1) := by decide +kernel
theorem d_X7_isUnsettled_9 : decode prog_9_method_30_code 9 = .ok (.aload_n 1, 1) := by decide +kernel
theorem d_X7_isUnsettled_10 : decode prog_9_method_30_code 10 = .ok (.iload_n 2, 1) := by decide +kernel
theorem d_X7_isUnsettled_11 : decode prog_9_method_30_code 11 = .ok (.invokevirtual 131, 3) := by decide +kernel
theorem d_X7_isUnsettled_14 : decode prog_9_method_30_code 14 = .ok (.aload_n 0, 1) := by decide +kernel
theorem d_X7_isUnsettled_15 : decode prog_9_method_30_code 15 = .ok (.aload_n 1, 1) := by decide +kernel
theorem d_X7_isUnsettled_16 : decode prog_9_method_30_code 16 = .ok (.iload_n 2, 1) := by decide +kernel
theorem d_X7_isUnsettled_17 : decode prog_9_method_30_code 17 = .ok (.iconst 1, 1) := by decide +kernel
theorem d_X7_isUnsettled_18 : decode prog_9_method_30_code 18 = .ok (.invokevirtual 151, 3) := by decide +kernel
theorem d_X7_isUnsettled_21 : decode prog_9_method_30_code 21 = .ok (.iand, 1) := by decide +kernel
theorem d_X7_isUnsettled_22 : decode prog_9_method_30_code 22 = .ok (.ifCond .eq 7, 3) := by decide +kernel
theorem d_X7_isUnsettled_25 : decode prog_9_method_30_code 25 = .ok (.iconst 1, 1) := by decide +kernel
theorem d_X7_isUnsettled_26 : decode prog_9_method_30_code 26 = .ok (.goto 4, 3) := by decide +kernel
theorem d_X7_isUnsettled_29 : decode prog_9_method_30_code 29 = .ok (.iconst 0, 1) := by decide +kernel
theorem d_X7_isUnsettled_30 : decode prog_9_method_30_code 30 = .ok (.ireturn, 1) := by decide +kernel
abbrev M_Model_isUnsettled : zMT := (⟨"PeriodSlotsModel", "isUnsettled", "([II)Z"⟩, prog_9_method_30_code, 3, (some .boolean))
theorem k_Model_isUnsettled : zcall M_Model_isUnsettled 2 := ⟨zU_in (i := 938) (by decide +kernel) rfl, m62, ⟨by decide, by decide, by decide +kernel⟩, by decide⟩
def o_Model_isUnsettled (h : zHp) (r : Nat) (s : Nat) : Bool :=
  ((decide ((h r s) = (-9))) || (!(decide (((o_Model_ticks h r s) &&& (o_Model_heldNear h r s true)) = 0))))
theorem rd_Model_isUnsettled {h h2 : zHp} {r : Nat} {s : Nat} (e0 : h2 51 1 = h 51 1) (e1 : h2 53 = h 53) (e2 : h2 66 = h 66) (e3 : h2 r = h r) : o_Model_isUnsettled h2 r s = o_Model_isUnsettled h r s := by
  unfold o_Model_isUnsettled
  simp only [e0, e1, e2, e3, rd_Model_ticks e1 e3, rd_Model_heldNear e0 e1 e2 e3]

set_option maxHeartbeats 400000 in
set_option maxRecDepth 20000 in
theorem c_Model_isUnsettled (X : zXT) (h : zHp) (g : zLg) (r : Nat) (s : Nat) {x_s : Int32} (e_s : x_s = nI s) (hr : r = 54 ∨ r = 55 ∨ r = 56) (hf0 : zfit h 51 1 8) (hper : zper h) (hl2 : s < 8) (hp_s : ¬ h 53 s = 0) : zDi X M_Model_isUnsettled 4 [zR X 51, zR X r, .int x_s] h g (zI (zb (o_Model_isUnsettled h r s))) h g := by
  subst e_s
  have hf0_1 := hf0.1
  refine zDi_of "PeriodSlotsModel" prog_9_method_30_code 3 (some .boolean) rfl (by decide) [zO X 51, zO X r, zI (nI s)] rfl (fun _ q => q) (Nat.le_of_ble_eq_true rfl) ?_
  intro Γ Q C hQ
  refine zr_aload_n C d_X7_isUnsettled_0 rfl ?_
  refine zr_iload_n C d_X7_isUnsettled_1 rfl ?_
  refine zr_iald C (za_row hr) (s) rfl (by omega) (by decide) d_X7_isUnsettled_2 ?_
  refine zr_bipush C (v := (-9)) d_X7_isUnsettled_3 (by decide) ?_
  suffices hJ5 : ∀ (y1 : Bool), ((decide ((h r s) = (-9))) || (!(decide (((o_Model_ticks h r s) &&& (o_Model_heldNear h r s true)) = 0)))) = y1 → zV X Γ Q 30 [none, none, none] [.int (zb y1)] h g by
    refine zr_icmp_eq C 25 d_X7_isUnsettled_5 (by decide) (fun c5 => ?_) (fun c5 => ?_)
    · refine zr_iconst C (v := 1) d_X7_isUnsettled_25 (by decide) ?_
      refine zr_goto C 30 d_X7_isUnsettled_26 (by decide) ?_
      refine zr_lv [none, none, none] (by simp [zle]) ?_
      exact hJ5 true (by simp [c5])
    · refine zr_aload_n C d_X7_isUnsettled_8 rfl ?_
      refine zr_aload_n C d_X7_isUnsettled_9 rfl ?_
      refine zr_iload_n C d_X7_isUnsettled_10 rfl ?_
      refine zr_callVi (As := [zR X r, .int (nI s)]) (st := []) (c := 51) C (c_Model_ticks X h g r s rfl hr (by omega) hp_s) k_Model_ticks m924 m926 m30 (by decide) (zC_Model X _ _) rfl rfl (by decide) rfl (Nat.le_of_ble_eq_true rfl) d_X7_isUnsettled_11 ?_
      refine zr_aload_n C d_X7_isUnsettled_14 rfl ?_
      refine zr_aload_n C d_X7_isUnsettled_15 rfl ?_
      refine zr_iload_n C d_X7_isUnsettled_16 rfl ?_
      refine zr_iconst C (v := 1) d_X7_isUnsettled_17 (by decide) ?_
      refine zr_callVi (As := [zR X r, .int (nI s), .int 1]) (st := [.int (o_Model_ticks h r s)]) (c := 51) C (c_Model_heldNear X h g r s true rfl hr hf0 hper (by omega)) k_Model_heldNear m939 m941 m33 (by decide) (zC_Model X _ _) rfl rfl (by decide) rfl (Nat.le_of_ble_eq_true rfl) d_X7_isUnsettled_18 ?_
      refine zr_iand C d_X7_isUnsettled_21 ?_
      refine zr_if_eq C 29 d_X7_isUnsettled_22 (by decide) (fun c22 => ?_) (fun c22 => ?_)
      · refine zr_iconst C (v := 0) d_X7_isUnsettled_29 (by decide) ?_
        refine zr_lv [none, none, none] (by simp [zle]) ?_
        exact hJ5 false (by simp [c5, c22])
      · refine zr_iconst C (v := 1) d_X7_isUnsettled_25 (by decide) ?_
        refine zr_goto C 30 d_X7_isUnsettled_26 (by decide) ?_
        refine zr_lv [none, none, none] (by simp [zle]) ?_
        exact hJ5 true (by simp [c5, c22])
  intro y1 ey1
  have eR : o_Model_isUnsettled h r s = y1 := (by subst ey1; unfold o_Model_isUnsettled; exact rfl)
  subst hQ
  rw [eR]
  exact zr_iretz C (zb_01 _) d_X7_isUnsettled_30
theorem d_X7_unsettled_0 : decode prog_9_method_31_code 0 = .ok (.iconst 0, 1) := by decide +kernel
theorem d_X7_unsettled_1 : decode prog_9_method_31_code 1 = .ok (.istore_n 2, 1) := by decide +kernel
theorem d_X7_unsettled_2 : decode prog_9_method_31_code 2 = .ok (.iconst 0, 1) := by decide +kernel
theorem d_X7_unsettled_3 : decode prog_9_method_31_code 3 = .ok (.istore_n 3, 1) := by decide +kernel
theorem d_X7_unsettled_4 : decode prog_9_method_31_code 4 = .ok (.iload_n 3, 1) := by decide +kernel
theorem d_X7_unsettled_5 : decode prog_9_method_31_code 5 = .ok (.aload_n 0, 1) := by decide +kernel
theorem d_X7_unsettled_6 : decode prog_9_method_31_code 6 = .ok (.getfield 72, 3) := by decide +kernel
theorem d_X7_unsettled_9 : decode prog_9_method_31_code 9 = .ok (.if_icmp .ge 39, 3) := by decide +kernel
theorem d_X7_unsettled_12 : decode prog_9_method_31_code 12 = .ok (.iload_n 2, 1) := by decide +kernel
theorem d_X7_unsettled_13 : decode prog_9_method_31_code 13 = .ok (.aload_n 0, 1) := by decide +kernel
theorem d_X7_unsettled_14 : decode prog_9_method_31_code 14 = .ok (.getfield 135, 3) := by decide +kernel
theorem d_X7_unsettled_17 : decode prog_9_method_31_code 17 = .ok (.iload_n 3, 1) := by decide +kernel
theorem d_X7_unsettled_18 : decode prog_9_method_31_code 18 = .ok (.invokestatic 107, 3) := by decide +kernel
theorem d_X7_unsettled_21 : decode prog_9_method_31_code 21 = .ok (.ifCond .eq 18, 3) := by decide +kernel
theorem d_X7_unsettled_24 : decode prog_9_method_31_code 24 = .ok (.aload_n 0, 1) := by decide +kernel
theorem d_X7_unsettled_25 : decode prog_9_method_31_code 25 = .ok (.aload_n 1, 1) := by decide +kernel
theorem d_X7_unsettled_26 : decode prog_9_method_31_code 26 = .ok (.iload_n 3, 1) := by decide +kernel
theorem d_X7_unsettled_27 : decode prog_9_method_31_code 27 = .ok (.invokevirtual 155, 3) := by decide +kernel
theorem d_X7_unsettled_30 : decode prog_9_method_31_code 30 = .ok (.ifCond .eq 9, 3) := by decide +kernel
theorem d_X7_unsettled_33 : decode prog_9_method_31_code 33 = .ok (.iconst 1, 1) := by decide +kernel
theorem d_X7_unsettled_34 : decode prog_9_method_31_code 34 = .ok (.iload_n 3, 1) := by decide +kernel
theorem d_X7_unsettled_35 : decode prog_9_method_31_code 35 = .ok (.ishl, 1) := by decide +kernel
theorem d_X7_unsettled_36 : decode prog_9_method_31_code 36 = .ok (.goto 4, 3) := by decide +kernel
theorem d_X7_unsettled_39 : decode prog_9_method_31_code 39 = .ok (.iconst 0, 1) := by decide +kernel
theorem d_X7_unsettled_40 : decode prog_9_method_31_code 40 = .ok (.ior, 1) := by decide +kernel
theorem d_X7_unsettled_41 : decode prog_9_method_31_code 41 = .ok (.istore_n 2, 1) := by decide +kernel
theorem d_X7_unsettled_42 : decode prog_9_method_31_code 42 = .ok (.iinc 3 1, 3) := by decide +kernel
theorem d_X7_unsettled_45 : decode prog_9_method_31_code 45 = .ok (.goto (-41), 3) := by decide +kernel
theorem d_X7_unsettled_48 : decode prog_9_method_31_code 48 = .ok (.iload_n 2, 1) := by decide +kernel
theorem d_X7_unsettled_49 : decode prog_9_method_31_code 49 = .ok (.ireturn, 1) := by decide +kernel
abbrev M_Model_unsettled : zMT := (⟨"PeriodSlotsModel", "unsettled", "([I)I"⟩, prog_9_method_31_code, 4, (some .int))
theorem k_Model_unsettled : zcall M_Model_unsettled 1 := ⟨zU_in (i := 934) (by decide +kernel) rfl, m62, ⟨by decide, by decide, by decide +kernel⟩, by decide⟩
def o_Model_unsettled (h : zHp) (r : Nat) : Int32 :=
  (zrep (fun (i4_1 : Nat) (s4_1 : Int32) => (s4_1 ||| (if (o_Model_has (h 51 9) (nI i4_1)) = true then (if (o_Model_isUnsettled h r i4_1) = true then (zshl 1 (nI i4_1)) else 0) else 0))) 0 (zcn (h 51 1)))
theorem rd_Model_unsettled {h h2 : zHp} {r : Nat} (e0 : h2 51 1 = h 51 1) (e1 : h2 51 9 = h 51 9) (e2 : h2 53 = h 53) (e3 : h2 66 = h 66) (e4 : h2 r = h r) : o_Model_unsettled h2 r = o_Model_unsettled h r := by
  unfold o_Model_unsettled
  simp only [e0, e1, e2, e3, e4, rd_Model_isUnsettled e0 e2 e3 e4]

set_option maxHeartbeats 400000 in
set_option maxRecDepth 20000 in
theorem c_Model_unsettled (X : zXT) (h : zHp) (g : zLg) (r : Nat) (hr : r = 54 ∨ r = 55 ∨ r = 56) (hf0 : zfit h 51 1 8) (hper : zper h) : zDi X M_Model_unsettled 5 [zR X 51, zR X r] h g (zI (o_Model_unsettled h r)) h g := by
  have hf0_1 := hf0.1
  refine zDi_of "PeriodSlotsModel" prog_9_method_31_code 4 (some .int) rfl (by decide) [zO X 51, zO X r, none, none] rfl (fun _ q => q) (Nat.le_of_ble_eq_true rfl) ?_
  intro Γ Q C hQ
  refine zr_iconst C (v := 0) d_X7_unsettled_0 (by decide) ?_
  refine zr_istore_n C [zO X 51, zO X r, zI 0, none] d_X7_unsettled_1 (Nat.le_of_ble_eq_true rfl) rfl rfl ?_
  refine zr_iconst C (v := 0) d_X7_unsettled_2 (by decide) ?_
  refine zr_istore_n C [zO X 51, zO X r, zI 0, zI 0] d_X7_unsettled_3 (Nat.le_of_ble_eq_true rfl) rfl rfl ?_
  refine zfor (f := (fun (i4_1 : Nat) (s4_1 : Int32) => (s4_1 ||| (if (o_Model_has (h 51 9) (nI i4_1)) = true then (if (o_Model_isUnsettled h r i4_1) = true then (zshl 1 (nI i4_1)) else 0) else 0)))) (a := 0) (fun i4_1 s4_1 => zV X Γ Q 4 [zO X 51, zO X r, zI s4_1, zI (nI i4_1)] [] h g) (fun _ _ => True) (zcn (h 51 1)) trivial (fun i4_1 s4_1 hi4_1 hI4_1 => ⟨trivial, fun hk4_1 => ?_⟩) (fun r4_1 er4_1 hI4_1 => ?_)
  · refine zr_iload_n C d_X7_unsettled_4 rfl ?_
    refine zr_aload_n C d_X7_unsettled_5 rfl ?_
    refine gf_Model_2 C m755 d_X7_unsettled_6 ?_
    refine zr_icmp_ge C 48 d_X7_unsettled_9 (by decide) (fun c => absurd c (zge_no rfl (by omega))) (fun _ => ?_)
    refine zr_iload_n C d_X7_unsettled_12 rfl ?_
    refine zr_aload_n C d_X7_unsettled_13 rfl ?_
    refine gf_Model_24 C m777 d_X7_unsettled_14 ?_
    refine zr_iload_n C d_X7_unsettled_17 rfl ?_
    refine zr_callSi (As := [.int (h 51 9), .int (nI i4_1)]) (st := [.int s4_1]) C (c_Model_has X h g (h 51 9) (nI i4_1)) k_Model_has m890 m891 rfl (by decide) rfl (Nat.le_of_ble_eq_true rfl) d_X7_unsettled_18 ?_
    suffices hJ21 : ∀ (y2 : Int32), (if (o_Model_has (h 51 9) (nI i4_1)) = true then (if (o_Model_isUnsettled h r i4_1) = true then (zshl 1 (nI i4_1)) else 0) else 0) = y2 → zV X Γ Q 40 [zO X 51, zO X r, none, zI (nI i4_1)] [.int y2, .int s4_1] h g by
      refine zr_ifz_eq C 39 d_X7_unsettled_21 (by decide) (fun c21 => ?_) (fun c21 => ?_)
      · refine zr_iconst C (v := 0) d_X7_unsettled_39 (by decide) ?_
        refine zr_lv [zO X 51, zO X r, none, zI (nI i4_1)] (by simp [zle]) ?_
        exact hJ21 0 (((if_neg (zbf c21))))
      · refine zr_aload_n C d_X7_unsettled_24 rfl ?_
        refine zr_aload_n C d_X7_unsettled_25 rfl ?_
        refine zr_iload_n C d_X7_unsettled_26 rfl ?_
        refine zr_callVi (As := [zR X r, .int (nI i4_1)]) (st := [.int s4_1]) (c := 51) C (c_Model_isUnsettled X h g r i4_1 rfl hr hf0 hper (by omega) (hper i4_1 (by omega))) k_Model_isUnsettled m935 m937 m32 (by decide) (zC_Model X _ _) rfl rfl (by decide) rfl (Nat.le_of_ble_eq_true rfl) d_X7_unsettled_27 ?_
        refine zr_ifz_eq C 39 d_X7_unsettled_30 (by decide) (fun c30 => ?_) (fun c30 => ?_)
        · refine zr_iconst C (v := 0) d_X7_unsettled_39 (by decide) ?_
          refine zr_lv [zO X 51, zO X r, none, zI (nI i4_1)] (by simp [zle]) ?_
          exact hJ21 0 (((if_pos c21).trans ((if_neg (zbf c30)))))
        · refine zr_iconst C (v := 1) d_X7_unsettled_33 (by decide) ?_
          refine zr_iload_n C d_X7_unsettled_34 rfl ?_
          refine zr_ishl C d_X7_unsettled_35 ?_
          refine zr_goto C 40 d_X7_unsettled_36 (by decide) ?_
          refine zr_lv [zO X 51, zO X r, none, zI (nI i4_1)] (by simp [zle]) ?_
          exact hJ21 (zshl 1 (nI i4_1)) (((if_pos c21).trans ((if_pos c30))))
    intro y2 ey2
    refine zr_ior C d_X7_unsettled_40 ?_
    refine zr_istore_n C [zO X 51, zO X r, zI (s4_1 ||| y2), zI (nI i4_1)] d_X7_unsettled_41 (Nat.le_of_ble_eq_true rfl) rfl rfl ?_
    refine zr_iinc C [zO X 51, zO X r, zI (s4_1 ||| y2), zI (nI (i4_1 + 1))] (v := (nI (i4_1 + 1))) d_X7_unsettled_42 rfl (zn_add rfl rfl) (Nat.le_of_ble_eq_true rfl) rfl rfl ?_
    refine zr_goto C 4 d_X7_unsettled_45 (by decide) ?_
    exact hk4_1 (s4_1 ||| y2) (by subst ey2; exact rfl)
  refine zr_iload_n C d_X7_unsettled_4 rfl ?_
  refine zr_aload_n C d_X7_unsettled_5 rfl ?_
  refine gf_Model_2 C m755 d_X7_unsettled_6 ?_
  refine zr_icmp_ge C 48 d_X7_unsettled_9 (by decide) (fun _ => ?_) (fun c => absurd (zge_yes rfl (by omega) (by have := zcn_small (h 51 1); omega)) c)
  refine zr_iload_n C d_X7_unsettled_48 rfl ?_
  have eR : o_Model_unsettled h r = r4_1 := (by subst er4_1; unfold o_Model_unsettled; exact rfl)
  subst hQ
  rw [eR]
  exact zr_ireti C d_X7_unsettled_49
theorem d_X7_free_0 : decode prog_9_method_32_code 0 = .ok (.aload_n 0, 1) := by decide +kernel
theorem d_X7_free_1 : decode prog_9_method_32_code 1 = .ok (.aload_n 1, 1) := by decide +kernel
theorem d_X7_free_2 : decode prog_9_method_32_code 2 = .ok (.iload_n 2, 1) := by decide +kernel
theorem d_X7_free_3 : decode prog_9_method_32_code 3 = .ok (.iconst 0, 1) := by decide +kernel
theorem d_X7_free_4 : decode prog_9_method_32_code 4 = .ok (.invokevirtual 151, 3) := by decide +kernel
theorem d_X7_free_7 : decode prog_9_method_32_code 7 = .ok (.istore_n 3, 1) := by decide +kernel
theorem d_X7_free_8 : decode prog_9_method_32_code 8 = .ok (.iconst 0, 1) := by decide +kernel
theorem d_X7_free_9 : decode prog_9_method_32_code 9 = .ok (.istore 4, 2) := by decide +kernel
theorem d_X7_free_11 : decode prog_9_method_32_code 11 = .ok (.iconst 0, 1) := by decide +kernel
theorem d_X7_free_12 : decode prog_9_method_32_code 12 = .ok (.istore 5, 2) := by decide +kernel
theorem d_X7_free_14 : decode prog_9_method_32_code 14 = .ok (.iload 5, 2) := by decide +kernel
theorem d_X7_free_16 : decode prog_9_method_32_code 16 = .ok (.aload_n 0, 1) := by decide +kernel
theorem d_X7_free_17 : decode prog_9_method_32_code 17 = .ok (.getfield 13, 3) := by decide +kernel
theorem d_X7_free_20 : decode prog_9_method_32_code 20 = .ok (.iload_n 2, 1) := by decide +kernel
theorem d_X7_free_21 : decode prog_9_method_32_code 21 = .ok (.iaload, 1) := by decide +kernel
theorem d_X7_free_22 : decode prog_9_method_32_code 22 = .ok (.if_icmp .ge 38, 3) := by decide +kernel
theorem d_X7_free_25 : decode prog_9_method_32_code 25 = .ok (.iload 4, 2) := by decide +kernel
theorem d_X7_free_27 : decode prog_9_method_32_code 27 = .ok (.iload 5, 2) := by decide +kernel
theorem d_X7_free_29 : decode prog_9_method_32_code 29 = .ok (.aload_n 0, 1) := by decide +kernel
theorem d_X7_free_30 : decode prog_9_method_32_code 30 = .ok (.getfield 13, 3) := by decide +kernel
theorem d_X7_free_33 : decode prog_9_method_32_code 33 = .ok (.iload_n 2, 1) := by decide +kernel
theorem d_X7_free_34 : decode prog_9_method_32_code 34 = .ok (.iaload, 1) := by decide +kernel
theorem d_X7_free_35 : decode prog_9_method_32_code 35 = .ok (.invokestatic 127, 3) := by decide +kernel
theorem d_X7_free_38 : decode prog_9_method_32_code 38 = .ok (.iload_n 3, 1) := by decide +kernel
theorem d_X7_free_39 : decode prog_9_method_32_code 39 = .ok (.iand, 1) := by decide +kernel
theorem d_X7_free_40 : decode prog_9_method_32_code 40 = .ok (.ifCond .ne 10, 3) := by decide +kernel
theorem d_X7_free_43 : decode prog_9_method_32_code 43 = .ok (.iconst 1, 1) := by decide +kernel
theorem d_X7_free_44 : decode prog_9_method_32_code 44 = .ok (.iload 5, 2) := by decide +kernel
theorem d_X7_free_46 : decode prog_9_method_32_code 46 = .ok (.ishl, 1) := by decide +kernel
theorem d_X7_free_47 : decode prog_9_method_32_code 47 = .ok (.goto 4, 3) := by decide +kernel
theorem d_X7_free_50 : decode prog_9_method_32_code 50 = .ok (.iconst 0, 1) := by decide +kernel
theorem d_X7_free_51 : decode prog_9_method_32_code 51 = .ok (.ior, 1) := by decide +kernel
theorem d_X7_free_52 : decode prog_9_method_32_code 52 = .ok (.istore 4, 2) := by decide +kernel
theorem d_X7_free_54 : decode prog_9_method_32_code 54 = .ok (.iinc 5 1, 3) := by decide +kernel
theorem d_X7_free_57 : decode prog_9_method_32_code 57 = .ok (.goto (-43), 3) := by decide +kernel
theorem d_X7_free_60 : decode prog_9_method_32_code 60 = .ok (.iload 4, 2) := by decide +kernel
theorem d_X7_free_62 : decode prog_9_method_32_code 62 = .ok (.ireturn, 1) := by decide +kernel
abbrev M_Model_free : zMT := (⟨"PeriodSlotsModel", "free", "([II)I"⟩, prog_9_method_32_code, 6, (some .int))
theorem k_Model_free : zcall M_Model_free 2 := ⟨zU_in (i := 964) (by decide +kernel) rfl, m62, ⟨by decide, by decide, by decide +kernel⟩, by decide⟩
def o_Model_free (h : zHp) (r : Nat) (s : Nat) : Int32 :=
  (zrep (fun (i14_1 : Nat) (s14_1 : Int32) => (s14_1 ||| (if ((o_Model_ticksOf (nI i14_1) (h 53 s)) &&& (o_Model_heldNear h r s false)) = 0 then (zshl 1 (nI i14_1)) else 0))) 0 (zcn (h 53 s)))
theorem rd_Model_free {h h2 : zHp} {r : Nat} {s : Nat} (e0 : h2 51 1 = h 51 1) (e1 : h2 53 = h 53) (e2 : h2 66 = h 66) (e3 : h2 r = h r) : o_Model_free h2 r s = o_Model_free h r s := by
  unfold o_Model_free
  simp only [e0, e1, e2, e3, rd_Model_heldNear e0 e1 e2 e3]

set_option maxHeartbeats 400000 in
set_option maxRecDepth 20000 in
theorem c_Model_free (X : zXT) (h : zHp) (g : zLg) (r : Nat) (s : Nat) {x_s : Int32} (e_s : x_s = nI s) (hr : r = 54 ∨ r = 55 ∨ r = 56) (hf0 : zfit h 51 1 8) (hper : zper h) (hl2 : s < 8) (hp_s : ¬ h 53 s = 0) : zDi X M_Model_free 4 [zR X 51, zR X r, .int x_s] h g (zI (o_Model_free h r s)) h g := by
  subst e_s
  have hf0_1 := hf0.1
  refine zDi_of "PeriodSlotsModel" prog_9_method_32_code 6 (some .int) rfl (by decide) [zO X 51, zO X r, zI (nI s), none, none, none] rfl (fun _ q => q) (Nat.le_of_ble_eq_true rfl) ?_
  intro Γ Q C hQ
  refine zr_aload_n C d_X7_free_0 rfl ?_
  refine zr_aload_n C d_X7_free_1 rfl ?_
  refine zr_iload_n C d_X7_free_2 rfl ?_
  refine zr_iconst C (v := 0) d_X7_free_3 (by decide) ?_
  refine zr_callVi (As := [zR X r, .int (nI s), .int 0]) (st := []) (c := 51) C (c_Model_heldNear X h g r s false rfl hr hf0 hper (by omega)) k_Model_heldNear m939 m941 m33 (by decide) (zC_Model X _ _) rfl rfl (by decide) rfl (Nat.le_of_ble_eq_true rfl) d_X7_free_4 ?_
  refine zr_istore_n C [zO X 51, zO X r, zI (nI s), zI (o_Model_heldNear h r s false), none, none] d_X7_free_7 (Nat.le_of_ble_eq_true rfl) rfl rfl ?_
  refine zr_iconst C (v := 0) d_X7_free_8 (by decide) ?_
  refine zr_istore C [zO X 51, zO X r, zI (nI s), zI (o_Model_heldNear h r s false), zI 0, none] d_X7_free_9 (Nat.le_of_ble_eq_true rfl) rfl rfl ?_
  refine zr_iconst C (v := 0) d_X7_free_11 (by decide) ?_
  refine zr_istore C [zO X 51, zO X r, zI (nI s), zI (o_Model_heldNear h r s false), zI 0, zI 0] d_X7_free_12 (Nat.le_of_ble_eq_true rfl) rfl rfl ?_
  refine zr_lv [zO X 51, none, zI (nI s), zI (o_Model_heldNear h r s false), zI 0, zI 0] (by simp [zle]) ?_
  refine zfor (f := (fun (i14_1 : Nat) (s14_1 : Int32) => (s14_1 ||| (if ((o_Model_ticksOf (nI i14_1) (h 53 s)) &&& (o_Model_heldNear h r s false)) = 0 then (zshl 1 (nI i14_1)) else 0)))) (a := 0) (fun i14_1 s14_1 => zV X Γ Q 14 [zO X 51, none, zI (nI s), zI (o_Model_heldNear h r s false), zI s14_1, zI (nI i14_1)] [] h g) (fun _ _ => True) (zcn (h 53 s)) trivial (fun i14_1 s14_1 hi14_1 hI14_1 => ⟨trivial, fun hk14_1 => ?_⟩) (fun r14_1 er14_1 hI14_1 => ?_)
  · refine zr_iload C d_X7_free_14 rfl ?_
    refine zr_aload_n C d_X7_free_16 rfl ?_
    refine gf_Model_3 C m756 d_X7_free_17 ?_
    refine zr_iload_n C d_X7_free_20 rfl ?_
    refine zr_iald C za_53 (s) rfl (by omega) (by decide) d_X7_free_21 ?_
    refine zr_icmp_ge C 60 d_X7_free_22 (by decide) (fun c => absurd c (zge_no rfl (by omega))) (fun _ => ?_)
    refine zr_iload C d_X7_free_25 rfl ?_
    refine zr_iload C d_X7_free_27 rfl ?_
    refine zr_aload_n C d_X7_free_29 rfl ?_
    refine gf_Model_3 C m756 d_X7_free_30 ?_
    refine zr_iload_n C d_X7_free_33 rfl ?_
    refine zr_iald C za_53 (s) rfl (by omega) (by decide) d_X7_free_34 ?_
    refine zr_callSi (As := [.int (nI i14_1), .int (h 53 s)]) (st := [.int s14_1]) C (c_Model_ticksOf X h g (nI i14_1) (h 53 s) hp_s) k_Model_ticksOf m928 m929 rfl (by decide) rfl (Nat.le_of_ble_eq_true rfl) d_X7_free_35 ?_
    refine zr_iload_n C d_X7_free_38 rfl ?_
    refine zr_iand C d_X7_free_39 ?_
    suffices hJ40 : ∀ (y2 : Int32), (if ((o_Model_ticksOf (nI i14_1) (h 53 s)) &&& (o_Model_heldNear h r s false)) = 0 then (zshl 1 (nI i14_1)) else 0) = y2 → zV X Γ Q 51 [zO X 51, none, zI (nI s), zI (o_Model_heldNear h r s false), none, zI (nI i14_1)] [.int y2, .int s14_1] h g by
      refine zr_if_ne C 50 d_X7_free_40 (by decide) (fun c40 => ?_) (fun c40 => ?_)
      · refine zr_iconst C (v := 0) d_X7_free_50 (by decide) ?_
        refine zr_lv [zO X 51, none, zI (nI s), zI (o_Model_heldNear h r s false), none, zI (nI i14_1)] (by simp [zle]) ?_
        exact hJ40 0 (((if_neg c40)))
      · refine zr_iconst C (v := 1) d_X7_free_43 (by decide) ?_
        refine zr_iload C d_X7_free_44 rfl ?_
        refine zr_ishl C d_X7_free_46 ?_
        refine zr_goto C 51 d_X7_free_47 (by decide) ?_
        refine zr_lv [zO X 51, none, zI (nI s), zI (o_Model_heldNear h r s false), none, zI (nI i14_1)] (by simp [zle]) ?_
        exact hJ40 (zshl 1 (nI i14_1)) (((if_pos c40)))
    intro y2 ey2
    refine zr_ior C d_X7_free_51 ?_
    refine zr_istore C [zO X 51, none, zI (nI s), zI (o_Model_heldNear h r s false), zI (s14_1 ||| y2), zI (nI i14_1)] d_X7_free_52 (Nat.le_of_ble_eq_true rfl) rfl rfl ?_
    refine zr_iinc C [zO X 51, none, zI (nI s), zI (o_Model_heldNear h r s false), zI (s14_1 ||| y2), zI (nI (i14_1 + 1))] (v := (nI (i14_1 + 1))) d_X7_free_54 rfl (zn_add rfl rfl) (Nat.le_of_ble_eq_true rfl) rfl rfl ?_
    refine zr_goto C 14 d_X7_free_57 (by decide) ?_
    exact hk14_1 (s14_1 ||| y2) (by subst ey2; exact rfl)
  refine zr_iload C d_X7_free_14 rfl ?_
  refine zr_aload_n C d_X7_free_16 rfl ?_
  refine gf_Model_3 C m756 d_X7_free_17 ?_
  refine zr_iload_n C d_X7_free_20 rfl ?_
  refine zr_iald C za_53 (s) rfl (by omega) (by decide) d_X7_free_21 ?_
  refine zr_icmp_ge C 60 d_X7_free_22 (by decide) (fun _ => ?_) (fun c => absurd (zge_yes rfl (by omega) (by have := zcn_small (h 53 s); omega)) c)
  refine zr_iload C d_X7_free_60 rfl ?_
  have eR : o_Model_free h r s = r14_1 := (by subst er14_1; unfold o_Model_free; exact rfl)
  subst hQ
  rw [eR]
  exact zr_ireti C d_X7_free_62
theorem d_X7_leastOf_0 : decode prog_9_method_33_code 0 = .ok (.iconst 0, 1) := by decide +kernel
theorem d_X7_leastOf_1 : decode prog_9_method_33_code 1 = .ok (.istore_n 1, 1) := by decide +kernel
theorem d_X7_leastOf_2 : decode prog_9_method_33_code 2 = .ok (.iload_n 1, 1) := by decide +kernel
theorem d_X7_leastOf_3 : decode prog_9_method_33_code 3 = .ok (.bipush 8, 2) := by decide +kernel
theorem d_X7_leastOf_5 : decode prog_9_method_33_code 5 = .ok (.if_icmp .ge 17, 3) := by decide +kernel
theorem d_X7_leastOf_8 : decode prog_9_method_33_code 8 = .ok (.iload_n 0, 1) := by decide +kernel
theorem d_X7_leastOf_9 : decode prog_9_method_33_code 9 = .ok (.iload_n 1, 1) := by decide +kernel
theorem d_X7_leastOf_10 : decode prog_9_method_33_code 10 = .ok (.invokestatic 107, 3) := by decide +kernel
theorem d_X7_leastOf_13 : decode prog_9_method_33_code 13 = .ok (.ifCond .ne 9, 3) := by decide +kernel
theorem d_X7_leastOf_16 : decode prog_9_method_33_code 16 = .ok (.iinc 1 1, 3) := by decide +kernel
theorem d_X7_leastOf_19 : decode prog_9_method_33_code 19 = .ok (.goto (-17), 3) := by decide +kernel
theorem d_X7_leastOf_22 : decode prog_9_method_33_code 22 = .ok (.iload_n 1, 1) := by decide +kernel
theorem d_X7_leastOf_23 : decode prog_9_method_33_code 23 = .ok (.bipush 8, 2) := by decide +kernel
theorem d_X7_leastOf_25 : decode prog_9_method_33_code 25 = .ok (.if_icmp .ne 8, 3) := by decide +kernel
theorem d_X7_leastOf_28 : decode prog_9_method_33_code 28 = .ok (.bipush (-9), 2) := by decide +kernel
theorem d_X7_leastOf_30 : decode prog_9_method_33_code 30 = .ok (.goto 4, 3) := by decide +kernel
theorem d_X7_leastOf_33 : decode prog_9_method_33_code 33 = .ok (.iload_n 1, 1) := by decide +kernel
theorem d_X7_leastOf_34 : decode prog_9_method_33_code 34 = .ok (.ireturn, 1) := by decide +kernel
abbrev M_Model_leastOf : zMT := (⟨"PeriodSlotsModel", "leastOf", "(I)I"⟩, prog_9_method_33_code, 2, (some .int))
theorem k_Model_leastOf : zcall M_Model_leastOf 1 := ⟨zU_in (i := 975) (by decide +kernel) rfl, m62, ⟨by decide, by decide, by decide +kernel⟩, by decide⟩
def o_Model_leastOf (set : Int32) : Int32 :=
  (Sum.elim (fun r2_1 => (if (nI 8) = 8 then (-9) else (nI 8))) (fun q2_1 => (if q2_1 = 8 then (-9) else q2_1)) (zrex (fun (i2_1 : Nat) (s2_1 : Unit) => ((if (o_Model_has set (nI i2_1)) = true then .inr (nI i2_1) else .inl ()) : (Unit) ⊕ (Int32))) () 8))
set_option maxHeartbeats 400000 in
set_option maxRecDepth 20000 in
theorem c_Model_leastOf (X : zXT) (h : zHp) (g : zLg) (set : Int32) : zDi X M_Model_leastOf 1 [.int set] h g (zI (o_Model_leastOf set)) h g := by
  refine zDi_of "PeriodSlotsModel" prog_9_method_33_code 2 (some .int) rfl (by decide) [zI set, none] rfl (fun _ q => q) (Nat.le_of_ble_eq_true rfl) ?_
  intro Γ Q C hQ
  refine zr_iconst C (v := 0) d_X7_leastOf_0 (by decide) ?_
  refine zr_istore_n C [zI set, zI 0] d_X7_leastOf_1 (Nat.le_of_ble_eq_true rfl) rfl rfl ?_
  refine zforx (f := (fun (i2_1 : Nat) (s2_1 : Unit) => ((if (o_Model_has set (nI i2_1)) = true then .inr (nI i2_1) else .inl ()) : (Unit) ⊕ (Int32)))) (a := ()) (fun i2_1 s2_1 => zV X Γ Q 2 [zI set, zI (nI i2_1)] [] h g) (fun _ _ => True) (8) trivial (fun i2_1 s2_1 hi2_1 hI2_1 => ⟨(fun _ _ => trivial), fun hk2_1 hx2_1 => ?_⟩) (fun r2_1 er2_1 hI2_1 => ?_)
  · refine zr_iload_n C d_X7_leastOf_2 rfl ?_
    refine zr_bipush C (v := 8) d_X7_leastOf_3 (by decide) ?_
    refine zr_icmp_ge C 22 d_X7_leastOf_5 (by decide) (fun c => absurd c (zge_noN (B := 8) rfl (by omega) (by omega))) (fun _ => ?_)
    refine zr_iload_n C d_X7_leastOf_8 rfl ?_
    refine zr_iload_n C d_X7_leastOf_9 rfl ?_
    refine zr_callSi (As := [.int set, .int (nI i2_1)]) (st := []) C (c_Model_has X h g set (nI i2_1)) k_Model_has m890 m891 rfl (by decide) rfl (Nat.le_of_ble_eq_true rfl) d_X7_leastOf_10 ?_
    refine zr_ifz_ne C 22 d_X7_leastOf_13 (by decide) (fun c13 => ?_) (fun c13 => ?_)
    · have hr2_1 := hx2_1 (nI i2_1) ((if_pos c13))
      refine zr_iload_n C d_X7_leastOf_22 rfl ?_
      refine zr_bipush C (v := 8) d_X7_leastOf_23 (by decide) ?_
      suffices hJ25 : ∀ (y4 : Int32), (if (nI i2_1) = 8 then (-9) else (nI i2_1)) = y4 → zV X Γ Q 34 [none, none] [.int y4] h g by
        refine zr_icmp_ne C 33 d_X7_leastOf_25 (by decide) (fun c25 => ?_) (fun c25 => ?_)
        · have en2 := zn_ne (a := i2_1) (b := 8) rfl rfl c25 (by omega) (by decide)
          refine zr_iload_n C d_X7_leastOf_33 rfl ?_
          refine zr_lv [none, none] (by simp [zle]) ?_
          exact hJ25 (nI i2_1) (((if_neg c25)))
        · have en3 := zn_nne (a := i2_1) (b := 8) rfl rfl c25 (by omega) (by decide)
          refine zr_bipush C (v := (-9)) d_X7_leastOf_28 (by decide) ?_
          refine zr_goto C 34 d_X7_leastOf_30 (by decide) ?_
          refine zr_lv [none, none] (by simp [zle]) ?_
          exact hJ25 (-9) (((if_pos c25)))
      intro y4 ey4
      have eR : o_Model_leastOf set = y4 := (by subst ey4; unfold o_Model_leastOf; exact ((congrArg (Sum.elim _ _) hr2_1)))
      subst hQ
      rw [eR]
      exact zr_ireti C d_X7_leastOf_34
    · refine zr_iinc C [zI set, zI (nI (i2_1 + 1))] (v := (nI (i2_1 + 1))) d_X7_leastOf_16 rfl (zn_add rfl rfl) (Nat.le_of_ble_eq_true rfl) rfl rfl ?_
      refine zr_goto C 2 d_X7_leastOf_19 (by decide) ?_
      exact hk2_1 () ((if_neg (zbf c13)))
  refine zr_iload_n C d_X7_leastOf_2 rfl ?_
  refine zr_bipush C (v := 8) d_X7_leastOf_3 (by decide) ?_
  refine zr_icmp_ge C 22 d_X7_leastOf_5 (by decide) (fun _ => ?_) (fun c => absurd (zge_yesN (B := 8) rfl (by omega) (by omega)) c)
  refine zr_iload_n C d_X7_leastOf_22 rfl ?_
  refine zr_bipush C (v := 8) d_X7_leastOf_23 (by decide) ?_
  suffices hJ25 : ∀ (y6 : Int32), (if (nI 8) = 8 then (-9) else (nI 8)) = y6 → zV X Γ Q 34 [none, none] [.int y6] h g by
    refine zr_icmp_ne C 33 d_X7_leastOf_25 (by decide) (fun c25 => ?_) (fun c25 => ?_)
    · refine zr_iload_n C d_X7_leastOf_33 rfl ?_
      refine zr_lv [none, none] (by simp [zle]) ?_
      exact hJ25 (nI 8) (((if_neg c25)))
    · refine zr_bipush C (v := (-9)) d_X7_leastOf_28 (by decide) ?_
      refine zr_goto C 34 d_X7_leastOf_30 (by decide) ?_
      refine zr_lv [none, none] (by simp [zle]) ?_
      exact hJ25 (-9) (((if_pos c25)))
  intro y6 ey6
  have eR : o_Model_leastOf set = y6 := (by subst ey6; unfold o_Model_leastOf; exact ((congrArg (Sum.elim _ _) er2_1)))
  subst hQ
  rw [eR]
  exact zr_ireti C d_X7_leastOf_34
theorem d_X7_clashes_0 : decode prog_9_method_34_code 0 = .ok (.aload_n 0, 1) := by decide +kernel
theorem d_X7_clashes_1 : decode prog_9_method_34_code 1 = .ok (.aload_n 1, 1) := by decide +kernel
theorem d_X7_clashes_2 : decode prog_9_method_34_code 2 = .ok (.aload_n 0, 1) := by decide +kernel
theorem d_X7_clashes_3 : decode prog_9_method_34_code 3 = .ok (.invokevirtual 159, 3) := by decide +kernel
theorem d_X7_clashes_6 : decode prog_9_method_34_code 6 = .ok (.invokevirtual 162, 3) := by decide +kernel
theorem d_X7_clashes_9 : decode prog_9_method_34_code 9 = .ok (.iconst 0, 1) := by decide +kernel
theorem d_X7_clashes_10 : decode prog_9_method_34_code 10 = .ok (.istore_n 2, 1) := by decide +kernel
theorem d_X7_clashes_11 : decode prog_9_method_34_code 11 = .ok (.iconst 0, 1) := by decide +kernel
theorem d_X7_clashes_12 : decode prog_9_method_34_code 12 = .ok (.istore_n 3, 1) := by decide +kernel
theorem d_X7_clashes_13 : decode prog_9_method_34_code 13 = .ok (.iload_n 3, 1) := by decide +kernel
theorem d_X7_clashes_14 : decode prog_9_method_34_code 14 = .ok (.aload_n 0, 1) := by decide +kernel
theorem d_X7_clashes_15 : decode prog_9_method_34_code 15 = .ok (.getfield 72, 3) := by decide +kernel
theorem d_X7_clashes_18 : decode prog_9_method_34_code 18 = .ok (.if_icmp .ge 63, 3) := by decide +kernel
theorem d_X7_clashes_21 : decode prog_9_method_34_code 21 = .ok (.iconst 0, 1) := by decide +kernel
theorem d_X7_clashes_22 : decode prog_9_method_34_code 22 = .ok (.istore 4, 2) := by decide +kernel
theorem d_X7_clashes_24 : decode prog_9_method_34_code 24 = .ok (.iload 4, 2) := by decide +kernel
theorem d_X7_clashes_26 : decode prog_9_method_34_code 26 = .ok (.iload_n 3, 1) := by decide +kernel
theorem d_X7_clashes_27 : decode prog_9_method_34_code 27 = .ok (.if_icmp .ge 48, 3) := by decide +kernel
theorem d_X7_clashes_30 : decode prog_9_method_34_code 30 = .ok (.iload_n 2, 1) := by decide +kernel
theorem d_X7_clashes_31 : decode prog_9_method_34_code 31 = .ok (.aload_n 0, 1) := by decide +kernel
theorem d_X7_clashes_32 : decode prog_9_method_34_code 32 = .ok (.getfield 53, 3) := by decide +kernel
theorem d_X7_clashes_35 : decode prog_9_method_34_code 35 = .ok (.iload_n 3, 1) := by decide +kernel
theorem d_X7_clashes_36 : decode prog_9_method_34_code 36 = .ok (.iaload, 1) := by decide +kernel
theorem d_X7_clashes_37 : decode prog_9_method_34_code 37 = .ok (.iload 4, 2) := by decide +kernel
theorem d_X7_clashes_39 : decode prog_9_method_34_code 39 = .ok (.invokestatic 107, 3) := by decide +kernel
theorem d_X7_clashes_42 : decode prog_9_method_34_code 42 = .ok (.ifCond .eq 24, 3) := by decide +kernel
theorem d_X7_clashes_45 : decode prog_9_method_34_code 45 = .ok (.aload_n 0, 1) := by decide +kernel
theorem d_X7_clashes_46 : decode prog_9_method_34_code 46 = .ok (.aload_n 1, 1) := by decide +kernel
theorem d_X7_clashes_47 : decode prog_9_method_34_code 47 = .ok (.iload_n 3, 1) := by decide +kernel
theorem d_X7_clashes_48 : decode prog_9_method_34_code 48 = .ok (.invokevirtual 131, 3) := by decide +kernel
theorem d_X7_clashes_51 : decode prog_9_method_34_code 51 = .ok (.aload_n 0, 1) := by decide +kernel
theorem d_X7_clashes_52 : decode prog_9_method_34_code 52 = .ok (.aload_n 1, 1) := by decide +kernel
theorem d_X7_clashes_53 : decode prog_9_method_34_code 53 = .ok (.iload 4, 2) := by decide +kernel
theorem d_X7_clashes_55 : decode prog_9_method_34_code 55 = .ok (.invokevirtual 131, 3) := by decide +kernel
theorem d_X7_clashes_58 : decode prog_9_method_34_code 58 = .ok (.iand, 1) := by decide +kernel
theorem d_X7_clashes_59 : decode prog_9_method_34_code 59 = .ok (.ifCond .eq 7, 3) := by decide +kernel
theorem d_X7_clashes_62 : decode prog_9_method_34_code 62 = .ok (.iconst 1, 1) := by decide +kernel
theorem d_X7_clashes_63 : decode prog_9_method_34_code 63 = .ok (.goto 4, 3) := by decide +kernel
theorem d_X7_clashes_66 : decode prog_9_method_34_code 66 = .ok (.iconst 0, 1) := by decide +kernel
theorem d_X7_clashes_67 : decode prog_9_method_34_code 67 = .ok (.iadd, 1) := by decide +kernel
theorem d_X7_clashes_68 : decode prog_9_method_34_code 68 = .ok (.istore_n 2, 1) := by decide +kernel
theorem d_X7_clashes_69 : decode prog_9_method_34_code 69 = .ok (.iinc 4 1, 3) := by decide +kernel
theorem d_X7_clashes_72 : decode prog_9_method_34_code 72 = .ok (.goto (-48), 3) := by decide +kernel
theorem d_X7_clashes_75 : decode prog_9_method_34_code 75 = .ok (.iinc 3 1, 3) := by decide +kernel
theorem d_X7_clashes_78 : decode prog_9_method_34_code 78 = .ok (.goto (-65), 3) := by decide +kernel
theorem d_X7_clashes_81 : decode prog_9_method_34_code 81 = .ok (.iload_n 2, 1) := by decide +kernel
theorem d_X7_clashes_82 : decode prog_9_method_34_code 82 = .ok (.ireturn, 1) := by decide +kernel
abbrev M_Model_clashes : zMT := (⟨"PeriodSlotsModel", "clashes", "([I)I"⟩, prog_9_method_34_code, 5, (some .int))
theorem k_Model_clashes : zcall M_Model_clashes 1 := ⟨zU_in (i := 923) (by decide +kernel) rfl, m62, ⟨by decide, by decide, by decide +kernel⟩, by decide⟩
def o_Model_clashes (h : zHp) (r : Nat) : Int32 × zHp :=
  ((zrep (fun (i13_2 : Nat) (s13_2 : Int32) => (zrep (fun (i24_3 : Nat) (s24_3 : Int32) => (s24_3 + (zb ((o_Model_has ((o_Model_layNear h r (o_Model_all h)) 66 i13_2) (nI i24_3)) && (!(decide (((o_Model_ticks h r i13_2) &&& (o_Model_ticks h r i24_3)) = 0))))))) s13_2 i13_2)) 0 (zcn (h 51 1))), (o_Model_layNear h r (o_Model_all h)))
theorem fr_Model_clashes {h : zHp} {r : Nat} (c k : Nat) (q0 : ¬ (c = 51 ∧ k = 9)) (q1 : c ≠ 66) : (o_Model_clashes h r).2 c k = h c k := by
  unfold o_Model_clashes
  try dsimp only
  first | done | exact (fr_Model_layNear _ _ (by assumption) (by assumption))
set_option maxHeartbeats 400000 in
set_option maxRecDepth 20000 in
theorem c_Model_clashes (X : zXT) (h : zHp) (g : zLg) (r : Nat) (hr : r = 54 ∨ r = 55 ∨ r = 56) (hf0 : zfit h 51 1 8) (hper : zper h) : zDi X M_Model_clashes 3 [zR X 51, zR X r] h g (zI ((o_Model_clashes h r).1)) ((o_Model_clashes h r).2) g := by
  have hf0_1 := hf0.1
  refine zDi_of "PeriodSlotsModel" prog_9_method_34_code 5 (some .int) rfl (by decide) [zO X 51, zO X r, none, none, none] rfl (fun _ q => q) (Nat.le_of_ble_eq_true rfl) ?_
  intro Γ Q C hQ
  refine zr_aload_n C d_X7_clashes_0 rfl ?_
  refine zr_aload_n C d_X7_clashes_1 rfl ?_
  refine zr_aload_n C d_X7_clashes_2 rfl ?_
  refine zr_callVi (As := []) (st := [zR X r, zR X 51]) (c := 51) C (c_Model_all X h g ) k_Model_all m901 m903 m25 (by decide) (zC_Model X _ _) rfl rfl (by decide) rfl (Nat.le_of_ble_eq_true rfl) d_X7_clashes_3 ?_
  refine zr_callVv (As := [zR X r, .int (o_Model_all h)]) (st := []) (c := 51) C (c_Model_layNear X h g r (o_Model_all h) hr hf0) k_Model_layNear m905 m907 m26 (by decide) (zC_Model X _ _) rfl rfl (by decide) rfl (Nat.le_of_ble_eq_true rfl) d_X7_clashes_6 ?_
  refine zr_h (fun h1 eh1 => ?_)
  refine zr_iconst C (v := 0) d_X7_clashes_9 (by decide) ?_
  refine zr_istore_n C [zO X 51, zO X r, zI 0, none, none] d_X7_clashes_10 (Nat.le_of_ble_eq_true rfl) rfl rfl ?_
  refine zr_iconst C (v := 0) d_X7_clashes_11 (by decide) ?_
  refine zr_istore_n C [zO X 51, zO X r, zI 0, zI 0, none] d_X7_clashes_12 (Nat.le_of_ble_eq_true rfl) rfl rfl ?_
  refine zfor (f := (fun (i13_2 : Nat) (s13_2 : Int32) => (zrep (fun (i24_3 : Nat) (s24_3 : Int32) => (s24_3 + (zb ((o_Model_has (h1 66 i13_2) (nI i24_3)) && (!(decide (((o_Model_ticks h r i13_2) &&& (o_Model_ticks h r i24_3)) = 0))))))) s13_2 i13_2))) (a := 0) (fun i13_2 s13_2 => zV X Γ Q 13 [zO X 51, zO X r, zI s13_2, zI (nI i13_2), none] [] h1 g) (fun _ _ => True) (zcn (h 51 1)) trivial (fun i13_2 s13_2 hi13_2 hI13_2 => ⟨trivial, fun hk13_2 => ?_⟩) (fun r13_2 er13_2 hI13_2 => ?_)
  · refine zr_iload_n C d_X7_clashes_13 rfl ?_
    refine zr_aload_n C d_X7_clashes_14 rfl ?_
    refine gf_Model_2 C m755 d_X7_clashes_15 ?_
    refine zr_top ((congrFun (congrFun eh1.symm _) _).trans (fr_Model_layNear _ _ (by omega) (by omega))) ?_
    refine zr_icmp_ge C 81 d_X7_clashes_18 (by decide) (fun c => absurd c (zge_no rfl (by omega))) (fun _ => ?_)
    refine zr_iconst C (v := 0) d_X7_clashes_21 (by decide) ?_
    refine zr_istore C [zO X 51, zO X r, zI s13_2, zI (nI i13_2), zI 0] d_X7_clashes_22 (Nat.le_of_ble_eq_true rfl) rfl rfl ?_
    refine zfor (f := (fun (i24_3 : Nat) (s24_3 : Int32) => (s24_3 + (zb ((o_Model_has (h1 66 i13_2) (nI i24_3)) && (!(decide (((o_Model_ticks h r i13_2) &&& (o_Model_ticks h r i24_3)) = 0)))))))) (a := s13_2) (fun i24_3 s24_3 => zV X Γ Q 24 [zO X 51, zO X r, zI s24_3, zI (nI i13_2), zI (nI i24_3)] [] h1 g) (fun _ _ => True) (i13_2) trivial (fun i24_3 s24_3 hi24_3 hI24_3 => ⟨trivial, fun hk24_3 => ?_⟩) (fun r24_3 er24_3 hI24_3 => ?_)
    · refine zr_iload C d_X7_clashes_24 rfl ?_
      refine zr_iload_n C d_X7_clashes_26 rfl ?_
      refine zr_icmp_ge C 75 d_X7_clashes_27 (by decide) (fun c => absurd c (zge_noN (B := i13_2) rfl (by omega) (by omega))) (fun _ => ?_)
      refine zr_iload_n C d_X7_clashes_30 rfl ?_
      refine zr_aload_n C d_X7_clashes_31 rfl ?_
      refine gf_Model_25 C m778 d_X7_clashes_32 ?_
      refine zr_iload_n C d_X7_clashes_35 rfl ?_
      refine zr_iald C za_66 (i13_2) rfl (by omega) (by decide) d_X7_clashes_36 ?_
      refine zr_iload C d_X7_clashes_37 rfl ?_
      refine zr_callSi (As := [.int (h1 66 i13_2), .int (nI i24_3)]) (st := [.int s24_3]) C (c_Model_has X h1 g (h1 66 i13_2) (nI i24_3)) k_Model_has m890 m891 rfl (by decide) rfl (Nat.le_of_ble_eq_true rfl) d_X7_clashes_39 ?_
      suffices hJ42 : ∀ (y4 : Bool), ((o_Model_has (h1 66 i13_2) (nI i24_3)) && (!(decide (((o_Model_ticks h r i13_2) &&& (o_Model_ticks h r i24_3)) = 0)))) = y4 → zV X Γ Q 67 [zO X 51, zO X r, none, zI (nI i13_2), zI (nI i24_3)] [.int (zb y4), .int s24_3] h1 g by
        refine zr_ifz_eq C 66 d_X7_clashes_42 (by decide) (fun c42 => ?_) (fun c42 => ?_)
        · refine zr_iconst C (v := 0) d_X7_clashes_66 (by decide) ?_
          refine zr_lv [zO X 51, zO X r, none, zI (nI i13_2), zI (nI i24_3)] (by simp [zle]) ?_
          exact hJ42 false (by simp [c42])
        · refine zr_aload_n C d_X7_clashes_45 rfl ?_
          refine zr_aload_n C d_X7_clashes_46 rfl ?_
          refine zr_iload_n C d_X7_clashes_47 rfl ?_
          refine zr_callVi (As := [zR X r, .int (nI i13_2)]) (st := [.int s24_3]) (c := 51) C (c_Model_ticks X h1 g r i13_2 rfl hr (by omega) (zper_fr1 ((congrFun (congrFun eh1.symm _) _).trans (fr_Model_layNear _ _ (by omega) (by omega))) (hper i13_2 (by omega)))) k_Model_ticks m924 m926 m30 (by decide) (zC_Model X _ _) rfl rfl (by decide) rfl (Nat.le_of_ble_eq_true rfl) d_X7_clashes_48 ?_
          refine zr_top (rd_Model_ticks (funext fun kk => ((congrFun (congrFun eh1.symm _) _).trans (fr_Model_layNear _ _ (by omega) (by omega)))) (funext fun kk => ((congrFun (congrFun eh1.symm _) _).trans (fr_Model_layNear _ _ (by omega) (by omega))))) ?_
          refine zr_aload_n C d_X7_clashes_51 rfl ?_
          refine zr_aload_n C d_X7_clashes_52 rfl ?_
          refine zr_iload C d_X7_clashes_53 rfl ?_
          refine zr_callVi (As := [zR X r, .int (nI i24_3)]) (st := [.int (o_Model_ticks h r i13_2), .int s24_3]) (c := 51) C (c_Model_ticks X h1 g r i24_3 rfl hr (by omega) (zper_fr1 ((congrFun (congrFun eh1.symm _) _).trans (fr_Model_layNear _ _ (by omega) (by omega))) (hper i24_3 (by omega)))) k_Model_ticks m924 m926 m30 (by decide) (zC_Model X _ _) rfl rfl (by decide) rfl (Nat.le_of_ble_eq_true rfl) d_X7_clashes_55 ?_
          refine zr_top (rd_Model_ticks (funext fun kk => ((congrFun (congrFun eh1.symm _) _).trans (fr_Model_layNear _ _ (by omega) (by omega)))) (funext fun kk => ((congrFun (congrFun eh1.symm _) _).trans (fr_Model_layNear _ _ (by omega) (by omega))))) ?_
          refine zr_iand C d_X7_clashes_58 ?_
          refine zr_if_eq C 66 d_X7_clashes_59 (by decide) (fun c59 => ?_) (fun c59 => ?_)
          · refine zr_iconst C (v := 0) d_X7_clashes_66 (by decide) ?_
            refine zr_lv [zO X 51, zO X r, none, zI (nI i13_2), zI (nI i24_3)] (by simp [zle]) ?_
            exact hJ42 false (by simp [c42, c59])
          · refine zr_iconst C (v := 1) d_X7_clashes_62 (by decide) ?_
            refine zr_goto C 67 d_X7_clashes_63 (by decide) ?_
            refine zr_lv [zO X 51, zO X r, none, zI (nI i13_2), zI (nI i24_3)] (by simp [zle]) ?_
            exact hJ42 true (by simp [c42, c59])
      intro y4 ey4
      refine zr_iadd C d_X7_clashes_67 ?_
      refine zr_istore_n C [zO X 51, zO X r, zI (s24_3 + (zb y4)), zI (nI i13_2), zI (nI i24_3)] d_X7_clashes_68 (Nat.le_of_ble_eq_true rfl) rfl rfl ?_
      refine zr_iinc C [zO X 51, zO X r, zI (s24_3 + (zb y4)), zI (nI i13_2), zI (nI (i24_3 + 1))] (v := (nI (i24_3 + 1))) d_X7_clashes_69 rfl (zn_add rfl rfl) (Nat.le_of_ble_eq_true rfl) rfl rfl ?_
      refine zr_goto C 24 d_X7_clashes_72 (by decide) ?_
      exact hk24_3 (s24_3 + (zb y4)) (by subst ey4; exact rfl)
    refine zr_iload C d_X7_clashes_24 rfl ?_
    refine zr_iload_n C d_X7_clashes_26 rfl ?_
    refine zr_icmp_ge C 75 d_X7_clashes_27 (by decide) (fun _ => ?_) (fun c => absurd (zge_yesN (B := i13_2) rfl (by omega) (by omega)) c)
    refine zr_iinc C [zO X 51, zO X r, zI r24_3, zI (nI (i13_2 + 1)), zI (nI i13_2)] (v := (nI (i13_2 + 1))) d_X7_clashes_75 rfl (zn_add rfl rfl) (Nat.le_of_ble_eq_true rfl) rfl rfl ?_
    refine zr_goto C 13 d_X7_clashes_78 (by decide) ?_
    refine zr_lv [zO X 51, zO X r, zI r24_3, zI (nI (i13_2 + 1)), none] (by simp [zle]) ?_
    exact hk13_2 r24_3 (by subst er24_3; exact rfl)
  refine zr_iload_n C d_X7_clashes_13 rfl ?_
  refine zr_aload_n C d_X7_clashes_14 rfl ?_
  refine gf_Model_2 C m755 d_X7_clashes_15 ?_
  refine zr_top ((congrFun (congrFun eh1.symm _) _).trans (fr_Model_layNear _ _ (by omega) (by omega))) ?_
  refine zr_icmp_ge C 81 d_X7_clashes_18 (by decide) (fun _ => ?_) (fun c => absurd (zge_yes rfl (by omega) (by have := zcn_small (h 51 1); omega)) c)
  refine zr_iload_n C d_X7_clashes_81 rfl ?_
  have eR : o_Model_clashes h r = (r13_2, h1) := (by subst er13_2 eh1; unfold o_Model_clashes; exact rfl)
  subst hQ
  exact zTQ_Ih eR (zr_ireti C d_X7_clashes_82)
theorem d_X7_isQuiet_0 : decode prog_9_method_35_code 0 = .ok (.aload_n 0, 1) := by decide +kernel
theorem d_X7_isQuiet_1 : decode prog_9_method_35_code 1 = .ok (.aload_n 1, 1) := by decide +kernel
theorem d_X7_isQuiet_2 : decode prog_9_method_35_code 2 = .ok (.invokevirtual 166, 3) := by decide +kernel
theorem d_X7_isQuiet_5 : decode prog_9_method_35_code 5 = .ok (.istore_n 2, 1) := by decide +kernel
theorem d_X7_isQuiet_6 : decode prog_9_method_35_code 6 = .ok (.iconst 1, 1) := by decide +kernel
theorem d_X7_isQuiet_7 : decode prog_9_method_35_code 7 = .ok (.istore_n 3, 1) := by decide +kernel
theorem d_X7_isQuiet_8 : decode prog_9_method_35_code 8 = .ok (.iconst 0, 1) := by decide +kernel
theorem d_X7_isQuiet_9 : decode prog_9_method_35_code 9 = .ok (.istore 4, 2) := by decide +kernel
theorem d_X7_isQuiet_11 : decode prog_9_method_35_code 11 = .ok (.iload 4, 2) := by decide +kernel
theorem d_X7_isQuiet_13 : decode prog_9_method_35_code 13 = .ok (.aload_n 0, 1) := by decide +kernel
theorem d_X7_isQuiet_14 : decode prog_9_method_35_code 14 = .ok (.getfield 72, 3) := by decide +kernel
theorem d_X7_isQuiet_17 : decode prog_9_method_35_code 17 = .ok (.if_icmp .ge 83, 3) := by decide +kernel
theorem d_X7_isQuiet_20 : decode prog_9_method_35_code 20 = .ok (.aload_n 1, 1) := by decide +kernel
theorem d_X7_isQuiet_21 : decode prog_9_method_35_code 21 = .ok (.iload 4, 2) := by decide +kernel
theorem d_X7_isQuiet_23 : decode prog_9_method_35_code 23 = .ok (.iaload, 1) := by decide +kernel
theorem d_X7_isQuiet_24 : decode prog_9_method_35_code 24 = .ok (.bipush (-9), 2) := by decide +kernel
theorem d_X7_isQuiet_26 : decode prog_9_method_35_code 26 = .ok (.if_icmp .ne 17, 3) := by decide +kernel
theorem d_X7_isQuiet_29 : decode prog_9_method_35_code 29 = .ok (.aload_n 0, 1) := by decide +kernel
theorem d_X7_isQuiet_30 : decode prog_9_method_35_code 30 = .ok (.aload_n 1, 1) := by decide +kernel
theorem d_X7_isQuiet_31 : decode prog_9_method_35_code 31 = .ok (.iload 4, 2) := by decide +kernel
theorem d_X7_isQuiet_33 : decode prog_9_method_35_code 33 = .ok (.invokevirtual 170, 3) := by decide +kernel
theorem d_X7_isQuiet_36 : decode prog_9_method_35_code 36 = .ok (.ifCond .ne 7, 3) := by decide +kernel
theorem d_X7_isQuiet_39 : decode prog_9_method_35_code 39 = .ok (.iconst 1, 1) := by decide +kernel
theorem d_X7_isQuiet_40 : decode prog_9_method_35_code 40 = .ok (.goto 4, 3) := by decide +kernel
theorem d_X7_isQuiet_43 : decode prog_9_method_35_code 43 = .ok (.iconst 0, 1) := by decide +kernel
theorem d_X7_isQuiet_44 : decode prog_9_method_35_code 44 = .ok (.istore 5, 2) := by decide +kernel
theorem d_X7_isQuiet_46 : decode prog_9_method_35_code 46 = .ok (.iload_n 3, 1) := by decide +kernel
theorem d_X7_isQuiet_47 : decode prog_9_method_35_code 47 = .ok (.ifCond .eq 45, 3) := by decide +kernel
theorem d_X7_isQuiet_50 : decode prog_9_method_35_code 50 = .ok (.aload_n 0, 1) := by decide +kernel
theorem d_X7_isQuiet_51 : decode prog_9_method_35_code 51 = .ok (.getfield 135, 3) := by decide +kernel
theorem d_X7_isQuiet_54 : decode prog_9_method_35_code 54 = .ok (.iload 4, 2) := by decide +kernel
theorem d_X7_isQuiet_56 : decode prog_9_method_35_code 56 = .ok (.invokestatic 107, 3) := by decide +kernel
theorem d_X7_isQuiet_59 : decode prog_9_method_35_code 59 = .ok (.ifCond .eq 29, 3) := by decide +kernel
theorem d_X7_isQuiet_62 : decode prog_9_method_35_code 62 = .ok (.aload_n 1, 1) := by decide +kernel
theorem d_X7_isQuiet_63 : decode prog_9_method_35_code 63 = .ok (.bipush 8, 2) := by decide +kernel
theorem d_X7_isQuiet_65 : decode prog_9_method_35_code 65 = .ok (.iload 4, 2) := by decide +kernel
theorem d_X7_isQuiet_67 : decode prog_9_method_35_code 67 = .ok (.iadd, 1) := by decide +kernel
theorem d_X7_isQuiet_68 : decode prog_9_method_35_code 68 = .ok (.iaload, 1) := by decide +kernel
theorem d_X7_isQuiet_69 : decode prog_9_method_35_code 69 = .ok (.bipush (-9), 2) := by decide +kernel
theorem d_X7_isQuiet_71 : decode prog_9_method_35_code 71 = .ok (.if_icmp .ne 21, 3) := by decide +kernel
theorem d_X7_isQuiet_74 : decode prog_9_method_35_code 74 = .ok (.iload_n 2, 1) := by decide +kernel
theorem d_X7_isQuiet_75 : decode prog_9_method_35_code 75 = .ok (.iload 4, 2) := by decide +kernel
theorem d_X7_isQuiet_77 : decode prog_9_method_35_code 77 = .ok (.invokestatic 107, 3) := by decide +kernel
theorem d_X7_isQuiet_80 : decode prog_9_method_35_code 80 = .ok (.ifCond .eq 8, 3) := by decide +kernel
theorem d_X7_isQuiet_83 : decode prog_9_method_35_code 83 = .ok (.iload 5, 2) := by decide +kernel
theorem d_X7_isQuiet_85 : decode prog_9_method_35_code 85 = .ok (.ifCond .eq 7, 3) := by decide +kernel
theorem d_X7_isQuiet_88 : decode prog_9_method_35_code 88 = .ok (.iconst 1, 1) := by decide +kernel
theorem d_X7_isQuiet_89 : decode prog_9_method_35_code 89 = .ok (.goto 4, 3) := by decide +kernel
theorem d_X7_isQuiet_92 : decode prog_9_method_35_code 92 = .ok (.iconst 0, 1) := by decide +kernel
theorem d_X7_isQuiet_93 : decode prog_9_method_35_code 93 = .ok (.istore_n 3, 1) := by decide +kernel
theorem d_X7_isQuiet_94 : decode prog_9_method_35_code 94 = .ok (.iinc 4 1, 3) := by decide +kernel
theorem d_X7_isQuiet_97 : decode prog_9_method_35_code 97 = .ok (.goto (-86), 3) := by decide +kernel
theorem d_X7_isQuiet_100 : decode prog_9_method_35_code 100 = .ok (.iload_n 3, 1) := by decide +kernel
theorem d_X7_isQuiet_101 : decode prog_9_method_35_code 101 = .ok (.ireturn, 1) := by decide +kernel
abbrev M_Model_isQuiet : zMT := (⟨"PeriodSlotsModel", "isQuiet", "([I)Z"⟩, prog_9_method_35_code, 6, (some .boolean))
theorem k_Model_isQuiet : zcall M_Model_isQuiet 1 := ⟨zU_in (i := 960) (by decide +kernel) rfl, m62, ⟨by decide, by decide, by decide +kernel⟩, by decide⟩
def o_Model_isQuiet (h : zHp) (r : Nat) : Bool :=
  (zrep (fun (i11_4 : Nat) (s11_4 : Bool) => (s11_4 && (!(o_Model_has (h 51 9) (nI i11_4)) || ((decide ((h r (8 + i11_4)) = (-9))) && (!(o_Model_has (o_Model_unsettled h r) (nI i11_4)) || ((decide ((h r i11_4) = (-9))) && (decide ((o_Model_free h r i11_4) = 0)))))))) true (zcn (h 51 1)))
theorem rd_Model_isQuiet {h h2 : zHp} {r : Nat} (e0 : h2 51 1 = h 51 1) (e1 : h2 51 9 = h 51 9) (e2 : h2 53 = h 53) (e3 : h2 66 = h 66) (e4 : h2 r = h r) : o_Model_isQuiet h2 r = o_Model_isQuiet h r := by
  unfold o_Model_isQuiet
  simp only [e0, e1, e2, e3, e4, rd_Model_unsettled e0 e1 e2 e3 e4, rd_Model_free e0 e2 e3 e4]

set_option maxHeartbeats 400000 in
set_option maxRecDepth 20000 in
theorem c_Model_isQuiet (X : zXT) (h : zHp) (g : zLg) (r : Nat) (hr : r = 54 ∨ r = 55 ∨ r = 56) (hf0 : zfit h 51 1 8) (hper : zper h) : zDi X M_Model_isQuiet 6 [zR X 51, zR X r] h g (zI (zb (o_Model_isQuiet h r))) h g := by
  have hf0_1 := hf0.1
  refine zDi_of "PeriodSlotsModel" prog_9_method_35_code 6 (some .boolean) rfl (by decide) [zO X 51, zO X r, none, none, none, none] rfl (fun _ q => q) (Nat.le_of_ble_eq_true rfl) ?_
  intro Γ Q C hQ
  refine zr_aload_n C d_X7_isQuiet_0 rfl ?_
  refine zr_aload_n C d_X7_isQuiet_1 rfl ?_
  refine zr_callVi (As := [zR X r]) (st := []) (c := 51) C (c_Model_unsettled X h g r hr hf0 hper) k_Model_unsettled m931 m933 m31 (by decide) (zC_Model X _ _) rfl rfl (by decide) rfl (Nat.le_of_ble_eq_true rfl) d_X7_isQuiet_2 ?_
  refine zr_istore_n C [zO X 51, zO X r, zI (o_Model_unsettled h r), none, none, none] d_X7_isQuiet_5 (Nat.le_of_ble_eq_true rfl) rfl rfl ?_
  refine zr_iconst C (v := 1) d_X7_isQuiet_6 (by decide) ?_
  refine zr_istore_n C [zO X 51, zO X r, zI (o_Model_unsettled h r), zI 1, none, none] d_X7_isQuiet_7 (Nat.le_of_ble_eq_true rfl) rfl rfl ?_
  refine zr_iconst C (v := 0) d_X7_isQuiet_8 (by decide) ?_
  refine zr_istore C [zO X 51, zO X r, zI (o_Model_unsettled h r), zI 1, zI 0, none] d_X7_isQuiet_9 (Nat.le_of_ble_eq_true rfl) rfl rfl ?_
  refine zfor (f := (fun (i11_4 : Nat) (s11_4 : Bool) => (s11_4 && (!(o_Model_has (h 51 9) (nI i11_4)) || ((decide ((h r (8 + i11_4)) = (-9))) && (!(o_Model_has (o_Model_unsettled h r) (nI i11_4)) || ((decide ((h r i11_4) = (-9))) && (decide ((o_Model_free h r i11_4) = 0))))))))) (a := true) (fun i11_4 s11_4 => zV X Γ Q 11 [zO X 51, zO X r, zI (o_Model_unsettled h r), zI (zb s11_4), zI (nI i11_4), none] [] h g) (fun _ _ => True) (zcn (h 51 1)) trivial (fun i11_4 s11_4 hi11_4 hI11_4 => ⟨trivial, fun hk11_4 => ?_⟩) (fun r11_4 er11_4 hI11_4 => ?_)
  · refine zr_iload C d_X7_isQuiet_11 rfl ?_
    refine zr_aload_n C d_X7_isQuiet_13 rfl ?_
    refine gf_Model_2 C m755 d_X7_isQuiet_14 ?_
    refine zr_icmp_ge C 100 d_X7_isQuiet_17 (by decide) (fun c => absurd c (zge_no rfl (by omega))) (fun _ => ?_)
    refine zr_aload_n C d_X7_isQuiet_20 rfl ?_
    refine zr_iload C d_X7_isQuiet_21 rfl ?_
    refine zr_iald C (za_row hr) (i11_4) rfl (by omega) (by decide) d_X7_isQuiet_23 ?_
    refine zr_bipush C (v := (-9)) d_X7_isQuiet_24 (by decide) ?_
    suffices hJ26 : ∀ (y5 : Bool), ((decide ((h r i11_4) = (-9))) && (decide ((o_Model_free h r i11_4) = 0))) = y5 → zV X Γ Q 44 [zO X 51, zO X r, zI (o_Model_unsettled h r), zI (zb s11_4), zI (nI i11_4), none] [.int (zb y5)] h g by
      refine zr_icmp_ne C 43 d_X7_isQuiet_26 (by decide) (fun c26 => ?_) (fun c26 => ?_)
      · refine zr_iconst C (v := 0) d_X7_isQuiet_43 (by decide) ?_
        exact hJ26 false (by simp [c26])
      · refine zr_aload_n C d_X7_isQuiet_29 rfl ?_
        refine zr_aload_n C d_X7_isQuiet_30 rfl ?_
        refine zr_iload C d_X7_isQuiet_31 rfl ?_
        refine zr_callVi (As := [zR X r, .int (nI i11_4)]) (st := []) (c := 51) C (c_Model_free X h g r i11_4 rfl hr hf0 hper (by omega) (hper i11_4 (by omega))) k_Model_free m961 m963 m37 (by decide) (zC_Model X _ _) rfl rfl (by decide) rfl (Nat.le_of_ble_eq_true rfl) d_X7_isQuiet_33 ?_
        refine zr_if_ne C 43 d_X7_isQuiet_36 (by decide) (fun c36 => ?_) (fun c36 => ?_)
        · refine zr_iconst C (v := 0) d_X7_isQuiet_43 (by decide) ?_
          exact hJ26 false (by simp [c26, c36])
        · refine zr_iconst C (v := 1) d_X7_isQuiet_39 (by decide) ?_
          refine zr_goto C 44 d_X7_isQuiet_40 (by decide) ?_
          exact hJ26 true (by simp [c26, c36])
    intro y5 ey5
    refine zr_istore C [zO X 51, zO X r, zI (o_Model_unsettled h r), zI (zb s11_4), zI (nI i11_4), zI (zb y5)] d_X7_isQuiet_44 (Nat.le_of_ble_eq_true rfl) rfl rfl ?_
    refine zr_iload_n C d_X7_isQuiet_46 rfl ?_
    suffices hJ47 : ∀ (y6 : Bool), (s11_4 && (!(o_Model_has (h 51 9) (nI i11_4)) || ((decide ((h r (8 + i11_4)) = (-9))) && (!(o_Model_has (o_Model_unsettled h r) (nI i11_4)) || y5)))) = y6 → zV X Γ Q 93 [zO X 51, zO X r, zI (o_Model_unsettled h r), none, zI (nI i11_4), none] [.int (zb y6)] h g by
      refine zr_ifz_eq C 92 d_X7_isQuiet_47 (by decide) (fun c47 => ?_) (fun c47 => ?_)
      · refine zr_iconst C (v := 0) d_X7_isQuiet_92 (by decide) ?_
        refine zr_lv [zO X 51, zO X r, zI (o_Model_unsettled h r), none, zI (nI i11_4), none] (by simp [zle]) ?_
        exact hJ47 false (by simp [c47])
      · refine zr_aload_n C d_X7_isQuiet_50 rfl ?_
        refine gf_Model_24 C m777 d_X7_isQuiet_51 ?_
        refine zr_iload C d_X7_isQuiet_54 rfl ?_
        refine zr_callSi (As := [.int (h 51 9), .int (nI i11_4)]) (st := []) C (c_Model_has X h g (h 51 9) (nI i11_4)) k_Model_has m890 m891 rfl (by decide) rfl (Nat.le_of_ble_eq_true rfl) d_X7_isQuiet_56 ?_
        refine zr_ifz_eq C 88 d_X7_isQuiet_59 (by decide) (fun c59 => ?_) (fun c59 => ?_)
        · refine zr_iconst C (v := 1) d_X7_isQuiet_88 (by decide) ?_
          refine zr_goto C 93 d_X7_isQuiet_89 (by decide) ?_
          refine zr_lv [zO X 51, zO X r, zI (o_Model_unsettled h r), none, zI (nI i11_4), none] (by simp [zle]) ?_
          exact hJ47 true (by simp [c47, c59])
        · refine zr_aload_n C d_X7_isQuiet_62 rfl ?_
          refine zr_bipush C (v := 8) d_X7_isQuiet_63 (by decide) ?_
          refine zr_iload C d_X7_isQuiet_65 rfl ?_
          refine zr_iadd C d_X7_isQuiet_67 ?_
          refine zr_iald C (za_row hr) (8 + i11_4) (zn_add rfl rfl) (by omega) (by decide) d_X7_isQuiet_68 ?_
          refine zr_bipush C (v := (-9)) d_X7_isQuiet_69 (by decide) ?_
          refine zr_icmp_ne C 92 d_X7_isQuiet_71 (by decide) (fun c71 => ?_) (fun c71 => ?_)
          · refine zr_iconst C (v := 0) d_X7_isQuiet_92 (by decide) ?_
            refine zr_lv [zO X 51, zO X r, zI (o_Model_unsettled h r), none, zI (nI i11_4), none] (by simp [zle]) ?_
            exact hJ47 false (by simp [c47, c59, c71])
          · refine zr_iload_n C d_X7_isQuiet_74 rfl ?_
            refine zr_iload C d_X7_isQuiet_75 rfl ?_
            refine zr_callSi (As := [.int (o_Model_unsettled h r), .int (nI i11_4)]) (st := []) C (c_Model_has X h g (o_Model_unsettled h r) (nI i11_4)) k_Model_has m890 m891 rfl (by decide) rfl (Nat.le_of_ble_eq_true rfl) d_X7_isQuiet_77 ?_
            refine zr_ifz_eq C 88 d_X7_isQuiet_80 (by decide) (fun c80 => ?_) (fun c80 => ?_)
            · refine zr_iconst C (v := 1) d_X7_isQuiet_88 (by decide) ?_
              refine zr_goto C 93 d_X7_isQuiet_89 (by decide) ?_
              refine zr_lv [zO X 51, zO X r, zI (o_Model_unsettled h r), none, zI (nI i11_4), none] (by simp [zle]) ?_
              exact hJ47 true (by simp [c47, c59, c71, c80])
            · refine zr_iload C d_X7_isQuiet_83 rfl ?_
              refine zr_ifz_eq C 92 d_X7_isQuiet_85 (by decide) (fun c85 => ?_) (fun c85 => ?_)
              · refine zr_iconst C (v := 0) d_X7_isQuiet_92 (by decide) ?_
                refine zr_lv [zO X 51, zO X r, zI (o_Model_unsettled h r), none, zI (nI i11_4), none] (by simp [zle]) ?_
                exact hJ47 false (by simp [c47, c59, c71, c80, c85])
              · refine zr_iconst C (v := 1) d_X7_isQuiet_88 (by decide) ?_
                refine zr_goto C 93 d_X7_isQuiet_89 (by decide) ?_
                refine zr_lv [zO X 51, zO X r, zI (o_Model_unsettled h r), none, zI (nI i11_4), none] (by simp [zle]) ?_
                exact hJ47 true (by simp [c47, c59, c71, c80, c85])
    intro y6 ey6
    refine zr_istore_n C [zO X 51, zO X r, zI (o_Model_unsettled h r), zI (zb y6), zI (nI i11_4), none] d_X7_isQuiet_93 (Nat.le_of_ble_eq_true rfl) rfl rfl ?_
    refine zr_iinc C [zO X 51, zO X r, zI (o_Model_unsettled h r), zI (zb y6), zI (nI (i11_4 + 1)), none] (v := (nI (i11_4 + 1))) d_X7_isQuiet_94 rfl (zn_add rfl rfl) (Nat.le_of_ble_eq_true rfl) rfl rfl ?_
    refine zr_goto C 11 d_X7_isQuiet_97 (by decide) ?_
    exact hk11_4 y6 (by subst ey6 ey5; exact rfl)
  refine zr_iload C d_X7_isQuiet_11 rfl ?_
  refine zr_aload_n C d_X7_isQuiet_13 rfl ?_
  refine gf_Model_2 C m755 d_X7_isQuiet_14 ?_
  refine zr_icmp_ge C 100 d_X7_isQuiet_17 (by decide) (fun _ => ?_) (fun c => absurd (zge_yes rfl (by omega) (by have := zcn_small (h 51 1); omega)) c)
  refine zr_iload_n C d_X7_isQuiet_100 rfl ?_
  have eR : o_Model_isQuiet h r = r11_4 := (by subst er11_4; unfold o_Model_isQuiet; exact rfl)
  subst hQ
  rw [eR]
  exact zr_iretz C (zb_01 _) d_X7_isQuiet_101
theorem d_X7_roundOf_0 : decode prog_9_method_36_code 0 = .ok (.aload_n 0, 1) := by decide +kernel
theorem d_X7_roundOf_1 : decode prog_9_method_36_code 1 = .ok (.aload_n 1, 1) := by decide +kernel
theorem d_X7_roundOf_2 : decode prog_9_method_36_code 2 = .ok (.invokevirtual 166, 3) := by decide +kernel
theorem d_X7_roundOf_5 : decode prog_9_method_36_code 5 = .ok (.istore_n 2, 1) := by decide +kernel
theorem d_X7_roundOf_6 : decode prog_9_method_36_code 6 = .ok (.aload_n 0, 1) := by decide +kernel
theorem d_X7_roundOf_7 : decode prog_9_method_36_code 7 = .ok (.iconst 0, 1) := by decide +kernel
theorem d_X7_roundOf_8 : decode prog_9_method_36_code 8 = .ok (.putfield 173, 3) := by decide +kernel
theorem d_X7_roundOf_11 : decode prog_9_method_36_code 11 = .ok (.iconst 0, 1) := by decide +kernel
theorem d_X7_roundOf_12 : decode prog_9_method_36_code 12 = .ok (.istore_n 3, 1) := by decide +kernel
theorem d_X7_roundOf_13 : decode prog_9_method_36_code 13 = .ok (.iload_n 3, 1) := by decide +kernel
theorem d_X7_roundOf_14 : decode prog_9_method_36_code 14 = .ok (.aload_n 0, 1) := by decide +kernel
theorem d_X7_roundOf_15 : decode prog_9_method_36_code 15 = .ok (.getfield 72, 3) := by decide +kernel
theorem d_X7_roundOf_18 : decode prog_9_method_36_code 18 = .ok (.if_icmp .ge 164, 3) := by decide +kernel
theorem d_X7_roundOf_21 : decode prog_9_method_36_code 21 = .ok (.aload_n 0, 1) := by decide +kernel
theorem d_X7_roundOf_22 : decode prog_9_method_36_code 22 = .ok (.getfield 56, 3) := by decide +kernel
theorem d_X7_roundOf_25 : decode prog_9_method_36_code 25 = .ok (.iload_n 3, 1) := by decide +kernel
theorem d_X7_roundOf_26 : decode prog_9_method_36_code 26 = .ok (.aload_n 1, 1) := by decide +kernel
theorem d_X7_roundOf_27 : decode prog_9_method_36_code 27 = .ok (.iload_n 3, 1) := by decide +kernel
theorem d_X7_roundOf_28 : decode prog_9_method_36_code 28 = .ok (.iaload, 1) := by decide +kernel
theorem d_X7_roundOf_29 : decode prog_9_method_36_code 29 = .ok (.iastore, 1) := by decide +kernel
theorem d_X7_roundOf_30 : decode prog_9_method_36_code 30 = .ok (.aload_n 0, 1) := by decide +kernel
theorem d_X7_roundOf_31 : decode prog_9_method_36_code 31 = .ok (.getfield 59, 3) := by decide +kernel
theorem d_X7_roundOf_34 : decode prog_9_method_36_code 34 = .ok (.iload_n 3, 1) := by decide +kernel
theorem d_X7_roundOf_35 : decode prog_9_method_36_code 35 = .ok (.bipush (-9), 2) := by decide +kernel
theorem d_X7_roundOf_37 : decode prog_9_method_36_code 37 = .ok (.iastore, 1) := by decide +kernel
theorem d_X7_roundOf_38 : decode prog_9_method_36_code 38 = .ok (.iload_n 2, 1) := by decide +kernel
theorem d_X7_roundOf_39 : decode prog_9_method_36_code 39 = .ok (.iload_n 3, 1) := by decide +kernel
theorem d_X7_roundOf_40 : decode prog_9_method_36_code 40 = .ok (.invokestatic 107, 3) := by decide +kernel
theorem d_X7_roundOf_43 : decode prog_9_method_36_code 43 = .ok (.istore 4, 2) := by decide +kernel
theorem d_X7_roundOf_45 : decode prog_9_method_36_code 45 = .ok (.iconst 0, 1) := by decide +kernel
theorem d_X7_roundOf_46 : decode prog_9_method_36_code 46 = .ok (.istore 5, 2) := by decide +kernel
theorem d_X7_roundOf_48 : decode prog_9_method_36_code 48 = .ok (.iload 5, 2) := by decide +kernel
theorem d_X7_roundOf_50 : decode prog_9_method_36_code 50 = .ok (.aload_n 0, 1) := by decide +kernel
theorem d_X7_roundOf_51 : decode prog_9_method_36_code 51 = .ok (.getfield 72, 3) := by decide +kernel
theorem d_X7_roundOf_54 : decode prog_9_method_36_code 54 = .ok (.if_icmp .ge 50, 3) := by decide +kernel
theorem d_X7_roundOf_57 : decode prog_9_method_36_code 57 = .ok (.iload 4, 2) := by decide +kernel
theorem d_X7_roundOf_59 : decode prog_9_method_36_code 59 = .ok (.ifCond .eq 36, 3) := by decide +kernel
theorem d_X7_roundOf_62 : decode prog_9_method_36_code 62 = .ok (.iload_n 2, 1) := by decide +kernel
theorem d_X7_roundOf_63 : decode prog_9_method_36_code 63 = .ok (.aload_n 0, 1) := by decide +kernel
theorem d_X7_roundOf_64 : decode prog_9_method_36_code 64 = .ok (.getfield 53, 3) := by decide +kernel
theorem d_X7_roundOf_67 : decode prog_9_method_36_code 67 = .ok (.iload_n 3, 1) := by decide +kernel
theorem d_X7_roundOf_68 : decode prog_9_method_36_code 68 = .ok (.iaload, 1) := by decide +kernel
theorem d_X7_roundOf_69 : decode prog_9_method_36_code 69 = .ok (.iand, 1) := by decide +kernel
theorem d_X7_roundOf_70 : decode prog_9_method_36_code 70 = .ok (.iload 5, 2) := by decide +kernel
theorem d_X7_roundOf_72 : decode prog_9_method_36_code 72 = .ok (.invokestatic 107, 3) := by decide +kernel
theorem d_X7_roundOf_75 : decode prog_9_method_36_code 75 = .ok (.ifCond .eq 16, 3) := by decide +kernel
theorem d_X7_roundOf_78 : decode prog_9_method_36_code 78 = .ok (.iload 5, 2) := by decide +kernel
theorem d_X7_roundOf_80 : decode prog_9_method_36_code 80 = .ok (.iload_n 3, 1) := by decide +kernel
theorem d_X7_roundOf_81 : decode prog_9_method_36_code 81 = .ok (.aload_n 1, 1) := by decide +kernel
theorem d_X7_roundOf_82 : decode prog_9_method_36_code 82 = .ok (.bipush 24, 2) := by decide +kernel
theorem d_X7_roundOf_84 : decode prog_9_method_36_code 84 = .ok (.iaload, 1) := by decide +kernel
theorem d_X7_roundOf_85 : decode prog_9_method_36_code 85 = .ok (.invokestatic 144, 3) := by decide +kernel
theorem d_X7_roundOf_88 : decode prog_9_method_36_code 88 = .ok (.ifCond .ne 7, 3) := by decide +kernel
theorem d_X7_roundOf_91 : decode prog_9_method_36_code 91 = .ok (.iconst 1, 1) := by decide +kernel
theorem d_X7_roundOf_92 : decode prog_9_method_36_code 92 = .ok (.goto 4, 3) := by decide +kernel
theorem d_X7_roundOf_95 : decode prog_9_method_36_code 95 = .ok (.iconst 0, 1) := by decide +kernel
theorem d_X7_roundOf_96 : decode prog_9_method_36_code 96 = .ok (.istore 4, 2) := by decide +kernel
theorem d_X7_roundOf_98 : decode prog_9_method_36_code 98 = .ok (.iinc 5 1, 3) := by decide +kernel
theorem d_X7_roundOf_101 : decode prog_9_method_36_code 101 = .ok (.goto (-53), 3) := by decide +kernel
theorem d_X7_roundOf_104 : decode prog_9_method_36_code 104 = .ok (.iload 4, 2) := by decide +kernel
theorem d_X7_roundOf_106 : decode prog_9_method_36_code 106 = .ok (.ifCond .eq 70, 3) := by decide +kernel
theorem d_X7_roundOf_109 : decode prog_9_method_36_code 109 = .ok (.aload_n 0, 1) := by decide +kernel
theorem d_X7_roundOf_110 : decode prog_9_method_36_code 110 = .ok (.getfield 56, 3) := by decide +kernel
theorem d_X7_roundOf_113 : decode prog_9_method_36_code 113 = .ok (.iload_n 3, 1) := by decide +kernel
theorem d_X7_roundOf_114 : decode prog_9_method_36_code 114 = .ok (.aload_n 0, 1) := by decide +kernel
theorem d_X7_roundOf_115 : decode prog_9_method_36_code 115 = .ok (.aload_n 1, 1) := by decide +kernel
theorem d_X7_roundOf_116 : decode prog_9_method_36_code 116 = .ok (.iload_n 3, 1) := by decide +kernel
theorem d_X7_roundOf_117 : decode prog_9_method_36_code 117 = .ok (.invokevirtual 170, 3) := by decide +kernel
theorem d_X7_roundOf_120 : decode prog_9_method_36_code 120 = .ok (.invokestatic 177, 3) := by decide +kernel
theorem d_X7_roundOf_123 : decode prog_9_method_36_code 123 = .ok (.iastore, 1) := by decide +kernel
theorem d_X7_roundOf_124 : decode prog_9_method_36_code 124 = .ok (.aload_n 0, 1) := by decide +kernel
theorem d_X7_roundOf_125 : decode prog_9_method_36_code 125 = .ok (.getfield 59, 3) := by decide +kernel
theorem d_X7_roundOf_128 : decode prog_9_method_36_code 128 = .ok (.iload_n 3, 1) := by decide +kernel
theorem d_X7_roundOf_129 : decode prog_9_method_36_code 129 = .ok (.aload_n 0, 1) := by decide +kernel
theorem d_X7_roundOf_130 : decode prog_9_method_36_code 130 = .ok (.getfield 56, 3) := by decide +kernel
theorem d_X7_roundOf_133 : decode prog_9_method_36_code 133 = .ok (.iload_n 3, 1) := by decide +kernel
theorem d_X7_roundOf_134 : decode prog_9_method_36_code 134 = .ok (.iaload, 1) := by decide +kernel
theorem d_X7_roundOf_135 : decode prog_9_method_36_code 135 = .ok (.bipush (-9), 2) := by decide +kernel
theorem d_X7_roundOf_137 : decode prog_9_method_36_code 137 = .ok (.if_icmp .ne 8, 3) := by decide +kernel
theorem d_X7_roundOf_140 : decode prog_9_method_36_code 140 = .ok (.bipush (-9), 2) := by decide +kernel
theorem d_X7_roundOf_142 : decode prog_9_method_36_code 142 = .ok (.goto 6, 3) := by decide +kernel
theorem d_X7_roundOf_145 : decode prog_9_method_36_code 145 = .ok (.aload_n 1, 1) := by decide +kernel
theorem d_X7_roundOf_146 : decode prog_9_method_36_code 146 = .ok (.iload_n 3, 1) := by decide +kernel
theorem d_X7_roundOf_147 : decode prog_9_method_36_code 147 = .ok (.iaload, 1) := by decide +kernel
theorem d_X7_roundOf_148 : decode prog_9_method_36_code 148 = .ok (.iastore, 1) := by decide +kernel
theorem d_X7_roundOf_149 : decode prog_9_method_36_code 149 = .ok (.aload_n 0, 1) := by decide +kernel
theorem d_X7_roundOf_150 : decode prog_9_method_36_code 150 = .ok (.aload_n 0, 1) := by decide +kernel
theorem d_X7_roundOf_151 : decode prog_9_method_36_code 151 = .ok (.getfield 173, 3) := by decide +kernel
theorem d_X7_roundOf_154 : decode prog_9_method_36_code 154 = .ok (.ifCond .ne 14, 3) := by decide +kernel
theorem d_X7_roundOf_157 : decode prog_9_method_36_code 157 = .ok (.aload_n 0, 1) := by decide +kernel
theorem d_X7_roundOf_158 : decode prog_9_method_36_code 158 = .ok (.getfield 56, 3) := by decide +kernel
theorem d_X7_roundOf_161 : decode prog_9_method_36_code 161 = .ok (.iload_n 3, 1) := by decide +kernel
theorem d_X7_roundOf_162 : decode prog_9_method_36_code 162 = .ok (.iaload, 1) := by decide +kernel
theorem d_X7_roundOf_163 : decode prog_9_method_36_code 163 = .ok (.bipush (-9), 2) := by decide +kernel
theorem d_X7_roundOf_165 : decode prog_9_method_36_code 165 = .ok (.if_icmp .eq 7, 3) := by decide +kernel
theorem d_X7_roundOf_168 : decode prog_9_method_36_code 168 = .ok (.iconst 1, 1) := by decide +kernel
theorem d_X7_roundOf_169 : decode prog_9_method_36_code 169 = .ok (.goto 4, 3) := by decide +kernel
theorem d_X7_roundOf_172 : decode prog_9_method_36_code 172 = .ok (.iconst 0, 1) := by decide +kernel
theorem d_X7_roundOf_173 : decode prog_9_method_36_code 173 = .ok (.putfield 173, 3) := by decide +kernel
theorem d_X7_roundOf_176 : decode prog_9_method_36_code 176 = .ok (.iinc 3 1, 3) := by decide +kernel
theorem d_X7_roundOf_179 : decode prog_9_method_36_code 179 = .ok (.goto (-166), 3) := by decide +kernel
theorem d_X7_roundOf_182 : decode prog_9_method_36_code 182 = .ok (.iconst 0, 1) := by decide +kernel
theorem d_X7_roundOf_183 : decode prog_9_method_36_code 183 = .ok (.istore_n 3, 1) := by decide +kernel
theorem d_X7_roundOf_184 : decode prog_9_method_36_code 184 = .ok (.iconst 0, 1) := by decide +kernel
theorem d_X7_roundOf_185 : decode prog_9_method_36_code 185 = .ok (.istore 4, 2) := by decide +kernel
theorem d_X7_roundOf_187 : decode prog_9_method_36_code 187 = .ok (.iload 4, 2) := by decide +kernel
theorem d_X7_roundOf_189 : decode prog_9_method_36_code 189 = .ok (.aload_n 0, 1) := by decide +kernel
theorem d_X7_roundOf_190 : decode prog_9_method_36_code 190 = .ok (.getfield 72, 3) := by decide +kernel
theorem d_X7_roundOf_193 : decode prog_9_method_36_code 193 = .ok (.if_icmp .ge 56, 3) := by decide +kernel
theorem d_X7_roundOf_196 : decode prog_9_method_36_code 196 = .ok (.iload_n 3, 1) := by decide +kernel
theorem d_X7_roundOf_197 : decode prog_9_method_36_code 197 = .ok (.aload_n 1, 1) := by decide +kernel
theorem d_X7_roundOf_198 : decode prog_9_method_36_code 198 = .ok (.iload 4, 2) := by decide +kernel
theorem d_X7_roundOf_200 : decode prog_9_method_36_code 200 = .ok (.iaload, 1) := by decide +kernel
theorem d_X7_roundOf_201 : decode prog_9_method_36_code 201 = .ok (.aload_n 0, 1) := by decide +kernel
theorem d_X7_roundOf_202 : decode prog_9_method_36_code 202 = .ok (.getfield 56, 3) := by decide +kernel
theorem d_X7_roundOf_205 : decode prog_9_method_36_code 205 = .ok (.iload 4, 2) := by decide +kernel
theorem d_X7_roundOf_207 : decode prog_9_method_36_code 207 = .ok (.iaload, 1) := by decide +kernel
theorem d_X7_roundOf_208 : decode prog_9_method_36_code 208 = .ok (.if_icmp .ne 7, 3) := by decide +kernel
theorem d_X7_roundOf_211 : decode prog_9_method_36_code 211 = .ok (.iconst 0, 1) := by decide +kernel
theorem d_X7_roundOf_212 : decode prog_9_method_36_code 212 = .ok (.goto 4, 3) := by decide +kernel
theorem d_X7_roundOf_215 : decode prog_9_method_36_code 215 = .ok (.iconst 1, 1) := by decide +kernel
theorem d_X7_roundOf_216 : decode prog_9_method_36_code 216 = .ok (.iadd, 1) := by decide +kernel
theorem d_X7_roundOf_217 : decode prog_9_method_36_code 217 = .ok (.istore_n 3, 1) := by decide +kernel
theorem d_X7_roundOf_218 : decode prog_9_method_36_code 218 = .ok (.aload_n 1, 1) := by decide +kernel
theorem d_X7_roundOf_219 : decode prog_9_method_36_code 219 = .ok (.iload 4, 2) := by decide +kernel
theorem d_X7_roundOf_221 : decode prog_9_method_36_code 221 = .ok (.aload_n 0, 1) := by decide +kernel
theorem d_X7_roundOf_222 : decode prog_9_method_36_code 222 = .ok (.getfield 56, 3) := by decide +kernel
theorem d_X7_roundOf_225 : decode prog_9_method_36_code 225 = .ok (.iload 4, 2) := by decide +kernel
theorem d_X7_roundOf_227 : decode prog_9_method_36_code 227 = .ok (.iaload, 1) := by decide +kernel
theorem d_X7_roundOf_228 : decode prog_9_method_36_code 228 = .ok (.iastore, 1) := by decide +kernel
theorem d_X7_roundOf_229 : decode prog_9_method_36_code 229 = .ok (.aload_n 1, 1) := by decide +kernel
theorem d_X7_roundOf_230 : decode prog_9_method_36_code 230 = .ok (.bipush 8, 2) := by decide +kernel
theorem d_X7_roundOf_232 : decode prog_9_method_36_code 232 = .ok (.iload 4, 2) := by decide +kernel
theorem d_X7_roundOf_234 : decode prog_9_method_36_code 234 = .ok (.iadd, 1) := by decide +kernel
theorem d_X7_roundOf_235 : decode prog_9_method_36_code 235 = .ok (.aload_n 0, 1) := by decide +kernel
theorem d_X7_roundOf_236 : decode prog_9_method_36_code 236 = .ok (.getfield 59, 3) := by decide +kernel
theorem d_X7_roundOf_239 : decode prog_9_method_36_code 239 = .ok (.iload 4, 2) := by decide +kernel
theorem d_X7_roundOf_241 : decode prog_9_method_36_code 241 = .ok (.iaload, 1) := by decide +kernel
theorem d_X7_roundOf_242 : decode prog_9_method_36_code 242 = .ok (.iastore, 1) := by decide +kernel
theorem d_X7_roundOf_243 : decode prog_9_method_36_code 243 = .ok (.iinc 4 1, 3) := by decide +kernel
theorem d_X7_roundOf_246 : decode prog_9_method_36_code 246 = .ok (.goto (-59), 3) := by decide +kernel
theorem d_X7_roundOf_249 : decode prog_9_method_36_code 249 = .ok (.aload_n 1, 1) := by decide +kernel
theorem d_X7_roundOf_250 : decode prog_9_method_36_code 250 = .ok (.bipush 24, 2) := by decide +kernel
theorem d_X7_roundOf_252 : decode prog_9_method_36_code 252 = .ok (.dup2, 1) := by decide +kernel
theorem d_X7_roundOf_253 : decode prog_9_method_36_code 253 = .ok (.iaload, 1) := by decide +kernel
theorem d_X7_roundOf_254 : decode prog_9_method_36_code 254 = .ok (.iconst 1, 1) := by decide +kernel
theorem d_X7_roundOf_255 : decode prog_9_method_36_code 255 = .ok (.iadd, 1) := by decide +kernel
theorem d_X7_roundOf_256 : decode prog_9_method_36_code 256 = .ok (.iastore, 1) := by decide +kernel
theorem d_X7_roundOf_257 : decode prog_9_method_36_code 257 = .ok (.iload_n 3, 1) := by decide +kernel
theorem d_X7_roundOf_258 : decode prog_9_method_36_code 258 = .ok (.ireturn, 1) := by decide +kernel
abbrev M_Model_roundOf : zMT := (⟨"PeriodSlotsModel", "roundOf", "([I)I"⟩, prog_9_method_36_code, 6, (some .int))
theorem k_Model_roundOf : zcall M_Model_roundOf 1 := ⟨zU_in (i := 995) (by decide +kernel) rfl, m62, ⟨by decide, by decide, by decide +kernel⟩, by decide⟩
def o_Model_roundOf (h : zHp) (r : Nat) : Int32 × zHp :=
  ((zrep (fun (i187_15 : Nat) (s187_15 : Int32 × zHp) => ((s187_15.1 + (zb (!(decide ((s187_15.2 r i187_15) = (s187_15.2 67 i187_15)))))), (zup (zup s187_15.2 r i187_15 (s187_15.2 67 i187_15)) r (8 + i187_15) (s187_15.2 68 i187_15)))) (0, (zrep (fun (i13_2 : Nat) (s13_2 : zHp) => (if (zrep (fun (i48_7 : Nat) (s48_7 : Bool) => (s48_7 && (!(o_Model_has ((o_Model_unsettled h r) &&& (h 66 i13_2)) (nI i48_7)) || (!(o_Model_isAbove (nI i48_7) (nI i13_2) (s13_2 r 24)))))) (o_Model_has (o_Model_unsettled h r) (nI i13_2)) (zcn (h 51 1))) = true then (zup (zup (zup (zup (zup s13_2 67 i13_2 (s13_2 r i13_2)) 68 i13_2 (-9)) 67 i13_2 (o_Model_leastOf (o_Model_free s13_2 r i13_2))) 68 i13_2 (if (o_Model_leastOf (o_Model_free s13_2 r i13_2)) = (-9) then (-9) else (s13_2 r i13_2))) 51 10 (zb (!(decide ((s13_2 51 10) = 0)) || (!(decide ((o_Model_leastOf (o_Model_free s13_2 r i13_2)) = (-9))))))) else (zup (zup s13_2 67 i13_2 (s13_2 r i13_2)) 68 i13_2 (-9)))) (zup h 51 10 0) (zcn (h 51 1)))) (zcn (h 51 1))).1, (zup (zrep (fun (i187_15 : Nat) (s187_15 : Int32 × zHp) => ((s187_15.1 + (zb (!(decide ((s187_15.2 r i187_15) = (s187_15.2 67 i187_15)))))), (zup (zup s187_15.2 r i187_15 (s187_15.2 67 i187_15)) r (8 + i187_15) (s187_15.2 68 i187_15)))) (0, (zrep (fun (i13_2 : Nat) (s13_2 : zHp) => (if (zrep (fun (i48_7 : Nat) (s48_7 : Bool) => (s48_7 && (!(o_Model_has ((o_Model_unsettled h r) &&& (h 66 i13_2)) (nI i48_7)) || (!(o_Model_isAbove (nI i48_7) (nI i13_2) (s13_2 r 24)))))) (o_Model_has (o_Model_unsettled h r) (nI i13_2)) (zcn (h 51 1))) = true then (zup (zup (zup (zup (zup s13_2 67 i13_2 (s13_2 r i13_2)) 68 i13_2 (-9)) 67 i13_2 (o_Model_leastOf (o_Model_free s13_2 r i13_2))) 68 i13_2 (if (o_Model_leastOf (o_Model_free s13_2 r i13_2)) = (-9) then (-9) else (s13_2 r i13_2))) 51 10 (zb (!(decide ((s13_2 51 10) = 0)) || (!(decide ((o_Model_leastOf (o_Model_free s13_2 r i13_2)) = (-9))))))) else (zup (zup s13_2 67 i13_2 (s13_2 r i13_2)) 68 i13_2 (-9)))) (zup h 51 10 0) (zcn (h 51 1)))) (zcn (h 51 1))).2 r 24 (((zrep (fun (i187_15 : Nat) (s187_15 : Int32 × zHp) => ((s187_15.1 + (zb (!(decide ((s187_15.2 r i187_15) = (s187_15.2 67 i187_15)))))), (zup (zup s187_15.2 r i187_15 (s187_15.2 67 i187_15)) r (8 + i187_15) (s187_15.2 68 i187_15)))) (0, (zrep (fun (i13_2 : Nat) (s13_2 : zHp) => (if (zrep (fun (i48_7 : Nat) (s48_7 : Bool) => (s48_7 && (!(o_Model_has ((o_Model_unsettled h r) &&& (h 66 i13_2)) (nI i48_7)) || (!(o_Model_isAbove (nI i48_7) (nI i13_2) (s13_2 r 24)))))) (o_Model_has (o_Model_unsettled h r) (nI i13_2)) (zcn (h 51 1))) = true then (zup (zup (zup (zup (zup s13_2 67 i13_2 (s13_2 r i13_2)) 68 i13_2 (-9)) 67 i13_2 (o_Model_leastOf (o_Model_free s13_2 r i13_2))) 68 i13_2 (if (o_Model_leastOf (o_Model_free s13_2 r i13_2)) = (-9) then (-9) else (s13_2 r i13_2))) 51 10 (zb (!(decide ((s13_2 51 10) = 0)) || (!(decide ((o_Model_leastOf (o_Model_free s13_2 r i13_2)) = (-9))))))) else (zup (zup s13_2 67 i13_2 (s13_2 r i13_2)) 68 i13_2 (-9)))) (zup h 51 10 0) (zcn (h 51 1)))) (zcn (h 51 1))).2 r 24) + 1)))
theorem fr_Model_roundOf {h : zHp} {r : Nat} (c k : Nat) (q0 : c ≠ r) (q1 : ¬ (c = 51 ∧ k = 10)) (q2 : c ≠ 67) (q3 : c ≠ 68) : (o_Model_roundOf h r).2 c k = h c k := by
  unfold o_Model_roundOf
  have hI187_15 := zrep_inv (f := (fun (i187_15 : Nat) (s187_15 : Int32 × zHp) => ((s187_15.1 + (zb (!(decide ((s187_15.2 r i187_15) = (s187_15.2 67 i187_15)))))), (zup (zup s187_15.2 r i187_15 (s187_15.2 67 i187_15)) r (8 + i187_15) (s187_15.2 68 i187_15))))) (a := (0, (zrep (fun (i13_2 : Nat) (s13_2 : zHp) => (if (zrep (fun (i48_7 : Nat) (s48_7 : Bool) => (s48_7 && (!(o_Model_has ((o_Model_unsettled h r) &&& (h 66 i13_2)) (nI i48_7)) || (!(o_Model_isAbove (nI i48_7) (nI i13_2) (s13_2 r 24)))))) (o_Model_has (o_Model_unsettled h r) (nI i13_2)) (zcn (h 51 1))) = true then (zup (zup (zup (zup (zup s13_2 67 i13_2 (s13_2 r i13_2)) 68 i13_2 (-9)) 67 i13_2 (o_Model_leastOf (o_Model_free s13_2 r i13_2))) 68 i13_2 (if (o_Model_leastOf (o_Model_free s13_2 r i13_2)) = (-9) then (-9) else (s13_2 r i13_2))) 51 10 (zb (!(decide ((s13_2 51 10) = 0)) || (!(decide ((o_Model_leastOf (o_Model_free s13_2 r i13_2)) = (-9))))))) else (zup (zup s13_2 67 i13_2 (s13_2 r i13_2)) 68 i13_2 (-9)))) (zup h 51 10 0) (zcn (h 51 1))))) (fun _ s187_15 => ∀ c k : Nat, c ≠ r → ¬ (c = 51 ∧ k = 10) → c ≠ 67 → c ≠ 68 → s187_15.2 c k = (zrep (fun (i13_2 : Nat) (s13_2 : zHp) => (if (zrep (fun (i48_7 : Nat) (s48_7 : Bool) => (s48_7 && (!(o_Model_has ((o_Model_unsettled h r) &&& (h 66 i13_2)) (nI i48_7)) || (!(o_Model_isAbove (nI i48_7) (nI i13_2) (s13_2 r 24)))))) (o_Model_has (o_Model_unsettled h r) (nI i13_2)) (zcn (h 51 1))) = true then (zup (zup (zup (zup (zup s13_2 67 i13_2 (s13_2 r i13_2)) 68 i13_2 (-9)) 67 i13_2 (o_Model_leastOf (o_Model_free s13_2 r i13_2))) 68 i13_2 (if (o_Model_leastOf (o_Model_free s13_2 r i13_2)) = (-9) then (-9) else (s13_2 r i13_2))) 51 10 (zb (!(decide ((s13_2 51 10) = 0)) || (!(decide ((o_Model_leastOf (o_Model_free s13_2 r i13_2)) = (-9))))))) else (zup (zup s13_2 67 i13_2 (s13_2 r i13_2)) 68 i13_2 (-9)))) (zup h 51 10 0) (zcn (h 51 1))) c k) (zcn (h 51 1)) (fun _ _ _ _ _ _ => (by dsimp only)) (fun i187_15 s187_15 hi187_15 hI187_15 => (fun c k q0 q1 q2 q3 => (by (try dsimp only); exact ((zup_fr (Or.inl (by assumption))).trans ((zup_fr (Or.inl (by assumption))).trans (hI187_15 _ _ (by assumption) (by assumption) (by assumption) (by assumption)))))))
  have hI13_2 := zrep_inv (f := (fun (i13_2 : Nat) (s13_2 : zHp) => (if (zrep (fun (i48_7 : Nat) (s48_7 : Bool) => (s48_7 && (!(o_Model_has ((o_Model_unsettled h r) &&& (h 66 i13_2)) (nI i48_7)) || (!(o_Model_isAbove (nI i48_7) (nI i13_2) (s13_2 r 24)))))) (o_Model_has (o_Model_unsettled h r) (nI i13_2)) (zcn (h 51 1))) = true then (zup (zup (zup (zup (zup s13_2 67 i13_2 (s13_2 r i13_2)) 68 i13_2 (-9)) 67 i13_2 (o_Model_leastOf (o_Model_free s13_2 r i13_2))) 68 i13_2 (if (o_Model_leastOf (o_Model_free s13_2 r i13_2)) = (-9) then (-9) else (s13_2 r i13_2))) 51 10 (zb (!(decide ((s13_2 51 10) = 0)) || (!(decide ((o_Model_leastOf (o_Model_free s13_2 r i13_2)) = (-9))))))) else (zup (zup s13_2 67 i13_2 (s13_2 r i13_2)) 68 i13_2 (-9))))) (a := (zup h 51 10 0)) (fun _ s13_2 => ∀ c k : Nat, c ≠ r → ¬ (c = 51 ∧ k = 10) → c ≠ 67 → c ≠ 68 → s13_2 c k = (zup h 51 10 0) c k) (zcn (h 51 1)) (fun _ _ _ _ _ _ => rfl) (fun i13_2 s13_2 hi13_2 hI13_2 => (fun c k q0 q1 q2 q3 => (by (try dsimp only); exact (zite_fr (fun _ => ((zup_fr (by omega)).trans ((zup_fr (Or.inl (by assumption))).trans ((zup_fr (Or.inl (by assumption))).trans ((zup_fr (Or.inl (by assumption))).trans ((zup_fr (Or.inl (by assumption))).trans (hI13_2 _ _ (by assumption) (by assumption) (by assumption) (by assumption)))))))) (fun _ => ((zup_fr (Or.inl (by assumption))).trans ((zup_fr (Or.inl (by assumption))).trans (hI13_2 _ _ (by assumption) (by assumption) (by assumption) (by assumption)))))))))
  try dsimp only
  first | done | exact ((zup_fr (Or.inl (by assumption))).trans ((hI187_15 _ _ (by assumption) (by assumption) (by assumption) (by assumption)).trans ((hI13_2 _ _ (by assumption) (by assumption) (by assumption) (by assumption)).trans (zup_fr (by omega)))))
set_option maxHeartbeats 400000 in
set_option maxRecDepth 20000 in
theorem c_Model_roundOf (X : zXT) (h : zHp) (g : zLg) (r : Nat) (hr : r = 54 ∨ r = 55 ∨ r = 56) (hf0 : zfit h 51 1 8) (hper : zper h) : zDi X M_Model_roundOf 6 [zR X 51, zR X r] h g (zI ((o_Model_roundOf h r).1)) ((o_Model_roundOf h r).2) g := by
  have hf0_1 := hf0.1
  refine zDi_of "PeriodSlotsModel" prog_9_method_36_code 6 (some .int) rfl (by decide) [zO X 51, zO X r, none, none, none, none] rfl (fun _ q => q) (Nat.le_of_ble_eq_true rfl) ?_
  intro Γ Q C hQ
  refine zr_aload_n C d_X7_roundOf_0 rfl ?_
  refine zr_aload_n C d_X7_roundOf_1 rfl ?_
  refine zr_callVi (As := [zR X r]) (st := []) (c := 51) C (c_Model_unsettled X h g r hr hf0 hper) k_Model_unsettled m931 m933 m31 (by decide) (zC_Model X _ _) rfl rfl (by decide) rfl (Nat.le_of_ble_eq_true rfl) d_X7_roundOf_2 ?_
  refine zr_istore_n C [zO X 51, zO X r, zI (o_Model_unsettled h r), none, none, none] d_X7_roundOf_5 (Nat.le_of_ble_eq_true rfl) rfl rfl ?_
  refine zr_aload_n C d_X7_roundOf_6 rfl ?_
  refine zr_iconst C (v := 0) d_X7_roundOf_7 (by decide) ?_
  refine pf_Model_28 C (Or.inl rfl) m781 d_X7_roundOf_8 ?_
  refine zr_h (fun h1 eh1 => ?_)
  refine zr_iconst C (v := 0) d_X7_roundOf_11 (by decide) ?_
  refine zr_istore_n C [zO X 51, zO X r, zI (o_Model_unsettled h r), zI 0, none, none] d_X7_roundOf_12 (Nat.le_of_ble_eq_true rfl) rfl rfl ?_
  refine zfor (f := (fun (i13_2 : Nat) (s13_2 : zHp) => (if (zrep (fun (i48_7 : Nat) (s48_7 : Bool) => (s48_7 && (!(o_Model_has ((o_Model_unsettled h r) &&& (h 66 i13_2)) (nI i48_7)) || (!(o_Model_isAbove (nI i48_7) (nI i13_2) (s13_2 r 24)))))) (o_Model_has (o_Model_unsettled h r) (nI i13_2)) (zcn (h 51 1))) = true then (zup (zup (zup (zup (zup s13_2 67 i13_2 (s13_2 r i13_2)) 68 i13_2 (-9)) 67 i13_2 (o_Model_leastOf (o_Model_free s13_2 r i13_2))) 68 i13_2 (if (o_Model_leastOf (o_Model_free s13_2 r i13_2)) = (-9) then (-9) else (s13_2 r i13_2))) 51 10 (zb (!(decide ((s13_2 51 10) = 0)) || (!(decide ((o_Model_leastOf (o_Model_free s13_2 r i13_2)) = (-9))))))) else (zup (zup s13_2 67 i13_2 (s13_2 r i13_2)) 68 i13_2 (-9))))) (a := h1) (fun i13_2 s13_2 => zV X Γ Q 13 [zO X 51, zO X r, zI (o_Model_unsettled h r), zI (nI i13_2), none, none] [] s13_2 g) (fun _ s13_2 => ∀ c k : Nat, c ≠ r → ¬ (c = 51 ∧ k = 10) → c ≠ 67 → c ≠ 68 → s13_2 c k = h1 c k) (zcn (h 51 1)) (fun _ _ _ _ _ _ => rfl) (fun i13_2 s13_2 hi13_2 hI13_2 => ⟨(fun c k q0 q1 q2 q3 => (by (try dsimp only); exact (zite_fr (fun _ => ((zup_fr (by omega)).trans ((zup_fr (Or.inl (by assumption))).trans ((zup_fr (Or.inl (by assumption))).trans ((zup_fr (Or.inl (by assumption))).trans ((zup_fr (Or.inl (by assumption))).trans (hI13_2 _ _ (by assumption) (by assumption) (by assumption) (by assumption)))))))) (fun _ => ((zup_fr (Or.inl (by assumption))).trans ((zup_fr (Or.inl (by assumption))).trans (hI13_2 _ _ (by assumption) (by assumption) (by assumption) (by assumption)))))))), fun hk13_2 => ?_⟩) (fun r13_2 er13_2 hI13_2 => ?_)
  · refine zr_iload_n C d_X7_roundOf_13 rfl ?_
    refine zr_aload_n C d_X7_roundOf_14 rfl ?_
    refine gf_Model_2 C m755 d_X7_roundOf_15 ?_
    refine zr_top ((hI13_2 _ _ (by omega) (by omega) (by omega) (by omega)).trans ((congrFun (congrFun eh1.symm _) _).trans (zup_fr (by omega)))) ?_
    refine zr_icmp_ge C 182 d_X7_roundOf_18 (by decide) (fun c => absurd c (zge_no rfl (by omega))) (fun _ => ?_)
    refine zr_aload_n C d_X7_roundOf_21 rfl ?_
    refine gf_Model_26 C m779 d_X7_roundOf_22 ?_
    refine zr_iload_n C d_X7_roundOf_25 rfl ?_
    refine zr_aload_n C d_X7_roundOf_26 rfl ?_
    refine zr_iload_n C d_X7_roundOf_27 rfl ?_
    refine zr_iald C (za_row hr) (i13_2) rfl (by omega) (by decide) d_X7_roundOf_28 ?_
    refine zr_iast C za_67 (i13_2) rfl (by omega) (by decide) d_X7_roundOf_29 ?_
    refine zr_h (fun h3 eh3 => ?_)
    refine zr_aload_n C d_X7_roundOf_30 rfl ?_
    refine gf_Model_27 C m780 d_X7_roundOf_31 ?_
    refine zr_iload_n C d_X7_roundOf_34 rfl ?_
    refine zr_bipush C (v := (-9)) d_X7_roundOf_35 (by decide) ?_
    refine zr_iast C za_68 (i13_2) rfl (by omega) (by decide) d_X7_roundOf_37 ?_
    refine zr_h (fun h4 eh4 => ?_)
    refine zr_iload_n C d_X7_roundOf_38 rfl ?_
    refine zr_iload_n C d_X7_roundOf_39 rfl ?_
    refine zr_callSi (As := [.int (o_Model_unsettled h r), .int (nI i13_2)]) (st := []) C (c_Model_has X h4 g (o_Model_unsettled h r) (nI i13_2)) k_Model_has m890 m891 rfl (by decide) rfl (Nat.le_of_ble_eq_true rfl) d_X7_roundOf_40 ?_
    refine zr_istore C [zO X 51, zO X r, zI (o_Model_unsettled h r), zI (nI i13_2), zI (zb (o_Model_has (o_Model_unsettled h r) (nI i13_2))), none] d_X7_roundOf_43 (Nat.le_of_ble_eq_true rfl) rfl rfl ?_
    refine zr_iconst C (v := 0) d_X7_roundOf_45 (by decide) ?_
    refine zr_istore C [zO X 51, zO X r, zI (o_Model_unsettled h r), zI (nI i13_2), zI (zb (o_Model_has (o_Model_unsettled h r) (nI i13_2))), zI 0] d_X7_roundOf_46 (Nat.le_of_ble_eq_true rfl) rfl rfl ?_
    refine zfor (f := (fun (i48_7 : Nat) (s48_7 : Bool) => (s48_7 && (!(o_Model_has ((o_Model_unsettled h r) &&& (h 66 i13_2)) (nI i48_7)) || (!(o_Model_isAbove (nI i48_7) (nI i13_2) (s13_2 r 24))))))) (a := (o_Model_has (o_Model_unsettled h r) (nI i13_2))) (fun i48_7 s48_7 => zV X Γ Q 48 [zO X 51, zO X r, zI (o_Model_unsettled h r), zI (nI i13_2), zI (zb s48_7), zI (nI i48_7)] [] h4 g) (fun _ _ => True) (zcn (h 51 1)) trivial (fun i48_7 s48_7 hi48_7 hI48_7 => ⟨trivial, fun hk48_7 => ?_⟩) (fun r48_7 er48_7 hI48_7 => ?_)
    · refine zr_iload C d_X7_roundOf_48 rfl ?_
      refine zr_aload_n C d_X7_roundOf_50 rfl ?_
      refine gf_Model_2 C m755 d_X7_roundOf_51 ?_
      refine zr_top ((congrFun (congrFun eh4.symm _) _).trans ((zup_fr (by omega)).trans ((congrFun (congrFun eh3.symm _) _).trans ((zup_fr (by omega)).trans ((hI13_2 _ _ (by omega) (by omega) (by omega) (by omega)).trans ((congrFun (congrFun eh1.symm _) _).trans (zup_fr (by omega)))))))) ?_
      refine zr_icmp_ge C 104 d_X7_roundOf_54 (by decide) (fun c => absurd c (zge_no rfl (by omega))) (fun _ => ?_)
      refine zr_iload C d_X7_roundOf_57 rfl ?_
      suffices hJ59 : ∀ (y8 : Bool), (s48_7 && (!(o_Model_has ((o_Model_unsettled h r) &&& (h 66 i13_2)) (nI i48_7)) || (!(o_Model_isAbove (nI i48_7) (nI i13_2) (s13_2 r 24))))) = y8 → zV X Γ Q 96 [zO X 51, zO X r, zI (o_Model_unsettled h r), zI (nI i13_2), none, zI (nI i48_7)] [.int (zb y8)] h4 g by
        refine zr_ifz_eq C 95 d_X7_roundOf_59 (by decide) (fun c59 => ?_) (fun c59 => ?_)
        · refine zr_iconst C (v := 0) d_X7_roundOf_95 (by decide) ?_
          refine zr_lv [zO X 51, zO X r, zI (o_Model_unsettled h r), zI (nI i13_2), none, zI (nI i48_7)] (by simp [zle]) ?_
          exact hJ59 false (by simp [c59])
        · refine zr_iload_n C d_X7_roundOf_62 rfl ?_
          refine zr_aload_n C d_X7_roundOf_63 rfl ?_
          refine gf_Model_25 C m778 d_X7_roundOf_64 ?_
          refine zr_iload_n C d_X7_roundOf_67 rfl ?_
          refine zr_iald C za_66 (i13_2) rfl (by omega) (by decide) d_X7_roundOf_68 ?_
          refine zr_top ((congrFun (congrFun eh4.symm _) _).trans ((zup_fr (by omega)).trans ((congrFun (congrFun eh3.symm _) _).trans ((zup_fr (by omega)).trans ((hI13_2 _ _ (by omega) (by omega) (by omega) (by omega)).trans ((congrFun (congrFun eh1.symm _) _).trans (zup_fr (by omega)))))))) ?_
          refine zr_iand C d_X7_roundOf_69 ?_
          refine zr_iload C d_X7_roundOf_70 rfl ?_
          refine zr_callSi (As := [.int ((o_Model_unsettled h r) &&& (h 66 i13_2)), .int (nI i48_7)]) (st := []) C (c_Model_has X h4 g ((o_Model_unsettled h r) &&& (h 66 i13_2)) (nI i48_7)) k_Model_has m890 m891 rfl (by decide) rfl (Nat.le_of_ble_eq_true rfl) d_X7_roundOf_72 ?_
          refine zr_ifz_eq C 91 d_X7_roundOf_75 (by decide) (fun c75 => ?_) (fun c75 => ?_)
          · refine zr_iconst C (v := 1) d_X7_roundOf_91 (by decide) ?_
            refine zr_goto C 96 d_X7_roundOf_92 (by decide) ?_
            refine zr_lv [zO X 51, zO X r, zI (o_Model_unsettled h r), zI (nI i13_2), none, zI (nI i48_7)] (by simp [zle]) ?_
            exact hJ59 true (by simp [c59, c75])
          · refine zr_iload C d_X7_roundOf_78 rfl ?_
            refine zr_iload_n C d_X7_roundOf_80 rfl ?_
            refine zr_aload_n C d_X7_roundOf_81 rfl ?_
            refine zr_bipush C (v := 24) d_X7_roundOf_82 (by decide) ?_
            refine zr_iald C (za_row hr) (24) rfl (by omega) (by decide) d_X7_roundOf_84 ?_
            refine zr_top ((congrFun (congrFun eh4.symm _) _).trans ((zup_fr (by omega)).trans ((congrFun (congrFun eh3.symm _) _).trans (zup_fr (by omega))))) ?_
            refine zr_callSi (As := [.int (nI i48_7), .int (nI i13_2), .int (s13_2 r 24)]) (st := []) C (c_Model_isAbove X h4 g (nI i48_7) (nI i13_2) (s13_2 r 24)) k_Model_isAbove m943 m944 rfl (by decide) rfl (Nat.le_of_ble_eq_true rfl) d_X7_roundOf_85 ?_
            refine zr_ifz_ne C 95 d_X7_roundOf_88 (by decide) (fun c88 => ?_) (fun c88 => ?_)
            · refine zr_iconst C (v := 0) d_X7_roundOf_95 (by decide) ?_
              refine zr_lv [zO X 51, zO X r, zI (o_Model_unsettled h r), zI (nI i13_2), none, zI (nI i48_7)] (by simp [zle]) ?_
              exact hJ59 false (by simp [c59, c75, c88])
            · refine zr_iconst C (v := 1) d_X7_roundOf_91 (by decide) ?_
              refine zr_goto C 96 d_X7_roundOf_92 (by decide) ?_
              refine zr_lv [zO X 51, zO X r, zI (o_Model_unsettled h r), zI (nI i13_2), none, zI (nI i48_7)] (by simp [zle]) ?_
              exact hJ59 true (by simp [c59, c75, c88])
      intro y8 ey8
      refine zr_istore C [zO X 51, zO X r, zI (o_Model_unsettled h r), zI (nI i13_2), zI (zb y8), zI (nI i48_7)] d_X7_roundOf_96 (Nat.le_of_ble_eq_true rfl) rfl rfl ?_
      refine zr_iinc C [zO X 51, zO X r, zI (o_Model_unsettled h r), zI (nI i13_2), zI (zb y8), zI (nI (i48_7 + 1))] (v := (nI (i48_7 + 1))) d_X7_roundOf_98 rfl (zn_add rfl rfl) (Nat.le_of_ble_eq_true rfl) rfl rfl ?_
      refine zr_goto C 48 d_X7_roundOf_101 (by decide) ?_
      exact hk48_7 y8 (by subst ey8; exact rfl)
    refine zr_iload C d_X7_roundOf_48 rfl ?_
    refine zr_aload_n C d_X7_roundOf_50 rfl ?_
    refine gf_Model_2 C m755 d_X7_roundOf_51 ?_
    refine zr_top ((congrFun (congrFun eh4.symm _) _).trans ((zup_fr (by omega)).trans ((congrFun (congrFun eh3.symm _) _).trans ((zup_fr (by omega)).trans ((hI13_2 _ _ (by omega) (by omega) (by omega) (by omega)).trans ((congrFun (congrFun eh1.symm _) _).trans (zup_fr (by omega)))))))) ?_
    refine zr_icmp_ge C 104 d_X7_roundOf_54 (by decide) (fun _ => ?_) (fun c => absurd (zge_yes rfl (by omega) (by have := zcn_small (h 51 1); omega)) c)
    refine zr_iload C d_X7_roundOf_104 rfl ?_
    suffices hJ106 : ∀ (h14 : zHp), (if r48_7 = true then (zup (zup (zup h4 67 i13_2 (o_Model_leastOf (o_Model_free s13_2 r i13_2))) 68 i13_2 (if (o_Model_leastOf (o_Model_free s13_2 r i13_2)) = (-9) then (-9) else (s13_2 r i13_2))) 51 10 (zb (!(decide ((s13_2 51 10) = 0)) || (!(decide ((o_Model_leastOf (o_Model_free s13_2 r i13_2)) = (-9))))))) else h4) = h14 → zV X Γ Q 176 [zO X 51, zO X r, zI (o_Model_unsettled h r), zI (nI i13_2), none, none] [] h14 g by
      refine zr_ifz_eq C 176 d_X7_roundOf_106 (by decide) (fun c106 => ?_) (fun c106 => ?_)
      · refine zr_lv [zO X 51, zO X r, zI (o_Model_unsettled h r), zI (nI i13_2), none, none] (by simp [zle]) ?_
        exact hJ106 h4 (((if_neg (zbf c106))))
      · refine zr_aload_n C d_X7_roundOf_109 rfl ?_
        refine gf_Model_26 C m779 d_X7_roundOf_110 ?_
        refine zr_iload_n C d_X7_roundOf_113 rfl ?_
        refine zr_aload_n C d_X7_roundOf_114 rfl ?_
        refine zr_aload_n C d_X7_roundOf_115 rfl ?_
        refine zr_iload_n C d_X7_roundOf_116 rfl ?_
        refine zr_callVi (As := [zR X r, .int (nI i13_2)]) (st := [.int (nI i13_2), zR X 67]) (c := 51) C (c_Model_free X h4 g r i13_2 rfl hr (zfit_fr ((congrFun (congrFun eh4.symm _) _).trans ((zup_fr (by omega)).trans ((congrFun (congrFun eh3.symm _) _).trans ((zup_fr (by omega)).trans ((hI13_2 _ _ (by omega) (by omega) (by omega) (by omega)).trans ((congrFun (congrFun eh1.symm _) _).trans (zup_fr (by omega)))))))) hf0) (zper_fr ((congrFun (congrFun eh4.symm _) _).trans ((zup_fr (by omega)).trans ((congrFun (congrFun eh3.symm _) _).trans ((zup_fr (by omega)).trans ((hI13_2 _ _ (by omega) (by omega) (by omega) (by omega)).trans ((congrFun (congrFun eh1.symm _) _).trans (zup_fr (by omega)))))))) (fun v => ((congrFun (congrFun eh4.symm _) _).trans ((zup_fr (by omega)).trans ((congrFun (congrFun eh3.symm _) _).trans ((zup_fr (by omega)).trans ((hI13_2 _ _ (by omega) (by omega) (by omega) (by omega)).trans ((congrFun (congrFun eh1.symm _) _).trans (zup_fr (by omega))))))))) hper) (by omega) (zper_fr1 ((congrFun (congrFun eh4.symm _) _).trans ((zup_fr (by omega)).trans ((congrFun (congrFun eh3.symm _) _).trans ((zup_fr (by omega)).trans ((hI13_2 _ _ (by omega) (by omega) (by omega) (by omega)).trans ((congrFun (congrFun eh1.symm _) _).trans (zup_fr (by omega)))))))) (hper i13_2 (by omega)))) k_Model_free m961 m963 m37 (by decide) (zC_Model X _ _) rfl rfl (by decide) rfl (Nat.le_of_ble_eq_true rfl) d_X7_roundOf_117 ?_
        refine zr_top (rd_Model_free ((congrFun (congrFun eh4.symm _) _).trans ((zup_fr (by omega)).trans ((congrFun (congrFun eh3.symm _) _).trans (zup_fr (by omega))))) (funext fun kk => ((congrFun (congrFun eh4.symm _) _).trans ((zup_fr (by omega)).trans ((congrFun (congrFun eh3.symm _) _).trans (zup_fr (by omega)))))) (funext fun kk => ((congrFun (congrFun eh4.symm _) _).trans ((zup_fr (by omega)).trans ((congrFun (congrFun eh3.symm _) _).trans (zup_fr (by omega)))))) (funext fun kk => ((congrFun (congrFun eh4.symm _) _).trans ((zup_fr (by omega)).trans ((congrFun (congrFun eh3.symm _) _).trans (zup_fr (by omega))))))) ?_
        refine zr_callSi (As := [.int (o_Model_free s13_2 r i13_2)]) (st := [.int (nI i13_2), zR X 67]) C (c_Model_leastOf X h4 g (o_Model_free s13_2 r i13_2)) k_Model_leastOf m973 m974 rfl (by decide) rfl (Nat.le_of_ble_eq_true rfl) d_X7_roundOf_120 ?_
        refine zr_iast C za_67 (i13_2) rfl (by omega) (by decide) d_X7_roundOf_123 ?_
        refine zr_h (fun h9 eh9 => ?_)
        refine zr_aload_n C d_X7_roundOf_124 rfl ?_
        refine gf_Model_27 C m780 d_X7_roundOf_125 ?_
        refine zr_iload_n C d_X7_roundOf_128 rfl ?_
        refine zr_aload_n C d_X7_roundOf_129 rfl ?_
        refine gf_Model_26 C m779 d_X7_roundOf_130 ?_
        refine zr_iload_n C d_X7_roundOf_133 rfl ?_
        refine zr_iald C za_67 (i13_2) rfl (by omega) (by decide) d_X7_roundOf_134 ?_
        refine zr_top ((congrFun (congrFun eh9.symm _) _).trans zup_at) ?_
        refine zr_bipush C (v := (-9)) d_X7_roundOf_135 (by decide) ?_
        suffices hJ137 : ∀ (y10 : Int32), (if (o_Model_leastOf (o_Model_free s13_2 r i13_2)) = (-9) then (-9) else (s13_2 r i13_2)) = y10 → zV X Γ Q 148 [zO X 51, zO X r, zI (o_Model_unsettled h r), zI (nI i13_2), none, none] [.int y10, .int (nI i13_2), zR X 68] h9 g by
          refine zr_icmp_ne C 145 d_X7_roundOf_137 (by decide) (fun c137 => ?_) (fun c137 => ?_)
          · refine zr_aload_n C d_X7_roundOf_145 rfl ?_
            refine zr_iload_n C d_X7_roundOf_146 rfl ?_
            refine zr_iald C (za_row hr) (i13_2) rfl (by omega) (by decide) d_X7_roundOf_147 ?_
            refine zr_top ((congrFun (congrFun eh9.symm _) _).trans ((zup_fr (by omega)).trans ((congrFun (congrFun eh4.symm _) _).trans ((zup_fr (by omega)).trans ((congrFun (congrFun eh3.symm _) _).trans (zup_fr (by omega))))))) ?_
            refine zr_lv [zO X 51, zO X r, zI (o_Model_unsettled h r), zI (nI i13_2), none, none] (by simp [zle]) ?_
            exact hJ137 (s13_2 r i13_2) (((if_neg c137)))
          · refine zr_bipush C (v := (-9)) d_X7_roundOf_140 (by decide) ?_
            refine zr_goto C 148 d_X7_roundOf_142 (by decide) ?_
            refine zr_lv [zO X 51, zO X r, zI (o_Model_unsettled h r), zI (nI i13_2), none, none] (by simp [zle]) ?_
            exact hJ137 (-9) (((if_pos c137)))
        intro y10 ey10
        refine zr_iast C za_68 (i13_2) rfl (by omega) (by decide) d_X7_roundOf_148 ?_
        refine zr_h (fun h11 eh11 => ?_)
        refine zr_aload_n C d_X7_roundOf_149 rfl ?_
        refine zr_aload_n C d_X7_roundOf_150 rfl ?_
        refine gf_Model_28 C m781 d_X7_roundOf_151 ?_
        refine zr_top ((congrFun (congrFun eh11.symm _) _).trans ((zup_fr (by omega)).trans ((congrFun (congrFun eh9.symm _) _).trans ((zup_fr (by omega)).trans ((congrFun (congrFun eh4.symm _) _).trans ((zup_fr (by omega)).trans ((congrFun (congrFun eh3.symm _) _).trans (zup_fr (by omega))))))))) ?_
        suffices hJ154 : ∀ (y12 : Bool), (!(decide ((s13_2 51 10) = 0)) || (!(decide ((o_Model_leastOf (o_Model_free s13_2 r i13_2)) = (-9))))) = y12 → zV X Γ Q 173 [zO X 51, zO X r, zI (o_Model_unsettled h r), zI (nI i13_2), none, none] [.int (zb y12), zR X 51] h11 g by
          refine zr_if_ne C 168 d_X7_roundOf_154 (by decide) (fun c154 => ?_) (fun c154 => ?_)
          · refine zr_iconst C (v := 1) d_X7_roundOf_168 (by decide) ?_
            refine zr_goto C 173 d_X7_roundOf_169 (by decide) ?_
            exact hJ154 true (by simp [c154])
          · refine zr_aload_n C d_X7_roundOf_157 rfl ?_
            refine gf_Model_26 C m779 d_X7_roundOf_158 ?_
            refine zr_iload_n C d_X7_roundOf_161 rfl ?_
            refine zr_iald C za_67 (i13_2) rfl (by omega) (by decide) d_X7_roundOf_162 ?_
            refine zr_top (((congrFun (congrFun eh11.symm _) _).trans (zup_fr (by omega))).trans ((congrFun (congrFun eh9.symm _) _).trans zup_at)) ?_
            refine zr_bipush C (v := (-9)) d_X7_roundOf_163 (by decide) ?_
            refine zr_icmp_eq C 172 d_X7_roundOf_165 (by decide) (fun c165 => ?_) (fun c165 => ?_)
            · refine zr_iconst C (v := 0) d_X7_roundOf_172 (by decide) ?_
              exact hJ154 false (by simp [c154, c165])
            · refine zr_iconst C (v := 1) d_X7_roundOf_168 (by decide) ?_
              refine zr_goto C 173 d_X7_roundOf_169 (by decide) ?_
              exact hJ154 true (by simp [c154, c165])
        intro y12 ey12
        refine pf_Model_28 C (zb_01 _) m781 d_X7_roundOf_173 ?_
        refine zr_h (fun h13 eh13 => ?_)
        exact hJ106 h13 (by subst eh13 ey12 eh11 ey10 eh9; exact ((if_pos c106)))
    intro h14 eh14
    refine zr_iinc C [zO X 51, zO X r, zI (o_Model_unsettled h r), zI (nI (i13_2 + 1)), none, none] (v := (nI (i13_2 + 1))) d_X7_roundOf_176 rfl (zn_add rfl rfl) (Nat.le_of_ble_eq_true rfl) rfl rfl ?_
    refine zr_goto C 13 d_X7_roundOf_179 (by decide) ?_
    exact hk13_2 h14 (by subst eh14 er48_7 eh4 eh3; exact rfl)
  refine zr_iload_n C d_X7_roundOf_13 rfl ?_
  refine zr_aload_n C d_X7_roundOf_14 rfl ?_
  refine gf_Model_2 C m755 d_X7_roundOf_15 ?_
  refine zr_top ((hI13_2 _ _ (by omega) (by omega) (by omega) (by omega)).trans ((congrFun (congrFun eh1.symm _) _).trans (zup_fr (by omega)))) ?_
  refine zr_icmp_ge C 182 d_X7_roundOf_18 (by decide) (fun _ => ?_) (fun c => absurd (zge_yes rfl (by omega) (by have := zcn_small (h 51 1); omega)) c)
  refine zr_iconst C (v := 0) d_X7_roundOf_182 (by decide) ?_
  refine zr_istore_n C [zO X 51, zO X r, zI (o_Model_unsettled h r), zI 0, none, none] d_X7_roundOf_183 (Nat.le_of_ble_eq_true rfl) rfl rfl ?_
  refine zr_iconst C (v := 0) d_X7_roundOf_184 (by decide) ?_
  refine zr_istore C [zO X 51, zO X r, zI (o_Model_unsettled h r), zI 0, zI 0, none] d_X7_roundOf_185 (Nat.le_of_ble_eq_true rfl) rfl rfl ?_
  refine zr_lv [zO X 51, zO X r, none, zI 0, zI 0, none] (by simp [zle]) ?_
  refine zfor (f := (fun (i187_15 : Nat) (s187_15 : Int32 × zHp) => ((s187_15.1 + (zb (!(decide ((s187_15.2 r i187_15) = (s187_15.2 67 i187_15)))))), (zup (zup s187_15.2 r i187_15 (s187_15.2 67 i187_15)) r (8 + i187_15) (s187_15.2 68 i187_15))))) (a := (0, r13_2)) (fun i187_15 s187_15 => zV X Γ Q 187 [zO X 51, zO X r, none, zI s187_15.1, zI (nI i187_15), none] [] s187_15.2 g) (fun _ s187_15 => ∀ c k : Nat, c ≠ r → ¬ (c = 51 ∧ k = 10) → c ≠ 67 → c ≠ 68 → s187_15.2 c k = r13_2 c k) (zcn (h 51 1)) (fun _ _ _ _ _ _ => (by dsimp only)) (fun i187_15 s187_15 hi187_15 hI187_15 => ⟨(fun c k q0 q1 q2 q3 => (by (try dsimp only); exact ((zup_fr (Or.inl (by assumption))).trans ((zup_fr (Or.inl (by assumption))).trans (hI187_15 _ _ (by assumption) (by assumption) (by assumption) (by assumption)))))), fun hk187_15 => ?_⟩) (fun r187_15 er187_15 hI187_15 => ?_)
  · refine zr_iload C d_X7_roundOf_187 rfl ?_
    refine zr_aload_n C d_X7_roundOf_189 rfl ?_
    refine gf_Model_2 C m755 d_X7_roundOf_190 ?_
    refine zr_top ((hI187_15 _ _ (by omega) (by omega) (by omega) (by omega)).trans ((hI13_2 _ _ (by omega) (by omega) (by omega) (by omega)).trans ((congrFun (congrFun eh1.symm _) _).trans (zup_fr (by omega))))) ?_
    refine zr_icmp_ge C 249 d_X7_roundOf_193 (by decide) (fun c => absurd c (zge_no rfl (by omega))) (fun _ => ?_)
    refine zr_iload_n C d_X7_roundOf_196 rfl ?_
    refine zr_aload_n C d_X7_roundOf_197 rfl ?_
    refine zr_iload C d_X7_roundOf_198 rfl ?_
    refine zr_iald C (za_row hr) (i187_15) rfl (by omega) (by decide) d_X7_roundOf_200 ?_
    refine zr_aload_n C d_X7_roundOf_201 rfl ?_
    refine gf_Model_26 C m779 d_X7_roundOf_202 ?_
    refine zr_iload C d_X7_roundOf_205 rfl ?_
    refine zr_iald C za_67 (i187_15) rfl (by omega) (by decide) d_X7_roundOf_207 ?_
    suffices hJ208 : ∀ (y16 : Bool), (!(decide ((s187_15.2 r i187_15) = (s187_15.2 67 i187_15)))) = y16 → zV X Γ Q 216 [zO X 51, zO X r, none, none, zI (nI i187_15), none] [.int (zb y16), .int s187_15.1] s187_15.2 g by
      refine zr_icmp_ne C 215 d_X7_roundOf_208 (by decide) (fun c208 => ?_) (fun c208 => ?_)
      · refine zr_iconst C (v := 1) d_X7_roundOf_215 (by decide) ?_
        refine zr_lv [zO X 51, zO X r, none, none, zI (nI i187_15), none] (by simp [zle]) ?_
        exact hJ208 true (by simp [c208])
      · refine zr_iconst C (v := 0) d_X7_roundOf_211 (by decide) ?_
        refine zr_goto C 216 d_X7_roundOf_212 (by decide) ?_
        refine zr_lv [zO X 51, zO X r, none, none, zI (nI i187_15), none] (by simp [zle]) ?_
        exact hJ208 false (by simp [c208])
    intro y16 ey16
    refine zr_iadd C d_X7_roundOf_216 ?_
    refine zr_istore_n C [zO X 51, zO X r, none, zI (s187_15.1 + (zb y16)), zI (nI i187_15), none] d_X7_roundOf_217 (Nat.le_of_ble_eq_true rfl) rfl rfl ?_
    refine zr_aload_n C d_X7_roundOf_218 rfl ?_
    refine zr_iload C d_X7_roundOf_219 rfl ?_
    refine zr_aload_n C d_X7_roundOf_221 rfl ?_
    refine gf_Model_26 C m779 d_X7_roundOf_222 ?_
    refine zr_iload C d_X7_roundOf_225 rfl ?_
    refine zr_iald C za_67 (i187_15) rfl (by omega) (by decide) d_X7_roundOf_227 ?_
    refine zr_iast C (za_row hr) (i187_15) rfl (by omega) (by decide) d_X7_roundOf_228 ?_
    refine zr_h (fun h17 eh17 => ?_)
    refine zr_aload_n C d_X7_roundOf_229 rfl ?_
    refine zr_bipush C (v := 8) d_X7_roundOf_230 (by decide) ?_
    refine zr_iload C d_X7_roundOf_232 rfl ?_
    refine zr_iadd C d_X7_roundOf_234 ?_
    refine zr_aload_n C d_X7_roundOf_235 rfl ?_
    refine gf_Model_27 C m780 d_X7_roundOf_236 ?_
    refine zr_iload C d_X7_roundOf_239 rfl ?_
    refine zr_iald C za_68 (i187_15) rfl (by omega) (by decide) d_X7_roundOf_241 ?_
    refine zr_top ((congrFun (congrFun eh17.symm _) _).trans (zup_fr (by omega))) ?_
    refine zr_iast C (za_row hr) (8 + i187_15) (zn_add rfl rfl) (by omega) (by decide) d_X7_roundOf_242 ?_
    refine zr_h (fun h18 eh18 => ?_)
    refine zr_iinc C [zO X 51, zO X r, none, zI (s187_15.1 + (zb y16)), zI (nI (i187_15 + 1)), none] (v := (nI (i187_15 + 1))) d_X7_roundOf_243 rfl (zn_add rfl rfl) (Nat.le_of_ble_eq_true rfl) rfl rfl ?_
    refine zr_goto C 187 d_X7_roundOf_246 (by decide) ?_
    exact hk187_15 ((s187_15.1 + (zb y16)), h18) (by subst eh18 eh17 ey16; exact rfl)
  refine zr_iload C d_X7_roundOf_187 rfl ?_
  refine zr_aload_n C d_X7_roundOf_189 rfl ?_
  refine gf_Model_2 C m755 d_X7_roundOf_190 ?_
  refine zr_top ((hI187_15 _ _ (by omega) (by omega) (by omega) (by omega)).trans ((hI13_2 _ _ (by omega) (by omega) (by omega) (by omega)).trans ((congrFun (congrFun eh1.symm _) _).trans (zup_fr (by omega))))) ?_
  refine zr_icmp_ge C 249 d_X7_roundOf_193 (by decide) (fun _ => ?_) (fun c => absurd (zge_yes rfl (by omega) (by have := zcn_small (h 51 1); omega)) c)
  refine zr_aload_n C d_X7_roundOf_249 rfl ?_
  refine zr_bipush C (v := 24) d_X7_roundOf_250 (by decide) ?_
  refine zr_dup2 C d_X7_roundOf_252 rfl rfl ?_
  refine zr_iald C (za_row hr) (24) rfl (by omega) (by decide) d_X7_roundOf_253 ?_
  refine zr_iconst C (v := 1) d_X7_roundOf_254 (by decide) ?_
  refine zr_iadd C d_X7_roundOf_255 ?_
  refine zr_iast C (za_row hr) (24) rfl (by omega) (by decide) d_X7_roundOf_256 ?_
  refine zr_h (fun h19 eh19 => ?_)
  refine zr_iload_n C d_X7_roundOf_257 rfl ?_
  have eR : o_Model_roundOf h r = (r187_15.1, h19) := (by subst eh19 er187_15 er13_2 eh1; unfold o_Model_roundOf; exact rfl)
  subst hQ
  exact zTQ_Ih eR (zr_ireti C d_X7_roundOf_258)
theorem d_X7_runOf_0 : decode prog_9_method_37_code 0 = .ok (.aload_n 0, 1) := by decide +kernel
theorem d_X7_runOf_1 : decode prog_9_method_37_code 1 = .ok (.iconst 0, 1) := by decide +kernel
theorem d_X7_runOf_2 : decode prog_9_method_37_code 2 = .ok (.putfield 181, 3) := by decide +kernel
theorem d_X7_runOf_5 : decode prog_9_method_37_code 5 = .ok (.iconst 0, 1) := by decide +kernel
theorem d_X7_runOf_6 : decode prog_9_method_37_code 6 = .ok (.istore_n 2, 1) := by decide +kernel
theorem d_X7_runOf_7 : decode prog_9_method_37_code 7 = .ok (.iload_n 2, 1) := by decide +kernel
theorem d_X7_runOf_8 : decode prog_9_method_37_code 8 = .ok (.bipush 40, 2) := by decide +kernel
theorem d_X7_runOf_10 : decode prog_9_method_37_code 10 = .ok (.if_icmp .ge 46, 3) := by decide +kernel
theorem d_X7_runOf_13 : decode prog_9_method_37_code 13 = .ok (.aload_n 0, 1) := by decide +kernel
theorem d_X7_runOf_14 : decode prog_9_method_37_code 14 = .ok (.aload_n 1, 1) := by decide +kernel
theorem d_X7_runOf_15 : decode prog_9_method_37_code 15 = .ok (.invokevirtual 184, 3) := by decide +kernel
theorem d_X7_runOf_18 : decode prog_9_method_37_code 18 = .ok (.ifCond .eq 5, 3) := by decide +kernel
theorem d_X7_runOf_21 : decode prog_9_method_37_code 21 = .ok (.iload_n 2, 1) := by decide +kernel
theorem d_X7_runOf_22 : decode prog_9_method_37_code 22 = .ok (.ireturn, 1) := by decide +kernel
theorem d_X7_runOf_23 : decode prog_9_method_37_code 23 = .ok (.aload_n 0, 1) := by decide +kernel
theorem d_X7_runOf_24 : decode prog_9_method_37_code 24 = .ok (.aload_n 1, 1) := by decide +kernel
theorem d_X7_runOf_25 : decode prog_9_method_37_code 25 = .ok (.invokevirtual 188, 3) := by decide +kernel
theorem d_X7_runOf_28 : decode prog_9_method_37_code 28 = .ok (.pop, 1) := by decide +kernel
theorem d_X7_runOf_29 : decode prog_9_method_37_code 29 = .ok (.aload_n 0, 1) := by decide +kernel
theorem d_X7_runOf_30 : decode prog_9_method_37_code 30 = .ok (.dup, 1) := by decide +kernel
theorem d_X7_runOf_31 : decode prog_9_method_37_code 31 = .ok (.getfield 181, 3) := by decide +kernel
theorem d_X7_runOf_34 : decode prog_9_method_37_code 34 = .ok (.aload_n 0, 1) := by decide +kernel
theorem d_X7_runOf_35 : decode prog_9_method_37_code 35 = .ok (.getfield 173, 3) := by decide +kernel
theorem d_X7_runOf_38 : decode prog_9_method_37_code 38 = .ok (.ifCond .eq 7, 3) := by decide +kernel
theorem d_X7_runOf_41 : decode prog_9_method_37_code 41 = .ok (.iconst 1, 1) := by decide +kernel
theorem d_X7_runOf_42 : decode prog_9_method_37_code 42 = .ok (.goto 4, 3) := by decide +kernel
theorem d_X7_runOf_45 : decode prog_9_method_37_code 45 = .ok (.iconst 0, 1) := by decide +kernel
theorem d_X7_runOf_46 : decode prog_9_method_37_code 46 = .ok (.iadd, 1) := by decide +kernel
theorem d_X7_runOf_47 : decode prog_9_method_37_code 47 = .ok (.putfield 181, 3) := by decide +kernel
theorem d_X7_runOf_50 : decode prog_9_method_37_code 50 = .ok (.iinc 2 1, 3) := by decide +kernel
theorem d_X7_runOf_53 : decode prog_9_method_37_code 53 = .ok (.goto (-46), 3) := by decide +kernel
theorem d_X7_runOf_56 : decode prog_9_method_37_code 56 = .ok (.aload_n 0, 1) := by decide +kernel
theorem d_X7_runOf_57 : decode prog_9_method_37_code 57 = .ok (.aload_n 1, 1) := by decide +kernel
theorem d_X7_runOf_58 : decode prog_9_method_37_code 58 = .ok (.invokevirtual 184, 3) := by decide +kernel
theorem d_X7_runOf_61 : decode prog_9_method_37_code 61 = .ok (.ifCond .eq 8, 3) := by decide +kernel
theorem d_X7_runOf_64 : decode prog_9_method_37_code 64 = .ok (.bipush 40, 2) := by decide +kernel
theorem d_X7_runOf_66 : decode prog_9_method_37_code 66 = .ok (.goto 5, 3) := by decide +kernel
theorem d_X7_runOf_69 : decode prog_9_method_37_code 69 = .ok (.bipush (-9), 2) := by decide +kernel
theorem d_X7_runOf_71 : decode prog_9_method_37_code 71 = .ok (.ireturn, 1) := by decide +kernel
abbrev M_Model_runOf : zMT := (⟨"PeriodSlotsModel", "runOf", "([I)I"⟩, prog_9_method_37_code, 3, (some .int))
theorem k_Model_runOf : zcall M_Model_runOf 1 := ⟨zU_in (i := 1037) (by decide +kernel) rfl, m62, ⟨by decide, by decide, by decide +kernel⟩, by decide⟩
def o_Model_runOf (h : zHp) (r : Nat) : Int32 × zHp :=
  (Sum.elim (fun r7_2 => ((if (o_Model_isQuiet r7_2 r) = true then 40 else (-9)), r7_2)) (fun q7_2 => q7_2) (zrex (fun (i7_2 : Nat) (s7_2 : zHp) => ((if (o_Model_isQuiet s7_2 r) = true then .inr ((nI i7_2), s7_2) else .inl (zup ((o_Model_roundOf s7_2 r).2) 51 11 ((s7_2 51 11) + (zb (!(decide ((((o_Model_roundOf s7_2 r).2) 51 10) = 0))))))) : (zHp) ⊕ (Int32 × zHp))) (zup h 51 11 0) 40))
theorem fr_Model_runOf {h : zHp} {r : Nat} (c k : Nat) (q0 : c ≠ r) (q1 : ¬ (c = 51 ∧ k = 10)) (q2 : ¬ (c = 51 ∧ k = 11)) (q3 : c ≠ 67) (q4 : c ≠ 68) : (o_Model_runOf h r).2 c k = h c k := by
  unfold o_Model_runOf
  have hX := zrex_inv (f := (fun (i7_2 : Nat) (s7_2 : zHp) => ((if (o_Model_isQuiet s7_2 r) = true then .inr ((nI i7_2), s7_2) else .inl (zup ((o_Model_roundOf s7_2 r).2) 51 11 ((s7_2 51 11) + (zb (!(decide ((((o_Model_roundOf s7_2 r).2) 51 10) = 0))))))) : (zHp) ⊕ (Int32 × zHp)))) (a := (zup h 51 11 0)) (fun _ s7_2 => ∀ c k : Nat, c ≠ r → ¬ (c = 51 ∧ k = 10) → ¬ (c = 51 ∧ k = 11) → c ≠ 67 → c ≠ 68 → s7_2 c k = (zup h 51 11 0) c k) (fun q7_2 => ∀ c k : Nat, c ≠ r → ¬ (c = 51 ∧ k = 10) → ¬ (c = 51 ∧ k = 11) → c ≠ 67 → c ≠ 68 → q7_2.2 c k = (zup h 51 11 0) c k) (40) (fun _ _ _ _ _ _ _ => rfl) (fun i7_2 s7_2 hi7_2 hI7_2 => ⟨(by intro s2 hs; (try dsimp only at hs); by_cases cc : (o_Model_isQuiet s7_2 r) = true; (rw [if_pos cc] at hs; cases hs); (rw [if_neg cc] at hs; cases hs; exact fun c k q0 q1 q2 q3 q4 => (by (try dsimp only); exact ((zup_fr (by omega)).trans ((fr_Model_roundOf _ _ (by assumption) (by assumption) (by assumption) (by assumption)).trans (hI7_2 _ _ (by assumption) (by assumption) (by assumption) (by assumption) (by assumption))))))), (by intro rX hs; (try dsimp only at hs); by_cases cc : (o_Model_isQuiet s7_2 r) = true; (rw [if_pos cc] at hs; cases hs; exact fun c k q0 q1 q2 q3 q4 => (by (try dsimp only); exact (hI7_2 _ _ (by assumption) (by assumption) (by assumption) (by assumption) (by assumption)))); (rw [if_neg cc] at hs; cases hs))⟩)
  cases hz : (zrex (fun (i7_2 : Nat) (s7_2 : zHp) => ((if (o_Model_isQuiet s7_2 r) = true then .inr ((nI i7_2), s7_2) else .inl (zup ((o_Model_roundOf s7_2 r).2) 51 11 ((s7_2 51 11) + (zb (!(decide ((((o_Model_roundOf s7_2 r).2) 51 10) = 0))))))) : (zHp) ⊕ (Int32 × zHp))) (zup h 51 11 0) 40) with
  | inl r7_2 =>
    have hI7_2 := hX.1 r7_2 hz
    simp only [Sum.elim_inl]
    try dsimp only
    first | done | exact ((hI7_2 _ _ (by assumption) (by assumption) (by assumption) (by assumption) (by assumption)).trans (zup_fr (by omega)))
  | inr q7_2 =>
    exact (hX.2 q7_2 hz c k (by assumption) (by assumption) (by assumption) (by assumption) (by assumption)).trans (zup_fr (by omega))
set_option maxHeartbeats 400000 in
set_option maxRecDepth 20000 in
theorem c_Model_runOf (X : zXT) (h : zHp) (g : zLg) (r : Nat) (hr : r = 54 ∨ r = 55 ∨ r = 56) (hf0 : zfit h 51 1 8) (hper : zper h) : zDi X M_Model_runOf 7 [zR X 51, zR X r] h g (zI ((o_Model_runOf h r).1)) ((o_Model_runOf h r).2) g := by
  have hf0_1 := hf0.1
  refine zDi_of "PeriodSlotsModel" prog_9_method_37_code 3 (some .int) rfl (by decide) [zO X 51, zO X r, none] rfl (fun _ q => q) (Nat.le_of_ble_eq_true rfl) ?_
  intro Γ Q C hQ
  refine zr_aload_n C d_X7_runOf_0 rfl ?_
  refine zr_iconst C (v := 0) d_X7_runOf_1 (by decide) ?_
  refine pf_Model_29 C m782 d_X7_runOf_2 ?_
  refine zr_h (fun h1 eh1 => ?_)
  refine zr_iconst C (v := 0) d_X7_runOf_5 (by decide) ?_
  refine zr_istore_n C [zO X 51, zO X r, zI 0] d_X7_runOf_6 (Nat.le_of_ble_eq_true rfl) rfl rfl ?_
  refine zforx (f := (fun (i7_2 : Nat) (s7_2 : zHp) => ((if (o_Model_isQuiet s7_2 r) = true then .inr ((nI i7_2), s7_2) else .inl (zup ((o_Model_roundOf s7_2 r).2) 51 11 ((s7_2 51 11) + (zb (!(decide ((((o_Model_roundOf s7_2 r).2) 51 10) = 0))))))) : (zHp) ⊕ (Int32 × zHp)))) (a := h1) (fun i7_2 s7_2 => zV X Γ Q 7 [zO X 51, zO X r, zI (nI i7_2)] [] s7_2 g) (fun _ s7_2 => ∀ c k : Nat, c ≠ r → ¬ (c = 51 ∧ k = 10) → ¬ (c = 51 ∧ k = 11) → c ≠ 67 → c ≠ 68 → s7_2 c k = h1 c k) (40) (fun _ _ _ _ _ _ _ => rfl) (fun i7_2 s7_2 hi7_2 hI7_2 => ⟨(by intro s2 hs; (try dsimp only at hs); by_cases cc : (o_Model_isQuiet s7_2 r) = true; (rw [if_pos cc] at hs; cases hs); (rw [if_neg cc] at hs; cases hs; exact fun c k q0 q1 q2 q3 q4 => (by (try dsimp only); exact ((zup_fr (by omega)).trans ((fr_Model_roundOf _ _ (by assumption) (by assumption) (by assumption) (by assumption)).trans (hI7_2 _ _ (by assumption) (by assumption) (by assumption) (by assumption) (by assumption))))))), fun hk7_2 hx7_2 => ?_⟩) (fun r7_2 er7_2 hI7_2 => ?_)
  · refine zr_iload_n C d_X7_runOf_7 rfl ?_
    refine zr_bipush C (v := 40) d_X7_runOf_8 (by decide) ?_
    refine zr_icmp_ge C 56 d_X7_runOf_10 (by decide) (fun c => absurd c (zge_noN (B := 40) rfl (by omega) (by omega))) (fun _ => ?_)
    refine zr_aload_n C d_X7_runOf_13 rfl ?_
    refine zr_aload_n C d_X7_runOf_14 rfl ?_
    refine zr_callVi (As := [zR X r]) (st := []) (c := 51) C (c_Model_isQuiet X s7_2 g r hr (zfit_fr ((hI7_2 _ _ (by omega) (by omega) (by omega) (by omega) (by omega)).trans ((congrFun (congrFun eh1.symm _) _).trans (zup_fr (by omega)))) hf0) (zper_fr ((hI7_2 _ _ (by omega) (by omega) (by omega) (by omega) (by omega)).trans ((congrFun (congrFun eh1.symm _) _).trans (zup_fr (by omega)))) (fun v => ((hI7_2 _ _ (by omega) (by omega) (by omega) (by omega) (by omega)).trans ((congrFun (congrFun eh1.symm _) _).trans (zup_fr (by omega))))) hper)) k_Model_isQuiet m957 m959 m36 (by decide) (zC_Model X _ _) rfl rfl (by decide) rfl (Nat.le_of_ble_eq_true rfl) d_X7_runOf_15 ?_
    refine zr_ifz_eq C 23 d_X7_runOf_18 (by decide) (fun c18 => ?_) (fun c18 => ?_)
    · refine zr_aload_n C d_X7_runOf_23 rfl ?_
      refine zr_aload_n C d_X7_runOf_24 rfl ?_
      refine zr_callVi (As := [zR X r]) (st := []) (c := 51) C (c_Model_roundOf X s7_2 g r hr (zfit_fr ((hI7_2 _ _ (by omega) (by omega) (by omega) (by omega) (by omega)).trans ((congrFun (congrFun eh1.symm _) _).trans (zup_fr (by omega)))) hf0) (zper_fr ((hI7_2 _ _ (by omega) (by omega) (by omega) (by omega) (by omega)).trans ((congrFun (congrFun eh1.symm _) _).trans (zup_fr (by omega)))) (fun v => ((hI7_2 _ _ (by omega) (by omega) (by omega) (by omega) (by omega)).trans ((congrFun (congrFun eh1.symm _) _).trans (zup_fr (by omega))))) hper)) k_Model_roundOf m992 m994 m42 (by decide) (zC_Model X _ _) rfl rfl (by decide) rfl (Nat.le_of_ble_eq_true rfl) d_X7_runOf_25 ?_
      refine zr_vi (fun y3 ey3 => ?_)
      refine zr_h (fun h4 eh4 => ?_)
      refine zr_pop C d_X7_runOf_28 rfl ?_
      refine zr_aload_n C d_X7_runOf_29 rfl ?_
      refine zr_dup C d_X7_runOf_30 rfl ?_
      refine gf_Model_29 C m782 d_X7_runOf_31 ?_
      refine zr_top ((congrFun (congrFun eh4.symm _) _).trans (fr_Model_roundOf _ _ (by omega) (by omega) (by omega) (by omega))) ?_
      refine zr_aload_n C d_X7_runOf_34 rfl ?_
      refine gf_Model_28 C m781 d_X7_runOf_35 ?_
      suffices hJ38 : ∀ (y5 : Bool), (!(decide ((h4 51 10) = 0))) = y5 → zV X Γ Q 46 [zO X 51, zO X r, zI (nI i7_2)] [.int (zb y5), .int (s7_2 51 11), zR X 51] h4 g by
        refine zr_if_eq C 45 d_X7_runOf_38 (by decide) (fun c38 => ?_) (fun c38 => ?_)
        · refine zr_iconst C (v := 0) d_X7_runOf_45 (by decide) ?_
          exact hJ38 false (by simp [c38])
        · refine zr_iconst C (v := 1) d_X7_runOf_41 (by decide) ?_
          refine zr_goto C 46 d_X7_runOf_42 (by decide) ?_
          exact hJ38 true (by simp [c38])
      intro y5 ey5
      refine zr_iadd C d_X7_runOf_46 ?_
      refine pf_Model_29 C m782 d_X7_runOf_47 ?_
      refine zr_h (fun h6 eh6 => ?_)
      refine zr_iinc C [zO X 51, zO X r, zI (nI (i7_2 + 1))] (v := (nI (i7_2 + 1))) d_X7_runOf_50 rfl (zn_add rfl rfl) (Nat.le_of_ble_eq_true rfl) rfl rfl ?_
      refine zr_goto C 7 d_X7_runOf_53 (by decide) ?_
      exact hk7_2 h6 (by subst eh6 ey5 eh4 ey3; exact ((if_neg (zbf c18))))
    · refine zr_iload_n C d_X7_runOf_21 rfl ?_
      have hr7_2 := hx7_2 (((nI i7_2), s7_2)) (((if_pos c18)))
      have eR : o_Model_runOf h r = ((nI i7_2), s7_2) := (by subst eh1; unfold o_Model_runOf; exact ((congrArg (Sum.elim _ _) hr7_2)))
      subst hQ
      exact zTQ_Ih eR (zr_ireti C d_X7_runOf_22)
  refine zr_iload_n C d_X7_runOf_7 rfl ?_
  refine zr_bipush C (v := 40) d_X7_runOf_8 (by decide) ?_
  refine zr_icmp_ge C 56 d_X7_runOf_10 (by decide) (fun _ => ?_) (fun c => absurd (zge_yesN (B := 40) rfl (by omega) (by omega)) c)
  refine zr_aload_n C d_X7_runOf_56 rfl ?_
  refine zr_aload_n C d_X7_runOf_57 rfl ?_
  refine zr_callVi (As := [zR X r]) (st := []) (c := 51) C (c_Model_isQuiet X r7_2 g r hr (zfit_fr ((hI7_2 _ _ (by omega) (by omega) (by omega) (by omega) (by omega)).trans ((congrFun (congrFun eh1.symm _) _).trans (zup_fr (by omega)))) hf0) (zper_fr ((hI7_2 _ _ (by omega) (by omega) (by omega) (by omega) (by omega)).trans ((congrFun (congrFun eh1.symm _) _).trans (zup_fr (by omega)))) (fun v => ((hI7_2 _ _ (by omega) (by omega) (by omega) (by omega) (by omega)).trans ((congrFun (congrFun eh1.symm _) _).trans (zup_fr (by omega))))) hper)) k_Model_isQuiet m957 m959 m36 (by decide) (zC_Model X _ _) rfl rfl (by decide) rfl (Nat.le_of_ble_eq_true rfl) d_X7_runOf_58 ?_
  suffices hJ61 : ∀ (y7 : Int32), (if (o_Model_isQuiet r7_2 r) = true then 40 else (-9)) = y7 → zV X Γ Q 71 [none, none, none] [.int y7] r7_2 g by
    refine zr_ifz_eq C 69 d_X7_runOf_61 (by decide) (fun c61 => ?_) (fun c61 => ?_)
    · refine zr_bipush C (v := (-9)) d_X7_runOf_69 (by decide) ?_
      refine zr_lv [none, none, none] (by simp [zle]) ?_
      exact hJ61 (-9) (((if_neg (zbf c61))))
    · refine zr_bipush C (v := 40) d_X7_runOf_64 (by decide) ?_
      refine zr_goto C 71 d_X7_runOf_66 (by decide) ?_
      refine zr_lv [none, none, none] (by simp [zle]) ?_
      exact hJ61 40 (((if_pos c61)))
  intro y7 ey7
  have eR : o_Model_runOf h r = (y7, r7_2) := (by subst ey7 eh1; unfold o_Model_runOf; exact ((congrArg (Sum.elim _ _) er7_2)))
  subst hQ
  exact zTQ_Ih eR (zr_ireti C d_X7_runOf_71)
theorem d_X7_dropOld_0 : decode prog_9_method_38_code 0 = .ok (.iconst 0, 1) := by decide +kernel
theorem d_X7_dropOld_1 : decode prog_9_method_38_code 1 = .ok (.istore_n 1, 1) := by decide +kernel
theorem d_X7_dropOld_2 : decode prog_9_method_38_code 2 = .ok (.iload_n 1, 1) := by decide +kernel
theorem d_X7_dropOld_3 : decode prog_9_method_38_code 3 = .ok (.bipush 8, 2) := by decide +kernel
theorem d_X7_dropOld_5 : decode prog_9_method_38_code 5 = .ok (.if_icmp .ge 17, 3) := by decide +kernel
theorem d_X7_dropOld_8 : decode prog_9_method_38_code 8 = .ok (.aload_n 0, 1) := by decide +kernel
theorem d_X7_dropOld_9 : decode prog_9_method_38_code 9 = .ok (.bipush 8, 2) := by decide +kernel
theorem d_X7_dropOld_11 : decode prog_9_method_38_code 11 = .ok (.iload_n 1, 1) := by decide +kernel
theorem d_X7_dropOld_12 : decode prog_9_method_38_code 12 = .ok (.iadd, 1) := by decide +kernel
theorem d_X7_dropOld_13 : decode prog_9_method_38_code 13 = .ok (.bipush (-9), 2) := by decide +kernel
theorem d_X7_dropOld_15 : decode prog_9_method_38_code 15 = .ok (.iastore, 1) := by decide +kernel
theorem d_X7_dropOld_16 : decode prog_9_method_38_code 16 = .ok (.iinc 1 1, 3) := by decide +kernel
theorem d_X7_dropOld_19 : decode prog_9_method_38_code 19 = .ok (.goto (-17), 3) := by decide +kernel
theorem d_X7_dropOld_22 : decode prog_9_method_38_code 22 = .ok (.return_, 1) := by decide +kernel
abbrev M_Model_dropOld : zMT := (⟨"PeriodSlotsModel", "dropOld", "([I)V"⟩, prog_9_method_38_code, 2, none)
theorem k_Model_dropOld : zcall M_Model_dropOld 1 := ⟨zU_in (i := 1002) (by decide +kernel) rfl, m62, ⟨by decide, by decide, by decide +kernel⟩, by decide⟩
def o_Model_dropOld (h : zHp) (r : Nat) : zHp :=
  (zrep (fun (i2_1 : Nat) (s2_1 : zHp) => (zup s2_1 r (8 + i2_1) (-9))) h 8)
theorem fr_Model_dropOld {h : zHp} {r : Nat} (c k : Nat) (q0 : c ≠ r) : (o_Model_dropOld h r) c k = h c k := by
  unfold o_Model_dropOld
  have hI2_1 := zrep_inv (f := (fun (i2_1 : Nat) (s2_1 : zHp) => (zup s2_1 r (8 + i2_1) (-9)))) (a := h) (fun _ s2_1 => ∀ c k : Nat, c ≠ r → s2_1 c k = h c k) (8) (fun _ _ _ => rfl) (fun i2_1 s2_1 hi2_1 hI2_1 => (fun c k q0 => (by (try dsimp only); exact ((zup_fr (Or.inl (by assumption))).trans (hI2_1 _ _ (by assumption))))))
  first | done | exact (hI2_1 _ _ (by assumption))
set_option maxHeartbeats 400000 in
set_option maxRecDepth 20000 in
theorem c_Model_dropOld (X : zXT) (h : zHp) (g : zLg) (r : Nat) (hr : r = 54 ∨ r = 55 ∨ r = 56) : zDi X M_Model_dropOld 0 [zR X r] h g none (o_Model_dropOld h r) g := by
  refine zDi_of "PeriodSlotsModel" prog_9_method_38_code 2 none rfl (by decide) [zO X r, none] rfl (fun _ q => q) (Nat.le_of_ble_eq_true rfl) ?_
  intro Γ Q C hQ
  refine zr_iconst C (v := 0) d_X7_dropOld_0 (by decide) ?_
  refine zr_istore_n C [zO X r, zI 0] d_X7_dropOld_1 (Nat.le_of_ble_eq_true rfl) rfl rfl ?_
  refine zfor (f := (fun (i2_1 : Nat) (s2_1 : zHp) => (zup s2_1 r (8 + i2_1) (-9)))) (a := h) (fun i2_1 s2_1 => zV X Γ Q 2 [zO X r, zI (nI i2_1)] [] s2_1 g) (fun _ s2_1 => ∀ c k : Nat, c ≠ r → s2_1 c k = h c k) (8) (fun _ _ _ => rfl) (fun i2_1 s2_1 hi2_1 hI2_1 => ⟨(fun c k q0 => (by (try dsimp only); exact ((zup_fr (Or.inl (by assumption))).trans (hI2_1 _ _ (by assumption))))), fun hk2_1 => ?_⟩) (fun r2_1 er2_1 hI2_1 => ?_)
  · refine zr_iload_n C d_X7_dropOld_2 rfl ?_
    refine zr_bipush C (v := 8) d_X7_dropOld_3 (by decide) ?_
    refine zr_icmp_ge C 22 d_X7_dropOld_5 (by decide) (fun c => absurd c (zge_noN (B := 8) rfl (by omega) (by omega))) (fun _ => ?_)
    refine zr_aload_n C d_X7_dropOld_8 rfl ?_
    refine zr_bipush C (v := 8) d_X7_dropOld_9 (by decide) ?_
    refine zr_iload_n C d_X7_dropOld_11 rfl ?_
    refine zr_iadd C d_X7_dropOld_12 ?_
    refine zr_bipush C (v := (-9)) d_X7_dropOld_13 (by decide) ?_
    refine zr_iast C (za_row hr) (8 + i2_1) (zn_add rfl rfl) (by omega) (by decide) d_X7_dropOld_15 ?_
    refine zr_h (fun h2 eh2 => ?_)
    refine zr_iinc C [zO X r, zI (nI (i2_1 + 1))] (v := (nI (i2_1 + 1))) d_X7_dropOld_16 rfl (zn_add rfl rfl) (Nat.le_of_ble_eq_true rfl) rfl rfl ?_
    refine zr_goto C 2 d_X7_dropOld_19 (by decide) ?_
    exact hk2_1 h2 (by subst eh2; exact rfl)
  refine zr_iload_n C d_X7_dropOld_2 rfl ?_
  refine zr_bipush C (v := 8) d_X7_dropOld_3 (by decide) ?_
  refine zr_icmp_ge C 22 d_X7_dropOld_5 (by decide) (fun _ => ?_) (fun c => absurd (zge_yesN (B := 8) rfl (by omega) (by omega)) c)
  have eR : o_Model_dropOld h r = r2_1 := (by subst er2_1; unfold o_Model_dropOld; exact rfl)
  subst hQ
  rw [eR]
  exact zr_vret C d_X7_dropOld_22
theorem d_X7_netOf_0 : decode prog_9_method_39_code 0 = .ok (.iconst 1, 1) := by decide +kernel
theorem d_X7_netOf_1 : decode prog_9_method_39_code 1 = .ok (.iload_n 2, 1) := by decide +kernel
theorem d_X7_netOf_2 : decode prog_9_method_39_code 2 = .ok (.ishl, 1) := by decide +kernel
theorem d_X7_netOf_3 : decode prog_9_method_39_code 3 = .ok (.istore_n 3, 1) := by decide +kernel
theorem d_X7_netOf_4 : decode prog_9_method_39_code 4 = .ok (.iconst 0, 1) := by decide +kernel
theorem d_X7_netOf_5 : decode prog_9_method_39_code 5 = .ok (.istore 4, 2) := by decide +kernel
theorem d_X7_netOf_7 : decode prog_9_method_39_code 7 = .ok (.iload 4, 2) := by decide +kernel
theorem d_X7_netOf_9 : decode prog_9_method_39_code 9 = .ok (.bipush 8, 2) := by decide +kernel
theorem d_X7_netOf_11 : decode prog_9_method_39_code 11 = .ok (.if_icmp .ge 50, 3) := by decide +kernel
theorem d_X7_netOf_14 : decode prog_9_method_39_code 14 = .ok (.iconst 0, 1) := by decide +kernel
theorem d_X7_netOf_15 : decode prog_9_method_39_code 15 = .ok (.istore 5, 2) := by decide +kernel
theorem d_X7_netOf_17 : decode prog_9_method_39_code 17 = .ok (.iload 5, 2) := by decide +kernel
theorem d_X7_netOf_19 : decode prog_9_method_39_code 19 = .ok (.aload_n 0, 1) := by decide +kernel
theorem d_X7_netOf_20 : decode prog_9_method_39_code 20 = .ok (.getfield 72, 3) := by decide +kernel
theorem d_X7_netOf_23 : decode prog_9_method_39_code 23 = .ok (.if_icmp .ge 32, 3) := by decide +kernel
theorem d_X7_netOf_26 : decode prog_9_method_39_code 26 = .ok (.iload_n 3, 1) := by decide +kernel
theorem d_X7_netOf_27 : decode prog_9_method_39_code 27 = .ok (.iload_n 3, 1) := by decide +kernel
theorem d_X7_netOf_28 : decode prog_9_method_39_code 28 = .ok (.iload 5, 2) := by decide +kernel
theorem d_X7_netOf_30 : decode prog_9_method_39_code 30 = .ok (.invokestatic 107, 3) := by decide +kernel
theorem d_X7_netOf_33 : decode prog_9_method_39_code 33 = .ok (.ifCond .eq 13, 3) := by decide +kernel
theorem d_X7_netOf_36 : decode prog_9_method_39_code 36 = .ok (.aload_n 1, 1) := by decide +kernel
theorem d_X7_netOf_37 : decode prog_9_method_39_code 37 = .ok (.bipush 16, 2) := by decide +kernel
theorem d_X7_netOf_39 : decode prog_9_method_39_code 39 = .ok (.iload 5, 2) := by decide +kernel
theorem d_X7_netOf_41 : decode prog_9_method_39_code 41 = .ok (.iadd, 1) := by decide +kernel
theorem d_X7_netOf_42 : decode prog_9_method_39_code 42 = .ok (.iaload, 1) := by decide +kernel
theorem d_X7_netOf_43 : decode prog_9_method_39_code 43 = .ok (.goto 4, 3) := by decide +kernel
theorem d_X7_netOf_46 : decode prog_9_method_39_code 46 = .ok (.iconst 0, 1) := by decide +kernel
theorem d_X7_netOf_47 : decode prog_9_method_39_code 47 = .ok (.ior, 1) := by decide +kernel
theorem d_X7_netOf_48 : decode prog_9_method_39_code 48 = .ok (.istore_n 3, 1) := by decide +kernel
theorem d_X7_netOf_49 : decode prog_9_method_39_code 49 = .ok (.iinc 5 1, 3) := by decide +kernel
theorem d_X7_netOf_52 : decode prog_9_method_39_code 52 = .ok (.goto (-35), 3) := by decide +kernel
theorem d_X7_netOf_55 : decode prog_9_method_39_code 55 = .ok (.iinc 4 1, 3) := by decide +kernel
theorem d_X7_netOf_58 : decode prog_9_method_39_code 58 = .ok (.goto (-51), 3) := by decide +kernel
theorem d_X7_netOf_61 : decode prog_9_method_39_code 61 = .ok (.iload_n 3, 1) := by decide +kernel
theorem d_X7_netOf_62 : decode prog_9_method_39_code 62 = .ok (.ireturn, 1) := by decide +kernel
abbrev M_Model_netOf : zMT := (⟨"PeriodSlotsModel", "netOf", "([II)I"⟩, prog_9_method_39_code, 6, (some .int))
theorem k_Model_netOf : zcall M_Model_netOf 2 := ⟨zU_in (i := 972) (by decide +kernel) rfl, m62, ⟨by decide, by decide, by decide +kernel⟩, by decide⟩
def o_Model_netOf (h : zHp) (r : Nat) (s : Int32) : Int32 :=
  (zrep (fun (i7_1 : Nat) (s7_1 : Int32) => (zrep (fun (i17_2 : Nat) (s17_2 : Int32) => (s17_2 ||| (if (o_Model_has s17_2 (nI i17_2)) = true then (h r (16 + i17_2)) else 0))) s7_1 (zcn (h 51 1)))) (zshl 1 s) 8)
theorem rd_Model_netOf {h h2 : zHp} {r : Nat} {s : Int32} (e0 : h2 51 1 = h 51 1) (e1 : h2 r = h r) : o_Model_netOf h2 r s = o_Model_netOf h r s := by
  unfold o_Model_netOf
  simp only [e0, e1]

set_option maxHeartbeats 400000 in
set_option maxRecDepth 20000 in
theorem c_Model_netOf (X : zXT) (h : zHp) (g : zLg) (r : Nat) (s : Int32) (hr : r = 54 ∨ r = 55 ∨ r = 56) (hf0 : zfit h 51 1 8) : zDi X M_Model_netOf 1 [zR X 51, zR X r, .int s] h g (zI (o_Model_netOf h r s)) h g := by
  have hf0_1 := hf0.1
  refine zDi_of "PeriodSlotsModel" prog_9_method_39_code 6 (some .int) rfl (by decide) [zO X 51, zO X r, zI s, none, none, none] rfl (fun _ q => q) (Nat.le_of_ble_eq_true rfl) ?_
  intro Γ Q C hQ
  refine zr_iconst C (v := 1) d_X7_netOf_0 (by decide) ?_
  refine zr_iload_n C d_X7_netOf_1 rfl ?_
  refine zr_ishl C d_X7_netOf_2 ?_
  refine zr_istore_n C [zO X 51, zO X r, zI s, zI (zshl 1 s), none, none] d_X7_netOf_3 (Nat.le_of_ble_eq_true rfl) rfl rfl ?_
  refine zr_iconst C (v := 0) d_X7_netOf_4 (by decide) ?_
  refine zr_istore C [zO X 51, zO X r, zI s, zI (zshl 1 s), zI 0, none] d_X7_netOf_5 (Nat.le_of_ble_eq_true rfl) rfl rfl ?_
  refine zr_lv [zO X 51, zO X r, none, zI (zshl 1 s), zI 0, none] (by simp [zle]) ?_
  refine zfor (f := (fun (i7_1 : Nat) (s7_1 : Int32) => (zrep (fun (i17_2 : Nat) (s17_2 : Int32) => (s17_2 ||| (if (o_Model_has s17_2 (nI i17_2)) = true then (h r (16 + i17_2)) else 0))) s7_1 (zcn (h 51 1))))) (a := (zshl 1 s)) (fun i7_1 s7_1 => zV X Γ Q 7 [zO X 51, zO X r, none, zI s7_1, zI (nI i7_1), none] [] h g) (fun _ _ => True) (8) trivial (fun i7_1 s7_1 hi7_1 hI7_1 => ⟨trivial, fun hk7_1 => ?_⟩) (fun r7_1 er7_1 hI7_1 => ?_)
  · refine zr_iload C d_X7_netOf_7 rfl ?_
    refine zr_bipush C (v := 8) d_X7_netOf_9 (by decide) ?_
    refine zr_icmp_ge C 61 d_X7_netOf_11 (by decide) (fun c => absurd c (zge_noN (B := 8) rfl (by omega) (by omega))) (fun _ => ?_)
    refine zr_iconst C (v := 0) d_X7_netOf_14 (by decide) ?_
    refine zr_istore C [zO X 51, zO X r, none, zI s7_1, zI (nI i7_1), zI 0] d_X7_netOf_15 (Nat.le_of_ble_eq_true rfl) rfl rfl ?_
    refine zfor (f := (fun (i17_2 : Nat) (s17_2 : Int32) => (s17_2 ||| (if (o_Model_has s17_2 (nI i17_2)) = true then (h r (16 + i17_2)) else 0)))) (a := s7_1) (fun i17_2 s17_2 => zV X Γ Q 17 [zO X 51, zO X r, none, zI s17_2, zI (nI i7_1), zI (nI i17_2)] [] h g) (fun _ _ => True) (zcn (h 51 1)) trivial (fun i17_2 s17_2 hi17_2 hI17_2 => ⟨trivial, fun hk17_2 => ?_⟩) (fun r17_2 er17_2 hI17_2 => ?_)
    · refine zr_iload C d_X7_netOf_17 rfl ?_
      refine zr_aload_n C d_X7_netOf_19 rfl ?_
      refine gf_Model_2 C m755 d_X7_netOf_20 ?_
      refine zr_icmp_ge C 55 d_X7_netOf_23 (by decide) (fun c => absurd c (zge_no rfl (by omega))) (fun _ => ?_)
      refine zr_iload_n C d_X7_netOf_26 rfl ?_
      refine zr_iload_n C d_X7_netOf_27 rfl ?_
      refine zr_iload C d_X7_netOf_28 rfl ?_
      refine zr_callSi (As := [.int s17_2, .int (nI i17_2)]) (st := [.int s17_2]) C (c_Model_has X h g s17_2 (nI i17_2)) k_Model_has m890 m891 rfl (by decide) rfl (Nat.le_of_ble_eq_true rfl) d_X7_netOf_30 ?_
      suffices hJ33 : ∀ (y3 : Int32), (if (o_Model_has s17_2 (nI i17_2)) = true then (h r (16 + i17_2)) else 0) = y3 → zV X Γ Q 47 [zO X 51, zO X r, none, none, zI (nI i7_1), zI (nI i17_2)] [.int y3, .int s17_2] h g by
        refine zr_ifz_eq C 46 d_X7_netOf_33 (by decide) (fun c33 => ?_) (fun c33 => ?_)
        · refine zr_iconst C (v := 0) d_X7_netOf_46 (by decide) ?_
          refine zr_lv [zO X 51, zO X r, none, none, zI (nI i7_1), zI (nI i17_2)] (by simp [zle]) ?_
          exact hJ33 0 (((if_neg (zbf c33))))
        · refine zr_aload_n C d_X7_netOf_36 rfl ?_
          refine zr_bipush C (v := 16) d_X7_netOf_37 (by decide) ?_
          refine zr_iload C d_X7_netOf_39 rfl ?_
          refine zr_iadd C d_X7_netOf_41 ?_
          refine zr_iald C (za_row hr) (16 + i17_2) (zn_add rfl rfl) (by omega) (by decide) d_X7_netOf_42 ?_
          refine zr_goto C 47 d_X7_netOf_43 (by decide) ?_
          refine zr_lv [zO X 51, zO X r, none, none, zI (nI i7_1), zI (nI i17_2)] (by simp [zle]) ?_
          exact hJ33 (h r (16 + i17_2)) (((if_pos c33)))
      intro y3 ey3
      refine zr_ior C d_X7_netOf_47 ?_
      refine zr_istore_n C [zO X 51, zO X r, none, zI (s17_2 ||| y3), zI (nI i7_1), zI (nI i17_2)] d_X7_netOf_48 (Nat.le_of_ble_eq_true rfl) rfl rfl ?_
      refine zr_iinc C [zO X 51, zO X r, none, zI (s17_2 ||| y3), zI (nI i7_1), zI (nI (i17_2 + 1))] (v := (nI (i17_2 + 1))) d_X7_netOf_49 rfl (zn_add rfl rfl) (Nat.le_of_ble_eq_true rfl) rfl rfl ?_
      refine zr_goto C 17 d_X7_netOf_52 (by decide) ?_
      exact hk17_2 (s17_2 ||| y3) (by subst ey3; exact rfl)
    refine zr_iload C d_X7_netOf_17 rfl ?_
    refine zr_aload_n C d_X7_netOf_19 rfl ?_
    refine gf_Model_2 C m755 d_X7_netOf_20 ?_
    refine zr_icmp_ge C 55 d_X7_netOf_23 (by decide) (fun _ => ?_) (fun c => absurd (zge_yes rfl (by omega) (by have := zcn_small (h 51 1); omega)) c)
    refine zr_iinc C [zO X 51, zO X r, none, zI r17_2, zI (nI (i7_1 + 1)), zI (nI (zcn (h 51 1)))] (v := (nI (i7_1 + 1))) d_X7_netOf_55 rfl (zn_add rfl rfl) (Nat.le_of_ble_eq_true rfl) rfl rfl ?_
    refine zr_goto C 7 d_X7_netOf_58 (by decide) ?_
    refine zr_lv [zO X 51, zO X r, none, zI r17_2, zI (nI (i7_1 + 1)), none] (by simp [zle]) ?_
    exact hk7_1 r17_2 (by subst er17_2; exact rfl)
  refine zr_iload C d_X7_netOf_7 rfl ?_
  refine zr_bipush C (v := 8) d_X7_netOf_9 (by decide) ?_
  refine zr_icmp_ge C 61 d_X7_netOf_11 (by decide) (fun _ => ?_) (fun c => absurd (zge_yesN (B := 8) rfl (by omega) (by omega)) c)
  refine zr_iload_n C d_X7_netOf_61 rfl ?_
  have eR : o_Model_netOf h r s = r7_1 := (by subst er7_1; unfold o_Model_netOf; exact rfl)
  subst hQ
  rw [eR]
  exact zr_ireti C d_X7_netOf_62
theorem d_X7_shiftOf_0 : decode prog_9_method_40_code 0 = .ok (.iconst 0, 1) := by decide +kernel
theorem d_X7_shiftOf_1 : decode prog_9_method_40_code 1 = .ok (.istore 4, 2) := by decide +kernel
theorem d_X7_shiftOf_3 : decode prog_9_method_40_code 3 = .ok (.iload 4, 2) := by decide +kernel
theorem d_X7_shiftOf_5 : decode prog_9_method_40_code 5 = .ok (.aload_n 0, 1) := by decide +kernel
theorem d_X7_shiftOf_6 : decode prog_9_method_40_code 6 = .ok (.getfield 72, 3) := by decide +kernel
theorem d_X7_shiftOf_9 : decode prog_9_method_40_code 9 = .ok (.if_icmp .ge 52, 3) := by decide +kernel
theorem d_X7_shiftOf_12 : decode prog_9_method_40_code 12 = .ok (.aload_n 1, 1) := by decide +kernel
theorem d_X7_shiftOf_13 : decode prog_9_method_40_code 13 = .ok (.iload 4, 2) := by decide +kernel
theorem d_X7_shiftOf_15 : decode prog_9_method_40_code 15 = .ok (.iload_n 2, 1) := by decide +kernel
theorem d_X7_shiftOf_16 : decode prog_9_method_40_code 16 = .ok (.iload 4, 2) := by decide +kernel
theorem d_X7_shiftOf_18 : decode prog_9_method_40_code 18 = .ok (.invokestatic 107, 3) := by decide +kernel
theorem d_X7_shiftOf_21 : decode prog_9_method_40_code 21 = .ok (.ifCond .eq 29, 3) := by decide +kernel
theorem d_X7_shiftOf_24 : decode prog_9_method_40_code 24 = .ok (.aload_n 1, 1) := by decide +kernel
theorem d_X7_shiftOf_25 : decode prog_9_method_40_code 25 = .ok (.iload 4, 2) := by decide +kernel
theorem d_X7_shiftOf_27 : decode prog_9_method_40_code 27 = .ok (.iaload, 1) := by decide +kernel
theorem d_X7_shiftOf_28 : decode prog_9_method_40_code 28 = .ok (.bipush (-9), 2) := by decide +kernel
theorem d_X7_shiftOf_30 : decode prog_9_method_40_code 30 = .ok (.if_icmp .eq 20, 3) := by decide +kernel
theorem d_X7_shiftOf_33 : decode prog_9_method_40_code 33 = .ok (.aload_n 1, 1) := by decide +kernel
theorem d_X7_shiftOf_34 : decode prog_9_method_40_code 34 = .ok (.iload 4, 2) := by decide +kernel
theorem d_X7_shiftOf_36 : decode prog_9_method_40_code 36 = .ok (.iaload, 1) := by decide +kernel
theorem d_X7_shiftOf_37 : decode prog_9_method_40_code 37 = .ok (.iload_n 3, 1) := by decide +kernel
theorem d_X7_shiftOf_38 : decode prog_9_method_40_code 38 = .ok (.iadd, 1) := by decide +kernel
theorem d_X7_shiftOf_39 : decode prog_9_method_40_code 39 = .ok (.aload_n 0, 1) := by decide +kernel
theorem d_X7_shiftOf_40 : decode prog_9_method_40_code 40 = .ok (.getfield 13, 3) := by decide +kernel
theorem d_X7_shiftOf_43 : decode prog_9_method_40_code 43 = .ok (.iload 4, 2) := by decide +kernel
theorem d_X7_shiftOf_45 : decode prog_9_method_40_code 45 = .ok (.iaload, 1) := by decide +kernel
theorem d_X7_shiftOf_46 : decode prog_9_method_40_code 46 = .ok (.irem, 1) := by decide +kernel
theorem d_X7_shiftOf_47 : decode prog_9_method_40_code 47 = .ok (.goto 7, 3) := by decide +kernel
theorem d_X7_shiftOf_50 : decode prog_9_method_40_code 50 = .ok (.aload_n 1, 1) := by decide +kernel
theorem d_X7_shiftOf_51 : decode prog_9_method_40_code 51 = .ok (.iload 4, 2) := by decide +kernel
theorem d_X7_shiftOf_53 : decode prog_9_method_40_code 53 = .ok (.iaload, 1) := by decide +kernel
theorem d_X7_shiftOf_54 : decode prog_9_method_40_code 54 = .ok (.iastore, 1) := by decide +kernel
theorem d_X7_shiftOf_55 : decode prog_9_method_40_code 55 = .ok (.iinc 4 1, 3) := by decide +kernel
theorem d_X7_shiftOf_58 : decode prog_9_method_40_code 58 = .ok (.goto (-55), 3) := by decide +kernel
theorem d_X7_shiftOf_61 : decode prog_9_method_40_code 61 = .ok (.return_, 1) := by decide +kernel
abbrev M_Model_shiftOf : zMT := (⟨"PeriodSlotsModel", "shiftOf", "([III)V"⟩, prog_9_method_40_code, 5, none)
theorem k_Model_shiftOf : zcall M_Model_shiftOf 3 := ⟨zU_in (i := 1022) (by decide +kernel) rfl, m62, ⟨by decide, by decide, by decide +kernel⟩, by decide⟩
def o_Model_shiftOf (h : zHp) (r : Nat) (net : Int32) (d : Int32) : zHp :=
  (zrep (fun (i3_1 : Nat) (s3_1 : zHp) => (zup s3_1 r i3_1 (if (o_Model_has net (nI i3_1)) = true then (if (s3_1 r i3_1) = (-9) then (s3_1 r i3_1) else (zrem ((s3_1 r i3_1) + d) (h 53 i3_1))) else (s3_1 r i3_1)))) h (zcn (h 51 1)))
theorem fr_Model_shiftOf {h : zHp} {r : Nat} {net : Int32} {d : Int32} (c k : Nat) (q0 : c ≠ r) : (o_Model_shiftOf h r net d) c k = h c k := by
  unfold o_Model_shiftOf
  have hI3_1 := zrep_inv (f := (fun (i3_1 : Nat) (s3_1 : zHp) => (zup s3_1 r i3_1 (if (o_Model_has net (nI i3_1)) = true then (if (s3_1 r i3_1) = (-9) then (s3_1 r i3_1) else (zrem ((s3_1 r i3_1) + d) (h 53 i3_1))) else (s3_1 r i3_1))))) (a := h) (fun _ s3_1 => ∀ c k : Nat, c ≠ r → s3_1 c k = h c k) (zcn (h 51 1)) (fun _ _ _ => rfl) (fun i3_1 s3_1 hi3_1 hI3_1 => (fun c k q0 => (by (try dsimp only); exact ((zup_fr (Or.inl (by assumption))).trans (hI3_1 _ _ (by assumption))))))
  first | done | exact (hI3_1 _ _ (by assumption))
set_option maxHeartbeats 400000 in
set_option maxRecDepth 20000 in
theorem c_Model_shiftOf (X : zXT) (h : zHp) (g : zLg) (r : Nat) (net : Int32) (d : Int32) (hr : r = 54 ∨ r = 55 ∨ r = 56) (hf0 : zfit h 51 1 8) (hper : zper h) : zDi X M_Model_shiftOf 1 [zR X 51, zR X r, .int net, .int d] h g none (o_Model_shiftOf h r net d) g := by
  have hf0_1 := hf0.1
  refine zDi_of "PeriodSlotsModel" prog_9_method_40_code 5 none rfl (by decide) [zO X 51, zO X r, zI net, zI d, none] rfl (fun _ q => q) (Nat.le_of_ble_eq_true rfl) ?_
  intro Γ Q C hQ
  refine zr_iconst C (v := 0) d_X7_shiftOf_0 (by decide) ?_
  refine zr_istore C [zO X 51, zO X r, zI net, zI d, zI 0] d_X7_shiftOf_1 (Nat.le_of_ble_eq_true rfl) rfl rfl ?_
  refine zfor (f := (fun (i3_1 : Nat) (s3_1 : zHp) => (zup s3_1 r i3_1 (if (o_Model_has net (nI i3_1)) = true then (if (s3_1 r i3_1) = (-9) then (s3_1 r i3_1) else (zrem ((s3_1 r i3_1) + d) (h 53 i3_1))) else (s3_1 r i3_1))))) (a := h) (fun i3_1 s3_1 => zV X Γ Q 3 [zO X 51, zO X r, zI net, zI d, zI (nI i3_1)] [] s3_1 g) (fun _ s3_1 => ∀ c k : Nat, c ≠ r → s3_1 c k = h c k) (zcn (h 51 1)) (fun _ _ _ => rfl) (fun i3_1 s3_1 hi3_1 hI3_1 => ⟨(fun c k q0 => (by (try dsimp only); exact ((zup_fr (Or.inl (by assumption))).trans (hI3_1 _ _ (by assumption))))), fun hk3_1 => ?_⟩) (fun r3_1 er3_1 hI3_1 => ?_)
  · refine zr_iload C d_X7_shiftOf_3 rfl ?_
    refine zr_aload_n C d_X7_shiftOf_5 rfl ?_
    refine gf_Model_2 C m755 d_X7_shiftOf_6 ?_
    refine zr_top (hI3_1 _ _ (by omega)) ?_
    refine zr_icmp_ge C 61 d_X7_shiftOf_9 (by decide) (fun c => absurd c (zge_no rfl (by omega))) (fun _ => ?_)
    refine zr_aload_n C d_X7_shiftOf_12 rfl ?_
    refine zr_iload C d_X7_shiftOf_13 rfl ?_
    refine zr_iload_n C d_X7_shiftOf_15 rfl ?_
    refine zr_iload C d_X7_shiftOf_16 rfl ?_
    refine zr_callSi (As := [.int net, .int (nI i3_1)]) (st := [.int (nI i3_1), zR X r]) C (c_Model_has X s3_1 g net (nI i3_1)) k_Model_has m890 m891 rfl (by decide) rfl (Nat.le_of_ble_eq_true rfl) d_X7_shiftOf_18 ?_
    suffices hJ21 : ∀ (y2 : Int32), (if (o_Model_has net (nI i3_1)) = true then (if (s3_1 r i3_1) = (-9) then (s3_1 r i3_1) else (zrem ((s3_1 r i3_1) + d) (h 53 i3_1))) else (s3_1 r i3_1)) = y2 → zV X Γ Q 54 [zO X 51, zO X r, zI net, zI d, zI (nI i3_1)] [.int y2, .int (nI i3_1), zR X r] s3_1 g by
      refine zr_ifz_eq C 50 d_X7_shiftOf_21 (by decide) (fun c21 => ?_) (fun c21 => ?_)
      · refine zr_aload_n C d_X7_shiftOf_50 rfl ?_
        refine zr_iload C d_X7_shiftOf_51 rfl ?_
        refine zr_iald C (za_row hr) (i3_1) rfl (by omega) (by decide) d_X7_shiftOf_53 ?_
        exact hJ21 (s3_1 r i3_1) (((if_neg (zbf c21))))
      · refine zr_aload_n C d_X7_shiftOf_24 rfl ?_
        refine zr_iload C d_X7_shiftOf_25 rfl ?_
        refine zr_iald C (za_row hr) (i3_1) rfl (by omega) (by decide) d_X7_shiftOf_27 ?_
        refine zr_bipush C (v := (-9)) d_X7_shiftOf_28 (by decide) ?_
        refine zr_icmp_eq C 50 d_X7_shiftOf_30 (by decide) (fun c30 => ?_) (fun c30 => ?_)
        · refine zr_aload_n C d_X7_shiftOf_50 rfl ?_
          refine zr_iload C d_X7_shiftOf_51 rfl ?_
          refine zr_iald C (za_row hr) (i3_1) rfl (by omega) (by decide) d_X7_shiftOf_53 ?_
          exact hJ21 (s3_1 r i3_1) (((if_pos c21).trans ((if_pos c30))))
        · refine zr_aload_n C d_X7_shiftOf_33 rfl ?_
          refine zr_iload C d_X7_shiftOf_34 rfl ?_
          refine zr_iald C (za_row hr) (i3_1) rfl (by omega) (by decide) d_X7_shiftOf_36 ?_
          refine zr_iload_n C d_X7_shiftOf_37 rfl ?_
          refine zr_iadd C d_X7_shiftOf_38 ?_
          refine zr_aload_n C d_X7_shiftOf_39 rfl ?_
          refine gf_Model_3 C m756 d_X7_shiftOf_40 ?_
          refine zr_iload C d_X7_shiftOf_43 rfl ?_
          refine zr_iald C za_53 (i3_1) rfl (by omega) (by decide) d_X7_shiftOf_45 ?_
          refine zr_top (hI3_1 _ _ (by omega)) ?_
          refine zr_irem C d_X7_shiftOf_46 (hper i3_1 (by omega)) ?_
          refine zr_goto C 54 d_X7_shiftOf_47 (by decide) ?_
          exact hJ21 (zrem ((s3_1 r i3_1) + d) (h 53 i3_1)) (((if_pos c21).trans ((if_neg c30))))
    intro y2 ey2
    refine zr_iast C (za_row hr) (i3_1) rfl (by omega) (by decide) d_X7_shiftOf_54 ?_
    refine zr_h (fun h3 eh3 => ?_)
    refine zr_iinc C [zO X 51, zO X r, zI net, zI d, zI (nI (i3_1 + 1))] (v := (nI (i3_1 + 1))) d_X7_shiftOf_55 rfl (zn_add rfl rfl) (Nat.le_of_ble_eq_true rfl) rfl rfl ?_
    refine zr_goto C 3 d_X7_shiftOf_58 (by decide) ?_
    exact hk3_1 h3 (by subst eh3 ey2; exact rfl)
  refine zr_iload C d_X7_shiftOf_3 rfl ?_
  refine zr_aload_n C d_X7_shiftOf_5 rfl ?_
  refine gf_Model_2 C m755 d_X7_shiftOf_6 ?_
  refine zr_top (hI3_1 _ _ (by omega)) ?_
  refine zr_icmp_ge C 61 d_X7_shiftOf_9 (by decide) (fun _ => ?_) (fun c => absurd (zge_yes rfl (by omega) (by have := zcn_small (h 51 1); omega)) c)
  have eR : o_Model_shiftOf h r net d = r3_1 := (by subst er3_1; unfold o_Model_shiftOf; exact rfl)
  subst hQ
  rw [eR]
  exact zr_vret C d_X7_shiftOf_61
theorem d_X7_turnOf_0 : decode prog_9_method_41_code 0 = .ok (.aload_n 0, 1) := by decide +kernel
theorem d_X7_turnOf_1 : decode prog_9_method_41_code 1 = .ok (.bipush 16, 2) := by decide +kernel
theorem d_X7_turnOf_3 : decode prog_9_method_41_code 3 = .ok (.iload_n 1, 1) := by decide +kernel
theorem d_X7_turnOf_4 : decode prog_9_method_41_code 4 = .ok (.iadd, 1) := by decide +kernel
theorem d_X7_turnOf_5 : decode prog_9_method_41_code 5 = .ok (.dup2, 1) := by decide +kernel
theorem d_X7_turnOf_6 : decode prog_9_method_41_code 6 = .ok (.iaload, 1) := by decide +kernel
theorem d_X7_turnOf_7 : decode prog_9_method_41_code 7 = .ok (.iconst 1, 1) := by decide +kernel
theorem d_X7_turnOf_8 : decode prog_9_method_41_code 8 = .ok (.iload_n 2, 1) := by decide +kernel
theorem d_X7_turnOf_9 : decode prog_9_method_41_code 9 = .ok (.ishl, 1) := by decide +kernel
theorem d_X7_turnOf_10 : decode prog_9_method_41_code 10 = .ok (.ixor, 1) := by decide +kernel
theorem d_X7_turnOf_11 : decode prog_9_method_41_code 11 = .ok (.iastore, 1) := by decide +kernel
theorem d_X7_turnOf_12 : decode prog_9_method_41_code 12 = .ok (.aload_n 0, 1) := by decide +kernel
theorem d_X7_turnOf_13 : decode prog_9_method_41_code 13 = .ok (.bipush 16, 2) := by decide +kernel
theorem d_X7_turnOf_15 : decode prog_9_method_41_code 15 = .ok (.iload_n 2, 1) := by decide +kernel
theorem d_X7_turnOf_16 : decode prog_9_method_41_code 16 = .ok (.iadd, 1) := by decide +kernel
theorem d_X7_turnOf_17 : decode prog_9_method_41_code 17 = .ok (.dup2, 1) := by decide +kernel
theorem d_X7_turnOf_18 : decode prog_9_method_41_code 18 = .ok (.iaload, 1) := by decide +kernel
theorem d_X7_turnOf_19 : decode prog_9_method_41_code 19 = .ok (.iconst 1, 1) := by decide +kernel
theorem d_X7_turnOf_20 : decode prog_9_method_41_code 20 = .ok (.iload_n 1, 1) := by decide +kernel
theorem d_X7_turnOf_21 : decode prog_9_method_41_code 21 = .ok (.ishl, 1) := by decide +kernel
theorem d_X7_turnOf_22 : decode prog_9_method_41_code 22 = .ok (.ixor, 1) := by decide +kernel
theorem d_X7_turnOf_23 : decode prog_9_method_41_code 23 = .ok (.iastore, 1) := by decide +kernel
theorem d_X7_turnOf_24 : decode prog_9_method_41_code 24 = .ok (.return_, 1) := by decide +kernel
abbrev M_Model_turnOf : zMT := (⟨"PeriodSlotsModel", "turnOf", "([III)V"⟩, prog_9_method_41_code, 3, none)
theorem k_Model_turnOf : zcall M_Model_turnOf 3 := ⟨zU_in (i := 1005) (by decide +kernel) rfl, m62, ⟨by decide, by decide, by decide +kernel⟩, by decide⟩
def o_Model_turnOf (h : zHp) (r : Nat) (i : Nat) (j : Nat) : zHp :=
  (zup (zup h r (16 + i) ((h r (16 + i)) ^^^ (zshl 1 (nI j)))) r (16 + j) (((zup h r (16 + i) ((h r (16 + i)) ^^^ (zshl 1 (nI j)))) r (16 + j)) ^^^ (zshl 1 (nI i))))
theorem fr_Model_turnOf {h : zHp} {r : Nat} {i : Nat} {j : Nat} (c k : Nat) (q0 : c ≠ r) : (o_Model_turnOf h r i j) c k = h c k := by
  unfold o_Model_turnOf
  first | done | exact ((zup_fr (Or.inl (by assumption))).trans (zup_fr (Or.inl (by assumption))))
set_option maxHeartbeats 400000 in
set_option maxRecDepth 20000 in
theorem c_Model_turnOf (X : zXT) (h : zHp) (g : zLg) (r : Nat) (i : Nat) (j : Nat) {x_i : Int32} (e_i : x_i = nI i) {x_j : Int32} (e_j : x_j = nI j) (hr : r = 54 ∨ r = 55 ∨ r = 56) (hl0 : i < 8) (hl1 : j < 8) : zDi X M_Model_turnOf 0 [zR X r, .int x_i, .int x_j] h g none (o_Model_turnOf h r i j) g := by
  subst e_i
  subst e_j
  refine zDi_of "PeriodSlotsModel" prog_9_method_41_code 3 none rfl (by decide) [zO X r, zI (nI i), zI (nI j)] rfl (fun _ q => q) (Nat.le_of_ble_eq_true rfl) ?_
  intro Γ Q C hQ
  refine zr_aload_n C d_X7_turnOf_0 rfl ?_
  refine zr_bipush C (v := 16) d_X7_turnOf_1 (by decide) ?_
  refine zr_iload_n C d_X7_turnOf_3 rfl ?_
  refine zr_iadd C d_X7_turnOf_4 ?_
  refine zr_dup2 C d_X7_turnOf_5 rfl rfl ?_
  refine zr_iald C (za_row hr) (16 + i) (zn_add rfl rfl) (by omega) (by decide) d_X7_turnOf_6 ?_
  refine zr_iconst C (v := 1) d_X7_turnOf_7 (by decide) ?_
  refine zr_iload_n C d_X7_turnOf_8 rfl ?_
  refine zr_ishl C d_X7_turnOf_9 ?_
  refine zr_ixor C d_X7_turnOf_10 ?_
  refine zr_iast C (za_row hr) (16 + i) (zn_add rfl rfl) (by omega) (by decide) d_X7_turnOf_11 ?_
  refine zr_h (fun h1 eh1 => ?_)
  refine zr_aload_n C d_X7_turnOf_12 rfl ?_
  refine zr_bipush C (v := 16) d_X7_turnOf_13 (by decide) ?_
  refine zr_iload_n C d_X7_turnOf_15 rfl ?_
  refine zr_iadd C d_X7_turnOf_16 ?_
  refine zr_dup2 C d_X7_turnOf_17 rfl rfl ?_
  refine zr_iald C (za_row hr) (16 + j) (zn_add rfl rfl) (by omega) (by decide) d_X7_turnOf_18 ?_
  refine zr_iconst C (v := 1) d_X7_turnOf_19 (by decide) ?_
  refine zr_iload_n C d_X7_turnOf_20 rfl ?_
  refine zr_ishl C d_X7_turnOf_21 ?_
  refine zr_ixor C d_X7_turnOf_22 ?_
  refine zr_iast C (za_row hr) (16 + j) (zn_add rfl rfl) (by omega) (by decide) d_X7_turnOf_23 ?_
  refine zr_h (fun h2 eh2 => ?_)
  have eR : o_Model_turnOf h r i j = h2 := (by subst eh2 eh1; unfold o_Model_turnOf; exact rfl)
  subst hQ
  rw [eR]
  exact zr_vret C d_X7_turnOf_24
theorem d_X7_links_0 : decode prog_9_method_42_code 0 = .ok (.iconst 0, 1) := by decide +kernel
theorem d_X7_links_1 : decode prog_9_method_42_code 1 = .ok (.istore_n 1, 1) := by decide +kernel
theorem d_X7_links_2 : decode prog_9_method_42_code 2 = .ok (.iconst 0, 1) := by decide +kernel
theorem d_X7_links_3 : decode prog_9_method_42_code 3 = .ok (.istore_n 2, 1) := by decide +kernel
theorem d_X7_links_4 : decode prog_9_method_42_code 4 = .ok (.iload_n 2, 1) := by decide +kernel
theorem d_X7_links_5 : decode prog_9_method_42_code 5 = .ok (.aload_n 0, 1) := by decide +kernel
theorem d_X7_links_6 : decode prog_9_method_42_code 6 = .ok (.getfield 72, 3) := by decide +kernel
theorem d_X7_links_9 : decode prog_9_method_42_code 9 = .ok (.if_icmp .ge 24, 3) := by decide +kernel
theorem d_X7_links_12 : decode prog_9_method_42_code 12 = .ok (.iload_n 1, 1) := by decide +kernel
theorem d_X7_links_13 : decode prog_9_method_42_code 13 = .ok (.aload_n 0, 1) := by decide +kernel
theorem d_X7_links_14 : decode prog_9_method_42_code 14 = .ok (.getfield 16, 3) := by decide +kernel
theorem d_X7_links_17 : decode prog_9_method_42_code 17 = .ok (.bipush 16, 2) := by decide +kernel
theorem d_X7_links_19 : decode prog_9_method_42_code 19 = .ok (.iload_n 2, 1) := by decide +kernel
theorem d_X7_links_20 : decode prog_9_method_42_code 20 = .ok (.iadd, 1) := by decide +kernel
theorem d_X7_links_21 : decode prog_9_method_42_code 21 = .ok (.iaload, 1) := by decide +kernel
theorem d_X7_links_22 : decode prog_9_method_42_code 22 = .ok (.invokestatic 191, 3) := by decide +kernel
theorem d_X7_links_25 : decode prog_9_method_42_code 25 = .ok (.iadd, 1) := by decide +kernel
theorem d_X7_links_26 : decode prog_9_method_42_code 26 = .ok (.istore_n 1, 1) := by decide +kernel
theorem d_X7_links_27 : decode prog_9_method_42_code 27 = .ok (.iinc 2 1, 3) := by decide +kernel
theorem d_X7_links_30 : decode prog_9_method_42_code 30 = .ok (.goto (-26), 3) := by decide +kernel
theorem d_X7_links_33 : decode prog_9_method_42_code 33 = .ok (.iload_n 1, 1) := by decide +kernel
theorem d_X7_links_34 : decode prog_9_method_42_code 34 = .ok (.iconst 2, 1) := by decide +kernel
theorem d_X7_links_35 : decode prog_9_method_42_code 35 = .ok (.idiv, 1) := by decide +kernel
theorem d_X7_links_36 : decode prog_9_method_42_code 36 = .ok (.ireturn, 1) := by decide +kernel
abbrev M_Model_links : zMT := (⟨"PeriodSlotsModel", "links", "()I"⟩, prog_9_method_42_code, 3, (some .int))
theorem k_Model_links : zcall M_Model_links 0 := ⟨zU_in (i := 916) (by decide +kernel) rfl, m62, ⟨by decide, by decide, by decide +kernel⟩, by decide⟩
def o_Model_links (h : zHp) : Int32 :=
  ((zrep (fun (i4_1 : Nat) (s4_1 : Int32) => (s4_1 + (o_Model_ones (h 54 (16 + i4_1))))) 0 (zcn (h 51 1))) / 2)
theorem rd_Model_links {h h2 : zHp}  (e0 : h2 51 1 = h 51 1) (e1 : h2 54 = h 54) : o_Model_links h2 = o_Model_links h := by
  unfold o_Model_links
  simp only [e0, e1]

set_option maxHeartbeats 400000 in
set_option maxRecDepth 20000 in
theorem c_Model_links (X : zXT) (h : zHp) (g : zLg) (hf0 : zfit h 51 1 8) : zDi X M_Model_links 1 [zR X 51] h g (zI (o_Model_links h)) h g := by
  have hf0_1 := hf0.1
  refine zDi_of "PeriodSlotsModel" prog_9_method_42_code 3 (some .int) rfl (by decide) [zO X 51, none, none] rfl (fun _ q => q) (Nat.le_of_ble_eq_true rfl) ?_
  intro Γ Q C hQ
  refine zr_iconst C (v := 0) d_X7_links_0 (by decide) ?_
  refine zr_istore_n C [zO X 51, zI 0, none] d_X7_links_1 (Nat.le_of_ble_eq_true rfl) rfl rfl ?_
  refine zr_iconst C (v := 0) d_X7_links_2 (by decide) ?_
  refine zr_istore_n C [zO X 51, zI 0, zI 0] d_X7_links_3 (Nat.le_of_ble_eq_true rfl) rfl rfl ?_
  refine zfor (f := (fun (i4_1 : Nat) (s4_1 : Int32) => (s4_1 + (o_Model_ones (h 54 (16 + i4_1)))))) (a := 0) (fun i4_1 s4_1 => zV X Γ Q 4 [zO X 51, zI s4_1, zI (nI i4_1)] [] h g) (fun _ _ => True) (zcn (h 51 1)) trivial (fun i4_1 s4_1 hi4_1 hI4_1 => ⟨trivial, fun hk4_1 => ?_⟩) (fun r4_1 er4_1 hI4_1 => ?_)
  · refine zr_iload_n C d_X7_links_4 rfl ?_
    refine zr_aload_n C d_X7_links_5 rfl ?_
    refine gf_Model_2 C m755 d_X7_links_6 ?_
    refine zr_icmp_ge C 33 d_X7_links_9 (by decide) (fun c => absurd c (zge_no rfl (by omega))) (fun _ => ?_)
    refine zr_iload_n C d_X7_links_12 rfl ?_
    refine zr_aload_n C d_X7_links_13 rfl ?_
    refine gf_Model_4 C m757 d_X7_links_14 ?_
    refine zr_bipush C (v := 16) d_X7_links_17 (by decide) ?_
    refine zr_iload_n C d_X7_links_19 rfl ?_
    refine zr_iadd C d_X7_links_20 ?_
    refine zr_iald C za_54 (16 + i4_1) (zn_add rfl rfl) (by omega) (by decide) d_X7_links_21 ?_
    refine zr_callSi (As := [.int (h 54 (16 + i4_1))]) (st := [.int s4_1]) C (c_Model_ones X h g (h 54 (16 + i4_1))) k_Model_ones m917 m918 rfl (by decide) rfl (Nat.le_of_ble_eq_true rfl) d_X7_links_22 ?_
    refine zr_iadd C d_X7_links_25 ?_
    refine zr_istore_n C [zO X 51, zI (s4_1 + (o_Model_ones (h 54 (16 + i4_1)))), zI (nI i4_1)] d_X7_links_26 (Nat.le_of_ble_eq_true rfl) rfl rfl ?_
    refine zr_iinc C [zO X 51, zI (s4_1 + (o_Model_ones (h 54 (16 + i4_1)))), zI (nI (i4_1 + 1))] (v := (nI (i4_1 + 1))) d_X7_links_27 rfl (zn_add rfl rfl) (Nat.le_of_ble_eq_true rfl) rfl rfl ?_
    refine zr_goto C 4 d_X7_links_30 (by decide) ?_
    exact hk4_1 (s4_1 + (o_Model_ones (h 54 (16 + i4_1)))) rfl
  refine zr_iload_n C d_X7_links_4 rfl ?_
  refine zr_aload_n C d_X7_links_5 rfl ?_
  refine gf_Model_2 C m755 d_X7_links_6 ?_
  refine zr_icmp_ge C 33 d_X7_links_9 (by decide) (fun _ => ?_) (fun c => absurd (zge_yes rfl (by omega) (by have := zcn_small (h 51 1); omega)) c)
  refine zr_iload_n C d_X7_links_33 rfl ?_
  refine zr_iconst C (v := 2) d_X7_links_34 (by decide) ?_
  refine zr_idiv C d_X7_links_35 (by decide) ?_
  have eR : o_Model_links h = (r4_1 / 2) := (by subst er4_1; unfold o_Model_links; exact rfl)
  subst hQ
  rw [eR]
  exact zr_ireti C d_X7_links_36
theorem d_X7_withOffset_0 : decode prog_9_method_43_code 0 = .ok (.iconst 0, 1) := by decide +kernel
theorem d_X7_withOffset_1 : decode prog_9_method_43_code 1 = .ok (.istore_n 2, 1) := by decide +kernel
theorem d_X7_withOffset_2 : decode prog_9_method_43_code 2 = .ok (.iconst 0, 1) := by decide +kernel
theorem d_X7_withOffset_3 : decode prog_9_method_43_code 3 = .ok (.istore_n 3, 1) := by decide +kernel
theorem d_X7_withOffset_4 : decode prog_9_method_43_code 4 = .ok (.iload_n 3, 1) := by decide +kernel
theorem d_X7_withOffset_5 : decode prog_9_method_43_code 5 = .ok (.aload_n 0, 1) := by decide +kernel
theorem d_X7_withOffset_6 : decode prog_9_method_43_code 6 = .ok (.getfield 72, 3) := by decide +kernel
theorem d_X7_withOffset_9 : decode prog_9_method_43_code 9 = .ok (.if_icmp .ge 27, 3) := by decide +kernel
theorem d_X7_withOffset_12 : decode prog_9_method_43_code 12 = .ok (.iload_n 2, 1) := by decide +kernel
theorem d_X7_withOffset_13 : decode prog_9_method_43_code 13 = .ok (.aload_n 1, 1) := by decide +kernel
theorem d_X7_withOffset_14 : decode prog_9_method_43_code 14 = .ok (.iload_n 3, 1) := by decide +kernel
theorem d_X7_withOffset_15 : decode prog_9_method_43_code 15 = .ok (.iaload, 1) := by decide +kernel
theorem d_X7_withOffset_16 : decode prog_9_method_43_code 16 = .ok (.bipush (-9), 2) := by decide +kernel
theorem d_X7_withOffset_18 : decode prog_9_method_43_code 18 = .ok (.if_icmp .ne 7, 3) := by decide +kernel
theorem d_X7_withOffset_21 : decode prog_9_method_43_code 21 = .ok (.iconst 0, 1) := by decide +kernel
theorem d_X7_withOffset_22 : decode prog_9_method_43_code 22 = .ok (.goto 6, 3) := by decide +kernel
theorem d_X7_withOffset_25 : decode prog_9_method_43_code 25 = .ok (.iconst 1, 1) := by decide +kernel
theorem d_X7_withOffset_26 : decode prog_9_method_43_code 26 = .ok (.iload_n 3, 1) := by decide +kernel
theorem d_X7_withOffset_27 : decode prog_9_method_43_code 27 = .ok (.ishl, 1) := by decide +kernel
theorem d_X7_withOffset_28 : decode prog_9_method_43_code 28 = .ok (.ior, 1) := by decide +kernel
theorem d_X7_withOffset_29 : decode prog_9_method_43_code 29 = .ok (.istore_n 2, 1) := by decide +kernel
theorem d_X7_withOffset_30 : decode prog_9_method_43_code 30 = .ok (.iinc 3 1, 3) := by decide +kernel
theorem d_X7_withOffset_33 : decode prog_9_method_43_code 33 = .ok (.goto (-29), 3) := by decide +kernel
theorem d_X7_withOffset_36 : decode prog_9_method_43_code 36 = .ok (.iload_n 2, 1) := by decide +kernel
theorem d_X7_withOffset_37 : decode prog_9_method_43_code 37 = .ok (.ireturn, 1) := by decide +kernel
abbrev M_Model_withOffset : zMT := (⟨"PeriodSlotsModel", "withOffset", "([I)I"⟩, prog_9_method_43_code, 4, (some .int))
theorem k_Model_withOffset : zcall M_Model_withOffset 1 := ⟨zU_in (i := 956) (by decide +kernel) rfl, m62, ⟨by decide, by decide, by decide +kernel⟩, by decide⟩
def o_Model_withOffset (h : zHp) (r : Nat) : Int32 :=
  (zrep (fun (i4_1 : Nat) (s4_1 : Int32) => (s4_1 ||| (if (h r i4_1) = (-9) then 0 else (zshl 1 (nI i4_1))))) 0 (zcn (h 51 1)))
theorem rd_Model_withOffset {h h2 : zHp} {r : Nat} (e0 : h2 51 1 = h 51 1) (e1 : h2 r = h r) : o_Model_withOffset h2 r = o_Model_withOffset h r := by
  unfold o_Model_withOffset
  simp only [e0, e1]

set_option maxHeartbeats 400000 in
set_option maxRecDepth 20000 in
theorem c_Model_withOffset (X : zXT) (h : zHp) (g : zLg) (r : Nat) (hr : r = 54 ∨ r = 55 ∨ r = 56) (hf0 : zfit h 51 1 8) : zDi X M_Model_withOffset 0 [zR X 51, zR X r] h g (zI (o_Model_withOffset h r)) h g := by
  have hf0_1 := hf0.1
  refine zDi_of "PeriodSlotsModel" prog_9_method_43_code 4 (some .int) rfl (by decide) [zO X 51, zO X r, none, none] rfl (fun _ q => q) (Nat.le_of_ble_eq_true rfl) ?_
  intro Γ Q C hQ
  refine zr_iconst C (v := 0) d_X7_withOffset_0 (by decide) ?_
  refine zr_istore_n C [zO X 51, zO X r, zI 0, none] d_X7_withOffset_1 (Nat.le_of_ble_eq_true rfl) rfl rfl ?_
  refine zr_iconst C (v := 0) d_X7_withOffset_2 (by decide) ?_
  refine zr_istore_n C [zO X 51, zO X r, zI 0, zI 0] d_X7_withOffset_3 (Nat.le_of_ble_eq_true rfl) rfl rfl ?_
  refine zfor (f := (fun (i4_1 : Nat) (s4_1 : Int32) => (s4_1 ||| (if (h r i4_1) = (-9) then 0 else (zshl 1 (nI i4_1)))))) (a := 0) (fun i4_1 s4_1 => zV X Γ Q 4 [zO X 51, zO X r, zI s4_1, zI (nI i4_1)] [] h g) (fun _ _ => True) (zcn (h 51 1)) trivial (fun i4_1 s4_1 hi4_1 hI4_1 => ⟨trivial, fun hk4_1 => ?_⟩) (fun r4_1 er4_1 hI4_1 => ?_)
  · refine zr_iload_n C d_X7_withOffset_4 rfl ?_
    refine zr_aload_n C d_X7_withOffset_5 rfl ?_
    refine gf_Model_2 C m755 d_X7_withOffset_6 ?_
    refine zr_icmp_ge C 36 d_X7_withOffset_9 (by decide) (fun c => absurd c (zge_no rfl (by omega))) (fun _ => ?_)
    refine zr_iload_n C d_X7_withOffset_12 rfl ?_
    refine zr_aload_n C d_X7_withOffset_13 rfl ?_
    refine zr_iload_n C d_X7_withOffset_14 rfl ?_
    refine zr_iald C (za_row hr) (i4_1) rfl (by omega) (by decide) d_X7_withOffset_15 ?_
    refine zr_bipush C (v := (-9)) d_X7_withOffset_16 (by decide) ?_
    suffices hJ18 : ∀ (y2 : Int32), (if (h r i4_1) = (-9) then 0 else (zshl 1 (nI i4_1))) = y2 → zV X Γ Q 28 [zO X 51, zO X r, none, zI (nI i4_1)] [.int y2, .int s4_1] h g by
      refine zr_icmp_ne C 25 d_X7_withOffset_18 (by decide) (fun c18 => ?_) (fun c18 => ?_)
      · refine zr_iconst C (v := 1) d_X7_withOffset_25 (by decide) ?_
        refine zr_iload_n C d_X7_withOffset_26 rfl ?_
        refine zr_ishl C d_X7_withOffset_27 ?_
        refine zr_lv [zO X 51, zO X r, none, zI (nI i4_1)] (by simp [zle]) ?_
        exact hJ18 (zshl 1 (nI i4_1)) (((if_neg c18)))
      · refine zr_iconst C (v := 0) d_X7_withOffset_21 (by decide) ?_
        refine zr_goto C 28 d_X7_withOffset_22 (by decide) ?_
        refine zr_lv [zO X 51, zO X r, none, zI (nI i4_1)] (by simp [zle]) ?_
        exact hJ18 0 (((if_pos c18)))
    intro y2 ey2
    refine zr_ior C d_X7_withOffset_28 ?_
    refine zr_istore_n C [zO X 51, zO X r, zI (s4_1 ||| y2), zI (nI i4_1)] d_X7_withOffset_29 (Nat.le_of_ble_eq_true rfl) rfl rfl ?_
    refine zr_iinc C [zO X 51, zO X r, zI (s4_1 ||| y2), zI (nI (i4_1 + 1))] (v := (nI (i4_1 + 1))) d_X7_withOffset_30 rfl (zn_add rfl rfl) (Nat.le_of_ble_eq_true rfl) rfl rfl ?_
    refine zr_goto C 4 d_X7_withOffset_33 (by decide) ?_
    exact hk4_1 (s4_1 ||| y2) (by subst ey2; exact rfl)
  refine zr_iload_n C d_X7_withOffset_4 rfl ?_
  refine zr_aload_n C d_X7_withOffset_5 rfl ?_
  refine gf_Model_2 C m755 d_X7_withOffset_6 ?_
  refine zr_icmp_ge C 36 d_X7_withOffset_9 (by decide) (fun _ => ?_) (fun c => absurd (zge_yes rfl (by omega) (by have := zcn_small (h 51 1); omega)) c)
  refine zr_iload_n C d_X7_withOffset_36 rfl ?_
  have eR : o_Model_withOffset h r = r4_1 := (by subst er4_1; unfold o_Model_withOffset; exact rfl)
  subst hQ
  rw [eR]
  exact zr_ireti C d_X7_withOffset_37
theorem d_X7_nets_0 : decode prog_9_method_44_code 0 = .ok (.iconst 0, 1) := by decide +kernel
theorem d_X7_nets_1 : decode prog_9_method_44_code 1 = .ok (.istore_n 1, 1) := by decide +kernel
theorem d_X7_nets_2 : decode prog_9_method_44_code 2 = .ok (.iconst 0, 1) := by decide +kernel
theorem d_X7_nets_3 : decode prog_9_method_44_code 3 = .ok (.istore_n 2, 1) := by decide +kernel
theorem d_X7_nets_4 : decode prog_9_method_44_code 4 = .ok (.iload_n 2, 1) := by decide +kernel
theorem d_X7_nets_5 : decode prog_9_method_44_code 5 = .ok (.aload_n 0, 1) := by decide +kernel
theorem d_X7_nets_6 : decode prog_9_method_44_code 6 = .ok (.getfield 72, 3) := by decide +kernel
theorem d_X7_nets_9 : decode prog_9_method_44_code 9 = .ok (.if_icmp .ge 33, 3) := by decide +kernel
theorem d_X7_nets_12 : decode prog_9_method_44_code 12 = .ok (.iload_n 1, 1) := by decide +kernel
theorem d_X7_nets_13 : decode prog_9_method_44_code 13 = .ok (.aload_n 0, 1) := by decide +kernel
theorem d_X7_nets_14 : decode prog_9_method_44_code 14 = .ok (.aload_n 0, 1) := by decide +kernel
theorem d_X7_nets_15 : decode prog_9_method_44_code 15 = .ok (.getfield 16, 3) := by decide +kernel
theorem d_X7_nets_18 : decode prog_9_method_44_code 18 = .ok (.iload_n 2, 1) := by decide +kernel
theorem d_X7_nets_19 : decode prog_9_method_44_code 19 = .ok (.invokevirtual 194, 3) := by decide +kernel
theorem d_X7_nets_22 : decode prog_9_method_44_code 22 = .ok (.invokestatic 177, 3) := by decide +kernel
theorem d_X7_nets_25 : decode prog_9_method_44_code 25 = .ok (.iload_n 2, 1) := by decide +kernel
theorem d_X7_nets_26 : decode prog_9_method_44_code 26 = .ok (.if_icmp .ne 7, 3) := by decide +kernel
theorem d_X7_nets_29 : decode prog_9_method_44_code 29 = .ok (.iconst 1, 1) := by decide +kernel
theorem d_X7_nets_30 : decode prog_9_method_44_code 30 = .ok (.goto 4, 3) := by decide +kernel
theorem d_X7_nets_33 : decode prog_9_method_44_code 33 = .ok (.iconst 0, 1) := by decide +kernel
theorem d_X7_nets_34 : decode prog_9_method_44_code 34 = .ok (.iadd, 1) := by decide +kernel
theorem d_X7_nets_35 : decode prog_9_method_44_code 35 = .ok (.istore_n 1, 1) := by decide +kernel
theorem d_X7_nets_36 : decode prog_9_method_44_code 36 = .ok (.iinc 2 1, 3) := by decide +kernel
theorem d_X7_nets_39 : decode prog_9_method_44_code 39 = .ok (.goto (-35), 3) := by decide +kernel
theorem d_X7_nets_42 : decode prog_9_method_44_code 42 = .ok (.iload_n 1, 1) := by decide +kernel
theorem d_X7_nets_43 : decode prog_9_method_44_code 43 = .ok (.ireturn, 1) := by decide +kernel
abbrev M_Model_nets : zMT := (⟨"PeriodSlotsModel", "nets", "()I"⟩, prog_9_method_44_code, 3, (some .int))
theorem k_Model_nets : zcall M_Model_nets 0 := ⟨zU_in (i := 968) (by decide +kernel) rfl, m62, ⟨by decide, by decide, by decide +kernel⟩, by decide⟩
def o_Model_nets (h : zHp) : Int32 :=
  (zrep (fun (i4_1 : Nat) (s4_1 : Int32) => (s4_1 + (zb (decide ((o_Model_leastOf (o_Model_netOf h 54 (nI i4_1))) = (nI i4_1)))))) 0 (zcn (h 51 1)))
theorem rd_Model_nets {h h2 : zHp}  (e0 : h2 51 1 = h 51 1) (e1 : h2 54 = h 54) : o_Model_nets h2 = o_Model_nets h := by
  unfold o_Model_nets
  simp only [e0, e1, rd_Model_netOf e0 e1]

set_option maxHeartbeats 400000 in
set_option maxRecDepth 20000 in
theorem c_Model_nets (X : zXT) (h : zHp) (g : zLg) (hf0 : zfit h 51 1 8) : zDi X M_Model_nets 2 [zR X 51] h g (zI (o_Model_nets h)) h g := by
  have hf0_1 := hf0.1
  refine zDi_of "PeriodSlotsModel" prog_9_method_44_code 3 (some .int) rfl (by decide) [zO X 51, none, none] rfl (fun _ q => q) (Nat.le_of_ble_eq_true rfl) ?_
  intro Γ Q C hQ
  refine zr_iconst C (v := 0) d_X7_nets_0 (by decide) ?_
  refine zr_istore_n C [zO X 51, zI 0, none] d_X7_nets_1 (Nat.le_of_ble_eq_true rfl) rfl rfl ?_
  refine zr_iconst C (v := 0) d_X7_nets_2 (by decide) ?_
  refine zr_istore_n C [zO X 51, zI 0, zI 0] d_X7_nets_3 (Nat.le_of_ble_eq_true rfl) rfl rfl ?_
  refine zfor (f := (fun (i4_1 : Nat) (s4_1 : Int32) => (s4_1 + (zb (decide ((o_Model_leastOf (o_Model_netOf h 54 (nI i4_1))) = (nI i4_1))))))) (a := 0) (fun i4_1 s4_1 => zV X Γ Q 4 [zO X 51, zI s4_1, zI (nI i4_1)] [] h g) (fun _ _ => True) (zcn (h 51 1)) trivial (fun i4_1 s4_1 hi4_1 hI4_1 => ⟨trivial, fun hk4_1 => ?_⟩) (fun r4_1 er4_1 hI4_1 => ?_)
  · refine zr_iload_n C d_X7_nets_4 rfl ?_
    refine zr_aload_n C d_X7_nets_5 rfl ?_
    refine gf_Model_2 C m755 d_X7_nets_6 ?_
    refine zr_icmp_ge C 42 d_X7_nets_9 (by decide) (fun c => absurd c (zge_no rfl (by omega))) (fun _ => ?_)
    refine zr_iload_n C d_X7_nets_12 rfl ?_
    refine zr_aload_n C d_X7_nets_13 rfl ?_
    refine zr_aload_n C d_X7_nets_14 rfl ?_
    refine gf_Model_4 C m757 d_X7_nets_15 ?_
    refine zr_iload_n C d_X7_nets_18 rfl ?_
    refine zr_callVi (As := [zR X 54, .int (nI i4_1)]) (st := [.int s4_1]) (c := 51) C (c_Model_netOf X h g 54 (nI i4_1) (by decide) hf0) k_Model_netOf m969 m971 m39 (by decide) (zC_Model X _ _) rfl rfl (by decide) rfl (Nat.le_of_ble_eq_true rfl) d_X7_nets_19 ?_
    refine zr_callSi (As := [.int (o_Model_netOf h 54 (nI i4_1))]) (st := [.int s4_1]) C (c_Model_leastOf X h g (o_Model_netOf h 54 (nI i4_1))) k_Model_leastOf m973 m974 rfl (by decide) rfl (Nat.le_of_ble_eq_true rfl) d_X7_nets_22 ?_
    refine zr_iload_n C d_X7_nets_25 rfl ?_
    suffices hJ26 : ∀ (y2 : Bool), (decide ((o_Model_leastOf (o_Model_netOf h 54 (nI i4_1))) = (nI i4_1))) = y2 → zV X Γ Q 34 [zO X 51, none, zI (nI i4_1)] [.int (zb y2), .int s4_1] h g by
      refine zr_icmp_ne C 33 d_X7_nets_26 (by decide) (fun c26 => ?_) (fun c26 => ?_)
      · refine zr_iconst C (v := 0) d_X7_nets_33 (by decide) ?_
        refine zr_lv [zO X 51, none, zI (nI i4_1)] (by simp [zle]) ?_
        exact hJ26 false (by simp [c26])
      · refine zr_iconst C (v := 1) d_X7_nets_29 (by decide) ?_
        refine zr_goto C 34 d_X7_nets_30 (by decide) ?_
        refine zr_lv [zO X 51, none, zI (nI i4_1)] (by simp [zle]) ?_
        exact hJ26 true (by simp [c26])
    intro y2 ey2
    refine zr_iadd C d_X7_nets_34 ?_
    refine zr_istore_n C [zO X 51, zI (s4_1 + (zb y2)), zI (nI i4_1)] d_X7_nets_35 (Nat.le_of_ble_eq_true rfl) rfl rfl ?_
    refine zr_iinc C [zO X 51, zI (s4_1 + (zb y2)), zI (nI (i4_1 + 1))] (v := (nI (i4_1 + 1))) d_X7_nets_36 rfl (zn_add rfl rfl) (Nat.le_of_ble_eq_true rfl) rfl rfl ?_
    refine zr_goto C 4 d_X7_nets_39 (by decide) ?_
    exact hk4_1 (s4_1 + (zb y2)) (by subst ey2; exact rfl)
  refine zr_iload_n C d_X7_nets_4 rfl ?_
  refine zr_aload_n C d_X7_nets_5 rfl ?_
  refine gf_Model_2 C m755 d_X7_nets_6 ?_
  refine zr_icmp_ge C 42 d_X7_nets_9 (by decide) (fun _ => ?_) (fun c => absurd (zge_yes rfl (by omega) (by have := zcn_small (h 51 1); omega)) c)
  refine zr_iload_n C d_X7_nets_42 rfl ?_
  have eR : o_Model_nets h = r4_1 := (by subst er4_1; unfold o_Model_nets; exact rfl)
  subst hQ
  rw [eR]
  exact zr_ireti C d_X7_nets_43
