/-! Walks of methods, by program (wip/whole/gen). -/
theorem d_X6_has_0 : decode prog_1_method_42_code 0 = .ok (.iload_n 0, 1) := by decide +kernel
theorem d_X6_has_1 : decode prog_1_method_42_code 1 = .ok (.iload_n 1, 1) := by decide +kernel
theorem d_X6_has_2 : decode prog_1_method_42_code 2 = .ok (.ishr, 1) := by decide +kernel
theorem d_X6_has_3 : decode prog_1_method_42_code 3 = .ok (.iconst 1, 1) := by decide +kernel
theorem d_X6_has_4 : decode prog_1_method_42_code 4 = .ok (.iand, 1) := by decide +kernel
theorem d_X6_has_5 : decode prog_1_method_42_code 5 = .ok (.ifCond .eq 7, 3) := by decide +kernel
theorem d_X6_has_8 : decode prog_1_method_42_code 8 = .ok (.iconst 1, 1) := by decide +kernel
theorem d_X6_has_9 : decode prog_1_method_42_code 9 = .ok (.goto 4, 3) := by decide +kernel
theorem d_X6_has_12 : decode prog_1_method_42_code 12 = .ok (.iconst 0, 1) := by decide +kernel
theorem d_X6_has_13 : decode prog_1_method_42_code 13 = .ok (.ireturn, 1) := by decide +kernel
abbrev M_Slots_has : zMT := (⟨"PeriodSlots", "has", "(II)Z"⟩, prog_1_method_42_code, 2, (some .boolean))
theorem k_Slots_has : zcall M_Slots_has 2 := ⟨zU_in (i := 323) (by decide +kernel) rfl, m54, ⟨by decide, by decide, by decide +kernel⟩, by decide⟩
def o_Slots_has (set : Int32) (k : Int32) : Bool :=
  (!(decide (((zsar set k) &&& 1) = 0)))
set_option maxHeartbeats 2000000 in
theorem c_Slots_has (X : zXT) (h : zHp) (g : zLg) (set : Int32) (k : Int32) : zDi X M_Slots_has 0 [.int set, .int k] h g (zI (zb (o_Slots_has set k))) h g := by
  refine zDi_of "PeriodSlots" prog_1_method_42_code 2 (some .boolean) rfl (by decide) [zI set, zI k] rfl (fun _ q => q) (Nat.le_of_ble_eq_true rfl) ?_
  intro Γ Q C hQ
  refine zr_iload_n C d_X6_has_0 rfl ?_
  refine zr_iload_n C d_X6_has_1 rfl ?_
  refine zr_ishr C d_X6_has_2 ?_
  refine zr_iconst C (v := 1) d_X6_has_3 (by decide) ?_
  refine zr_iand C d_X6_has_4 ?_
  suffices hJ5 : ∀ (y1 : Bool), y1 = (!(decide (((zsar set k) &&& 1) = 0))) → zV X Γ Q 13 [none, none] [.int (zb y1)] h g by
    refine zr_if_eq C 12 d_X6_has_5 (by decide) (fun c5 => ?_) (fun c5 => ?_)
    · refine zr_iconst C (v := 0) d_X6_has_12 (by decide) ?_
      refine zr_lv [none, none] (by simp [zle]) ?_
      exact hJ5 false (by simp [c5])
    · refine zr_iconst C (v := 1) d_X6_has_8 (by decide) ?_
      refine zr_goto C 13 d_X6_has_9 (by decide) ?_
      refine zr_lv [none, none] (by simp [zle]) ?_
      exact hJ5 true (by simp [c5])
  intro y1 ey1
  subst ey1
  have eR : o_Slots_has set k = (!(decide (((zsar set k) &&& 1) = 0))) := by unfold o_Slots_has; exact rfl
  subst hQ
  rw [eR]
  exact zr_iretz C (zb_01 _) d_X6_has_13
theorem d_X1_exists_0 : decode prog_3_method_6_code 0 = .ok (.iload_n 1, 1) := by decide +kernel
theorem d_X1_exists_1 : decode prog_3_method_6_code 1 = .ok (.ifCond .lt 15, 3) := by decide +kernel
theorem d_X1_exists_4 : decode prog_3_method_6_code 4 = .ok (.iload_n 1, 1) := by decide +kernel
theorem d_X1_exists_5 : decode prog_3_method_6_code 5 = .ok (.aload_n 0, 1) := by decide +kernel
theorem d_X1_exists_6 : decode prog_3_method_6_code 6 = .ok (.getfield 45, 3) := by decide +kernel
theorem d_X1_exists_9 : decode prog_3_method_6_code 9 = .ok (.if_icmp .ge 7, 3) := by decide +kernel
theorem d_X1_exists_12 : decode prog_3_method_6_code 12 = .ok (.iconst 1, 1) := by decide +kernel
theorem d_X1_exists_13 : decode prog_3_method_6_code 13 = .ok (.goto 4, 3) := by decide +kernel
theorem d_X1_exists_16 : decode prog_3_method_6_code 16 = .ok (.iconst 0, 1) := by decide +kernel
theorem d_X1_exists_17 : decode prog_3_method_6_code 17 = .ok (.ireturn, 1) := by decide +kernel
abbrev M_Mesh_exists : zMT := (⟨"PeriodSlots$Mesh", "exists", "(I)Z"⟩, prog_3_method_6_code, 2, (some .boolean))
theorem k_Mesh_exists : zcall M_Mesh_exists 1 := ⟨zU_in (i := 361) (by decide +kernel) rfl, m56, ⟨by decide, by decide, by decide +kernel⟩, by decide⟩
def o_Mesh_exists (h : zHp) (b : Nat) (v : Int32) : Bool :=
  (!(decide (v < 0)) && (!(decide ((h b 0) ≤ v))))
set_option maxHeartbeats 2000000 in
theorem c_Mesh_exists (X : zXT) (h : zHp) (g : zLg) (b : Nat) (v : Int32) (hb : b = 3 ∨ b = 15 ∨ b = 27) : zDi X M_Mesh_exists 0 [zR X b, .int v] h g (zI (zb (o_Mesh_exists h b v))) h g := by
  refine zDi_of "PeriodSlots$Mesh" prog_3_method_6_code 2 (some .boolean) rfl (by decide) [zO X b, zI v] rfl (fun _ q => q) (Nat.le_of_ble_eq_true rfl) ?_
  intro Γ Q C hQ
  refine zr_iload_n C d_X1_exists_0 rfl ?_
  suffices hJ1 : ∀ (y1 : Bool), y1 = (!(decide (v < 0)) && (!(decide ((h b 0) ≤ v)))) → zV X Γ Q 17 [none, none] [.int (zb y1)] h g by
    refine zr_if_lt C 16 d_X1_exists_1 (by decide) (fun c1 => ?_) (fun c1 => ?_)
    · refine zr_iconst C (v := 0) d_X1_exists_16 (by decide) ?_
      refine zr_lv [none, none] (by simp [zle]) ?_
      exact hJ1 false (by simp [c1])
    · refine zr_iload_n C d_X1_exists_4 rfl ?_
      refine zr_aload_n C d_X1_exists_5 rfl ?_
      refine gf_Mesh_0 C hb m95 d_X1_exists_6 ?_
      refine zr_icmp_ge C 16 d_X1_exists_9 (by decide) (fun c9 => ?_) (fun c9 => ?_)
      · refine zr_iconst C (v := 0) d_X1_exists_16 (by decide) ?_
        refine zr_lv [none, none] (by simp [zle]) ?_
        exact hJ1 false (by simp [c1, c9])
      · refine zr_iconst C (v := 1) d_X1_exists_12 (by decide) ?_
        refine zr_goto C 17 d_X1_exists_13 (by decide) ?_
        refine zr_lv [none, none] (by simp [zle]) ?_
        exact hJ1 true (by simp [c1, c9])
  intro y1 ey1
  subst ey1
  have eR : o_Mesh_exists h b v = (!(decide (v < 0)) && (!(decide ((h b 0) ≤ v)))) := by unfold o_Mesh_exists; exact rfl
  subst hQ
  rw [eR]
  exact zr_iretz C (zb_01 _) d_X1_exists_17
theorem d_X1_neighboursOf_0 : decode prog_3_method_15_code 0 = .ok (.iconst 0, 1) := by decide +kernel
theorem d_X1_neighboursOf_1 : decode prog_3_method_15_code 1 = .ok (.istore_n 2, 1) := by decide +kernel
theorem d_X1_neighboursOf_2 : decode prog_3_method_15_code 2 = .ok (.iconst 0, 1) := by decide +kernel
theorem d_X1_neighboursOf_3 : decode prog_3_method_15_code 3 = .ok (.istore_n 3, 1) := by decide +kernel
theorem d_X1_neighboursOf_4 : decode prog_3_method_15_code 4 = .ok (.iload_n 3, 1) := by decide +kernel
theorem d_X1_neighboursOf_5 : decode prog_3_method_15_code 5 = .ok (.aload_n 0, 1) := by decide +kernel
theorem d_X1_neighboursOf_6 : decode prog_3_method_15_code 6 = .ok (.getfield 45, 3) := by decide +kernel
theorem d_X1_neighboursOf_9 : decode prog_3_method_15_code 9 = .ok (.if_icmp .ge 26, 3) := by decide +kernel
theorem d_X1_neighboursOf_12 : decode prog_3_method_15_code 12 = .ok (.iload_n 1, 1) := by decide +kernel
theorem d_X1_neighboursOf_13 : decode prog_3_method_15_code 13 = .ok (.iload_n 3, 1) := by decide +kernel
theorem d_X1_neighboursOf_14 : decode prog_3_method_15_code 14 = .ok (.invokestatic 89, 3) := by decide +kernel
theorem d_X1_neighboursOf_17 : decode prog_3_method_15_code 17 = .ok (.ifCond .eq 12, 3) := by decide +kernel
theorem d_X1_neighboursOf_20 : decode prog_3_method_15_code 20 = .ok (.iload_n 2, 1) := by decide +kernel
theorem d_X1_neighboursOf_21 : decode prog_3_method_15_code 21 = .ok (.aload_n 0, 1) := by decide +kernel
theorem d_X1_neighboursOf_22 : decode prog_3_method_15_code 22 = .ok (.getfield 15, 3) := by decide +kernel
theorem d_X1_neighboursOf_25 : decode prog_3_method_15_code 25 = .ok (.iload_n 3, 1) := by decide +kernel
theorem d_X1_neighboursOf_26 : decode prog_3_method_15_code 26 = .ok (.iaload, 1) := by decide +kernel
theorem d_X1_neighboursOf_27 : decode prog_3_method_15_code 27 = .ok (.ior, 1) := by decide +kernel
theorem d_X1_neighboursOf_28 : decode prog_3_method_15_code 28 = .ok (.istore_n 2, 1) := by decide +kernel
theorem d_X1_neighboursOf_29 : decode prog_3_method_15_code 29 = .ok (.iinc 3 1, 3) := by decide +kernel
theorem d_X1_neighboursOf_32 : decode prog_3_method_15_code 32 = .ok (.goto (-28), 3) := by decide +kernel
theorem d_X1_neighboursOf_35 : decode prog_3_method_15_code 35 = .ok (.iload_n 2, 1) := by decide +kernel
theorem d_X1_neighboursOf_36 : decode prog_3_method_15_code 36 = .ok (.ireturn, 1) := by decide +kernel
abbrev M_Mesh_neighboursOf : zMT := (⟨"PeriodSlots$Mesh", "neighboursOf", "(I)I"⟩, prog_3_method_15_code, 4, (some .int))
theorem k_Mesh_neighboursOf : zcall M_Mesh_neighboursOf 1 := ⟨zU_in (i := 320) (by decide +kernel) rfl, m56, ⟨by decide, by decide, by decide +kernel⟩, by decide⟩
def o_Mesh_neighboursOf (h : zHp) (b : Nat) (set : Int32) : Int32 :=
  (zrep (fun (i4_1 : Nat) (s4_1 : Int32) => (if (o_Slots_has set (nI i4_1)) = true then (s4_1 ||| (h (b + 2) i4_1)) else s4_1)) 0 (zcn (h b 0)))
set_option maxHeartbeats 2000000 in
theorem c_Mesh_neighboursOf (X : zXT) (h : zHp) (g : zLg) (b : Nat) (set : Int32) (hb : b = 3 ∨ b = 15 ∨ b = 27) (hf0 : zfit h b 0 8) : zDi X M_Mesh_neighboursOf 1 [zR X b, .int set] h g (zI (o_Mesh_neighboursOf h b set)) h g := by
  have hf0_1 := hf0.1
  refine zDi_of "PeriodSlots$Mesh" prog_3_method_15_code 4 (some .int) rfl (by decide) [zO X b, zI set, none, none] rfl (fun _ q => q) (Nat.le_of_ble_eq_true rfl) ?_
  intro Γ Q C hQ
  refine zr_iconst C (v := 0) d_X1_neighboursOf_0 (by decide) ?_
  refine zr_istore_n C [zO X b, zI set, zI 0, none] d_X1_neighboursOf_1 (Nat.le_of_ble_eq_true rfl) rfl rfl ?_
  refine zr_iconst C (v := 0) d_X1_neighboursOf_2 (by decide) ?_
  refine zr_istore_n C [zO X b, zI set, zI 0, zI 0] d_X1_neighboursOf_3 (Nat.le_of_ble_eq_true rfl) rfl rfl ?_
  refine zfor (f := (fun (i4_1 : Nat) (s4_1 : Int32) => (if (o_Slots_has set (nI i4_1)) = true then (s4_1 ||| (h (b + 2) i4_1)) else s4_1))) (a := 0) (fun i4_1 s4_1 => zV X Γ Q 4 [zO X b, zI set, zI s4_1, zI (nI i4_1)] [] h g) (fun _ _ => True) (zcn (h b 0)) trivial (fun i4_1 s4_1 hi4_1 hI4_1 => ⟨trivial, fun hk4_1 => ?_⟩) (fun r4_1 er4_1 hI4_1 => ?_)
  · refine zr_iload_n C d_X1_neighboursOf_4 rfl ?_
    refine zr_aload_n C d_X1_neighboursOf_5 rfl ?_
    refine gf_Mesh_0 C hb m95 d_X1_neighboursOf_6 ?_
    refine zr_icmp_ge C 35 d_X1_neighboursOf_9 (by decide) (fun c => absurd c (zge_no rfl (by omega))) (fun _ => ?_)
    refine zr_iload_n C d_X1_neighboursOf_12 rfl ?_
    refine zr_iload_n C d_X1_neighboursOf_13 rfl ?_
    refine zr_callNi (As := [.int set, .int (nI i4_1)]) (st := []) C (c_Slots_has X h g set (nI i4_1)) k_Slots_has (by simp [zNest]) m322 rfl (by decide) rfl (Nat.le_of_ble_eq_true rfl) d_X1_neighboursOf_14 ?_
    suffices hJ17 : ∀ (y2 : Int32), y2 = (if (o_Slots_has set (nI i4_1)) = true then (s4_1 ||| (h (b + 2) i4_1)) else s4_1) → zV X Γ Q 29 [zO X b, zI set, zI y2, zI (nI i4_1)] [] h g by
      refine zr_ifz_eq C 29 d_X1_neighboursOf_17 (by decide) (fun c17 => ?_) (fun c17 => ?_)
      · exact hJ17 s4_1 (((if_neg (zbf c17)))).symm
      · refine zr_iload_n C d_X1_neighboursOf_20 rfl ?_
        refine zr_aload_n C d_X1_neighboursOf_21 rfl ?_
        refine gf_Mesh_4 C hb m107 d_X1_neighboursOf_22 ?_
        refine zr_iload_n C d_X1_neighboursOf_25 rfl ?_
        refine zr_iald C (za_mesh_2 hb) (i4_1) rfl (by omega) (by decide) d_X1_neighboursOf_26 ?_
        refine zr_ior C d_X1_neighboursOf_27 ?_
        refine zr_istore_n C [zO X b, zI set, zI (s4_1 ||| (h (b + 2) i4_1)), zI (nI i4_1)] d_X1_neighboursOf_28 (Nat.le_of_ble_eq_true rfl) rfl rfl ?_
        exact hJ17 (s4_1 ||| (h (b + 2) i4_1)) (((if_pos c17))).symm
    intro y2 ey2
    refine zr_iinc C [zO X b, zI set, zI y2, zI (nI (i4_1 + 1))] (v := (nI (i4_1 + 1))) d_X1_neighboursOf_29 rfl (zn_add rfl rfl) (Nat.le_of_ble_eq_true rfl) rfl rfl ?_
    refine zr_goto C 4 d_X1_neighboursOf_32 (by decide) ?_
    subst ey2
    exact hk4_1 (if (o_Slots_has set (nI i4_1)) = true then (s4_1 ||| (h (b + 2) i4_1)) else s4_1) rfl.symm
  refine zr_iload_n C d_X1_neighboursOf_4 rfl ?_
  refine zr_aload_n C d_X1_neighboursOf_5 rfl ?_
  refine gf_Mesh_0 C hb m95 d_X1_neighboursOf_6 ?_
  refine zr_icmp_ge C 35 d_X1_neighboursOf_9 (by decide) (fun _ => ?_) (fun c => absurd (zge_yes rfl (by omega) (by have := zcn_small (h b 0); omega)) c)
  refine zr_iload_n C d_X1_neighboursOf_35 rfl ?_
  subst er4_1
  have eR : o_Mesh_neighboursOf h b set = (zrep (fun (i4_1 : Nat) (s4_1 : Int32) => (if (o_Slots_has set (nI i4_1)) = true then (s4_1 ||| (h (b + 2) i4_1)) else s4_1)) 0 (zcn (h b 0))) := by unfold o_Mesh_neighboursOf; exact rfl
  subst hQ
  rw [eR]
  exact zr_ireti C d_X1_neighboursOf_36
theorem d_X1_netOf_0 : decode prog_3_method_14_code 0 = .ok (.iconst 1, 1) := by decide +kernel
theorem d_X1_netOf_1 : decode prog_3_method_14_code 1 = .ok (.iload_n 1, 1) := by decide +kernel
theorem d_X1_netOf_2 : decode prog_3_method_14_code 2 = .ok (.ishl, 1) := by decide +kernel
theorem d_X1_netOf_3 : decode prog_3_method_14_code 3 = .ok (.istore_n 2, 1) := by decide +kernel
theorem d_X1_netOf_4 : decode prog_3_method_14_code 4 = .ok (.iconst 1, 1) := by decide +kernel
theorem d_X1_netOf_5 : decode prog_3_method_14_code 5 = .ok (.istore_n 3, 1) := by decide +kernel
theorem d_X1_netOf_6 : decode prog_3_method_14_code 6 = .ok (.iload_n 3, 1) := by decide +kernel
theorem d_X1_netOf_7 : decode prog_3_method_14_code 7 = .ok (.aload_n 0, 1) := by decide +kernel
theorem d_X1_netOf_8 : decode prog_3_method_14_code 8 = .ok (.getfield 45, 3) := by decide +kernel
theorem d_X1_netOf_11 : decode prog_3_method_14_code 11 = .ok (.if_icmp .ge 17, 3) := by decide +kernel
theorem d_X1_netOf_14 : decode prog_3_method_14_code 14 = .ok (.iload_n 2, 1) := by decide +kernel
theorem d_X1_netOf_15 : decode prog_3_method_14_code 15 = .ok (.aload_n 0, 1) := by decide +kernel
theorem d_X1_netOf_16 : decode prog_3_method_14_code 16 = .ok (.iload_n 2, 1) := by decide +kernel
theorem d_X1_netOf_17 : decode prog_3_method_14_code 17 = .ok (.invokevirtual 86, 3) := by decide +kernel
theorem d_X1_netOf_20 : decode prog_3_method_14_code 20 = .ok (.ior, 1) := by decide +kernel
theorem d_X1_netOf_21 : decode prog_3_method_14_code 21 = .ok (.istore_n 2, 1) := by decide +kernel
theorem d_X1_netOf_22 : decode prog_3_method_14_code 22 = .ok (.iinc 3 1, 3) := by decide +kernel
theorem d_X1_netOf_25 : decode prog_3_method_14_code 25 = .ok (.goto (-19), 3) := by decide +kernel
theorem d_X1_netOf_28 : decode prog_3_method_14_code 28 = .ok (.iload_n 2, 1) := by decide +kernel
theorem d_X1_netOf_29 : decode prog_3_method_14_code 29 = .ok (.ireturn, 1) := by decide +kernel
abbrev M_Mesh_netOf : zMT := (⟨"PeriodSlots$Mesh", "netOf", "(I)I"⟩, prog_3_method_14_code, 4, (some .int))
theorem k_Mesh_netOf : zcall M_Mesh_netOf 1 := ⟨zU_in (i := 438) (by decide +kernel) rfl, m56, ⟨by decide, by decide, by decide +kernel⟩, by decide⟩
def o_Mesh_netOf (h : zHp) (b : Nat) (v : Nat) : Int32 :=
  (zrep (fun (i6_1 : Nat) (s6_1 : Int32) => (s6_1 ||| (o_Mesh_neighboursOf h b s6_1))) (zshl 1 (nI v)) (zcn (h b 0) - 1))
set_option maxHeartbeats 2000000 in
theorem c_Mesh_netOf (X : zXT) (h : zHp) (g : zLg) (b : Nat) (v : Nat) {x_v : Int32} (e_v : x_v = nI v) (hb : b = 3 ∨ b = 15 ∨ b = 27) (hf0 : zfit h b 0 8) : zDi X M_Mesh_netOf 2 [zR X b, .int x_v] h g (zI (o_Mesh_netOf h b v)) h g := by
  subst e_v
  have hf0_1 := hf0.1
  refine zDi_of "PeriodSlots$Mesh" prog_3_method_14_code 4 (some .int) rfl (by decide) [zO X b, zI (nI v), none, none] rfl (fun _ q => q) (Nat.le_of_ble_eq_true rfl) ?_
  intro Γ Q C hQ
  refine zr_iconst C (v := 1) d_X1_netOf_0 (by decide) ?_
  refine zr_iload_n C d_X1_netOf_1 rfl ?_
  refine zr_ishl C d_X1_netOf_2 ?_
  refine zr_istore_n C [zO X b, zI (nI v), zI (zshl 1 (nI v)), none] d_X1_netOf_3 (Nat.le_of_ble_eq_true rfl) rfl rfl ?_
  refine zr_iconst C (v := 1) d_X1_netOf_4 (by decide) ?_
  refine zr_istore_n C [zO X b, zI (nI v), zI (zshl 1 (nI v)), zI 1] d_X1_netOf_5 (Nat.le_of_ble_eq_true rfl) rfl rfl ?_
  refine zr_lv [zO X b, none, zI (zshl 1 (nI v)), zI 1] (by simp [zle]) ?_
  refine zfor (f := (fun (i6_1 : Nat) (s6_1 : Int32) => (s6_1 ||| (o_Mesh_neighboursOf h b s6_1)))) (a := (zshl 1 (nI v))) (fun i6_1 s6_1 => zV X Γ Q 6 [zO X b, none, zI s6_1, zI (nI (1 + i6_1))] [] h g) (fun _ _ => True) (zcn (h b 0) - 1) trivial (fun i6_1 s6_1 hi6_1 hI6_1 => ⟨trivial, fun hk6_1 => ?_⟩) (fun r6_1 er6_1 hI6_1 => ?_)
  · refine zr_iload_n C d_X1_netOf_6 rfl ?_
    refine zr_aload_n C d_X1_netOf_7 rfl ?_
    refine gf_Mesh_0 C hb m95 d_X1_netOf_8 ?_
    refine zr_icmp_ge C 28 d_X1_netOf_11 (by decide) (fun c => absurd c (zge_no rfl (by omega))) (fun _ => ?_)
    refine zr_iload_n C d_X1_netOf_14 rfl ?_
    refine zr_aload_n C d_X1_netOf_15 rfl ?_
    refine zr_iload_n C d_X1_netOf_16 rfl ?_
    refine zr_callVi (As := [.int s6_1]) (st := [.int s6_1]) (c := b) C (c_Mesh_neighboursOf X h g b s6_1 hb hf0) k_Mesh_neighboursOf m317 m319 m2 (by omega) (zC_Mesh hb X _ _) rfl rfl (by decide) rfl (Nat.le_of_ble_eq_true rfl) d_X1_netOf_17 ?_
    refine zr_ior C d_X1_netOf_20 ?_
    refine zr_istore_n C [zO X b, none, zI (s6_1 ||| (o_Mesh_neighboursOf h b s6_1)), zI (nI (1 + i6_1))] d_X1_netOf_21 (Nat.le_of_ble_eq_true rfl) rfl rfl ?_
    refine zr_iinc C [zO X b, none, zI (s6_1 ||| (o_Mesh_neighboursOf h b s6_1)), zI (nI ((1 + i6_1) + 1))] (v := (nI ((1 + i6_1) + 1))) d_X1_netOf_22 rfl (zn_add rfl rfl) (Nat.le_of_ble_eq_true rfl) rfl rfl ?_
    refine zr_goto C 6 d_X1_netOf_25 (by decide) ?_
    exact hk6_1 (s6_1 ||| (o_Mesh_neighboursOf h b s6_1)) rfl.symm
  refine zr_iload_n C d_X1_netOf_6 rfl ?_
  refine zr_aload_n C d_X1_netOf_7 rfl ?_
  refine gf_Mesh_0 C hb m95 d_X1_netOf_8 ?_
  refine zr_icmp_ge C 28 d_X1_netOf_11 (by decide) (fun _ => ?_) (fun c => absurd (zge_yes rfl (by omega) (by have := zcn_small (h b 0); omega)) c)
  refine zr_iload_n C d_X1_netOf_28 rfl ?_
  subst er6_1
  have eR : o_Mesh_netOf h b v = (zrep (fun (i6_1 : Nat) (s6_1 : Int32) => (s6_1 ||| (o_Mesh_neighboursOf h b s6_1))) (zshl 1 (nI v)) (zcn (h b 0) - 1)) := by unfold o_Mesh_netOf; exact rfl
  subst hQ
  rw [eR]
  exact zr_ireti C d_X1_netOf_29
theorem d_J6_bitCount_0f7a4_0 : decode prog_10_method_49_code 0 = .ok (.iload_n 0, 1) := by decide +kernel
theorem d_J6_bitCount_0f7a4_1 : decode prog_10_method_49_code 1 = .ok (.iload_n 0, 1) := by decide +kernel
theorem d_J6_bitCount_0f7a4_2 : decode prog_10_method_49_code 2 = .ok (.iconst 1, 1) := by decide +kernel
theorem d_J6_bitCount_0f7a4_3 : decode prog_10_method_49_code 3 = .ok (.iushr, 1) := by decide +kernel
theorem d_J6_bitCount_0f7a4_4 : decode prog_10_method_49_code 4 = .ok (.ldc_w 265, 3) := by decide +kernel
theorem d_J6_bitCount_0f7a4_7 : decode prog_10_method_49_code 7 = .ok (.iand, 1) := by decide +kernel
theorem d_J6_bitCount_0f7a4_8 : decode prog_10_method_49_code 8 = .ok (.isub, 1) := by decide +kernel
theorem d_J6_bitCount_0f7a4_9 : decode prog_10_method_49_code 9 = .ok (.istore_n 0, 1) := by decide +kernel
theorem d_J6_bitCount_0f7a4_10 : decode prog_10_method_49_code 10 = .ok (.iload_n 0, 1) := by decide +kernel
theorem d_J6_bitCount_0f7a4_11 : decode prog_10_method_49_code 11 = .ok (.ldc_w 266, 3) := by decide +kernel
theorem d_J6_bitCount_0f7a4_14 : decode prog_10_method_49_code 14 = .ok (.iand, 1) := by decide +kernel
theorem d_J6_bitCount_0f7a4_15 : decode prog_10_method_49_code 15 = .ok (.iload_n 0, 1) := by decide +kernel
theorem d_J6_bitCount_0f7a4_16 : decode prog_10_method_49_code 16 = .ok (.iconst 2, 1) := by decide +kernel
theorem d_J6_bitCount_0f7a4_17 : decode prog_10_method_49_code 17 = .ok (.iushr, 1) := by decide +kernel
theorem d_J6_bitCount_0f7a4_18 : decode prog_10_method_49_code 18 = .ok (.ldc_w 266, 3) := by decide +kernel
theorem d_J6_bitCount_0f7a4_21 : decode prog_10_method_49_code 21 = .ok (.iand, 1) := by decide +kernel
theorem d_J6_bitCount_0f7a4_22 : decode prog_10_method_49_code 22 = .ok (.iadd, 1) := by decide +kernel
theorem d_J6_bitCount_0f7a4_23 : decode prog_10_method_49_code 23 = .ok (.istore_n 0, 1) := by decide +kernel
theorem d_J6_bitCount_0f7a4_24 : decode prog_10_method_49_code 24 = .ok (.iload_n 0, 1) := by decide +kernel
theorem d_J6_bitCount_0f7a4_25 : decode prog_10_method_49_code 25 = .ok (.iload_n 0, 1) := by decide +kernel
theorem d_J6_bitCount_0f7a4_26 : decode prog_10_method_49_code 26 = .ok (.iconst 4, 1) := by decide +kernel
theorem d_J6_bitCount_0f7a4_27 : decode prog_10_method_49_code 27 = .ok (.iushr, 1) := by decide +kernel
theorem d_J6_bitCount_0f7a4_28 : decode prog_10_method_49_code 28 = .ok (.iadd, 1) := by decide +kernel
theorem d_J6_bitCount_0f7a4_29 : decode prog_10_method_49_code 29 = .ok (.ldc_w 267, 3) := by decide +kernel
theorem d_J6_bitCount_0f7a4_32 : decode prog_10_method_49_code 32 = .ok (.iand, 1) := by decide +kernel
theorem d_J6_bitCount_0f7a4_33 : decode prog_10_method_49_code 33 = .ok (.istore_n 0, 1) := by decide +kernel
theorem d_J6_bitCount_0f7a4_34 : decode prog_10_method_49_code 34 = .ok (.iload_n 0, 1) := by decide +kernel
theorem d_J6_bitCount_0f7a4_35 : decode prog_10_method_49_code 35 = .ok (.iload_n 0, 1) := by decide +kernel
theorem d_J6_bitCount_0f7a4_36 : decode prog_10_method_49_code 36 = .ok (.bipush 8, 2) := by decide +kernel
theorem d_J6_bitCount_0f7a4_38 : decode prog_10_method_49_code 38 = .ok (.iushr, 1) := by decide +kernel
theorem d_J6_bitCount_0f7a4_39 : decode prog_10_method_49_code 39 = .ok (.iadd, 1) := by decide +kernel
theorem d_J6_bitCount_0f7a4_40 : decode prog_10_method_49_code 40 = .ok (.istore_n 0, 1) := by decide +kernel
theorem d_J6_bitCount_0f7a4_41 : decode prog_10_method_49_code 41 = .ok (.iload_n 0, 1) := by decide +kernel
theorem d_J6_bitCount_0f7a4_42 : decode prog_10_method_49_code 42 = .ok (.iload_n 0, 1) := by decide +kernel
theorem d_J6_bitCount_0f7a4_43 : decode prog_10_method_49_code 43 = .ok (.bipush 16, 2) := by decide +kernel
theorem d_J6_bitCount_0f7a4_45 : decode prog_10_method_49_code 45 = .ok (.iushr, 1) := by decide +kernel
theorem d_J6_bitCount_0f7a4_46 : decode prog_10_method_49_code 46 = .ok (.iadd, 1) := by decide +kernel
theorem d_J6_bitCount_0f7a4_47 : decode prog_10_method_49_code 47 = .ok (.istore_n 0, 1) := by decide +kernel
theorem d_J6_bitCount_0f7a4_48 : decode prog_10_method_49_code 48 = .ok (.iload_n 0, 1) := by decide +kernel
theorem d_J6_bitCount_0f7a4_49 : decode prog_10_method_49_code 49 = .ok (.bipush 63, 2) := by decide +kernel
theorem d_J6_bitCount_0f7a4_51 : decode prog_10_method_49_code 51 = .ok (.iand, 1) := by decide +kernel
theorem d_J6_bitCount_0f7a4_52 : decode prog_10_method_49_code 52 = .ok (.ireturn, 1) := by decide +kernel
abbrev M_Int_bitCount : zMT := (⟨"java/lang/Integer", "bitCount", "(I)I"⟩, prog_10_method_49_code, 1, (some .int))
theorem k_Int_bitCount : zcall M_Int_bitCount 1 := ⟨zU_in (i := 350) (by decide +kernel) rfl, m64, ⟨by decide, by decide, by decide +kernel⟩, by decide⟩
def o_Int_bitCount (x : Int32) : Int32 :=
  ((((((((x - ((zshr x 1) &&& 1431655765)) &&& 858993459) + ((zshr (x - ((zshr x 1) &&& 1431655765)) 2) &&& 858993459)) + (zshr (((x - ((zshr x 1) &&& 1431655765)) &&& 858993459) + ((zshr (x - ((zshr x 1) &&& 1431655765)) 2) &&& 858993459)) 4)) &&& 252645135) + (zshr (((((x - ((zshr x 1) &&& 1431655765)) &&& 858993459) + ((zshr (x - ((zshr x 1) &&& 1431655765)) 2) &&& 858993459)) + (zshr (((x - ((zshr x 1) &&& 1431655765)) &&& 858993459) + ((zshr (x - ((zshr x 1) &&& 1431655765)) 2) &&& 858993459)) 4)) &&& 252645135) 8)) + (zshr ((((((x - ((zshr x 1) &&& 1431655765)) &&& 858993459) + ((zshr (x - ((zshr x 1) &&& 1431655765)) 2) &&& 858993459)) + (zshr (((x - ((zshr x 1) &&& 1431655765)) &&& 858993459) + ((zshr (x - ((zshr x 1) &&& 1431655765)) 2) &&& 858993459)) 4)) &&& 252645135) + (zshr (((((x - ((zshr x 1) &&& 1431655765)) &&& 858993459) + ((zshr (x - ((zshr x 1) &&& 1431655765)) 2) &&& 858993459)) + (zshr (((x - ((zshr x 1) &&& 1431655765)) &&& 858993459) + ((zshr (x - ((zshr x 1) &&& 1431655765)) 2) &&& 858993459)) 4)) &&& 252645135) 8)) 16)) &&& 63)
set_option maxHeartbeats 2000000 in
theorem c_Int_bitCount (X : zXT) (h : zHp) (g : zLg) (x : Int32) : zDi X M_Int_bitCount 0 [.int x] h g (zI (o_Int_bitCount x)) h g := by
  refine zDi_of "java/lang/Integer" prog_10_method_49_code 1 (some .int) rfl (by decide) [zI x] rfl (fun _ q => q) (Nat.le_of_ble_eq_true rfl) ?_
  intro Γ Q C hQ
  refine zr_iload_n C d_J6_bitCount_0f7a4_0 rfl ?_
  refine zr_iload_n C d_J6_bitCount_0f7a4_1 rfl ?_
  refine zr_iconst C (v := 1) d_J6_bitCount_0f7a4_2 (by decide) ?_
  refine zr_iushr C d_J6_bitCount_0f7a4_3 ?_
  refine zr_ldcw C (v := 1431655765) m351 d_J6_bitCount_0f7a4_4 ?_
  refine zr_iand C d_J6_bitCount_0f7a4_7 ?_
  refine zr_isub C d_J6_bitCount_0f7a4_8 ?_
  refine zr_istore_n C [zI (x - ((zshr x 1) &&& 1431655765))] d_J6_bitCount_0f7a4_9 (Nat.le_of_ble_eq_true rfl) rfl rfl ?_
  refine zr_iload_n C d_J6_bitCount_0f7a4_10 rfl ?_
  refine zr_ldcw C (v := 858993459) m352 d_J6_bitCount_0f7a4_11 ?_
  refine zr_iand C d_J6_bitCount_0f7a4_14 ?_
  refine zr_iload_n C d_J6_bitCount_0f7a4_15 rfl ?_
  refine zr_iconst C (v := 2) d_J6_bitCount_0f7a4_16 (by decide) ?_
  refine zr_iushr C d_J6_bitCount_0f7a4_17 ?_
  refine zr_ldcw C (v := 858993459) m352 d_J6_bitCount_0f7a4_18 ?_
  refine zr_iand C d_J6_bitCount_0f7a4_21 ?_
  refine zr_iadd C d_J6_bitCount_0f7a4_22 ?_
  refine zr_istore_n C [zI (((x - ((zshr x 1) &&& 1431655765)) &&& 858993459) + ((zshr (x - ((zshr x 1) &&& 1431655765)) 2) &&& 858993459))] d_J6_bitCount_0f7a4_23 (Nat.le_of_ble_eq_true rfl) rfl rfl ?_
  refine zr_iload_n C d_J6_bitCount_0f7a4_24 rfl ?_
  refine zr_iload_n C d_J6_bitCount_0f7a4_25 rfl ?_
  refine zr_iconst C (v := 4) d_J6_bitCount_0f7a4_26 (by decide) ?_
  refine zr_iushr C d_J6_bitCount_0f7a4_27 ?_
  refine zr_iadd C d_J6_bitCount_0f7a4_28 ?_
  refine zr_ldcw C (v := 252645135) m353 d_J6_bitCount_0f7a4_29 ?_
  refine zr_iand C d_J6_bitCount_0f7a4_32 ?_
  refine zr_istore_n C [zI (((((x - ((zshr x 1) &&& 1431655765)) &&& 858993459) + ((zshr (x - ((zshr x 1) &&& 1431655765)) 2) &&& 858993459)) + (zshr (((x - ((zshr x 1) &&& 1431655765)) &&& 858993459) + ((zshr (x - ((zshr x 1) &&& 1431655765)) 2) &&& 858993459)) 4)) &&& 252645135)] d_J6_bitCount_0f7a4_33 (Nat.le_of_ble_eq_true rfl) rfl rfl ?_
  refine zr_iload_n C d_J6_bitCount_0f7a4_34 rfl ?_
  refine zr_iload_n C d_J6_bitCount_0f7a4_35 rfl ?_
  refine zr_bipush C (v := 8) d_J6_bitCount_0f7a4_36 (by decide) ?_
  refine zr_iushr C d_J6_bitCount_0f7a4_38 ?_
  refine zr_iadd C d_J6_bitCount_0f7a4_39 ?_
  refine zr_istore_n C [zI ((((((x - ((zshr x 1) &&& 1431655765)) &&& 858993459) + ((zshr (x - ((zshr x 1) &&& 1431655765)) 2) &&& 858993459)) + (zshr (((x - ((zshr x 1) &&& 1431655765)) &&& 858993459) + ((zshr (x - ((zshr x 1) &&& 1431655765)) 2) &&& 858993459)) 4)) &&& 252645135) + (zshr (((((x - ((zshr x 1) &&& 1431655765)) &&& 858993459) + ((zshr (x - ((zshr x 1) &&& 1431655765)) 2) &&& 858993459)) + (zshr (((x - ((zshr x 1) &&& 1431655765)) &&& 858993459) + ((zshr (x - ((zshr x 1) &&& 1431655765)) 2) &&& 858993459)) 4)) &&& 252645135) 8))] d_J6_bitCount_0f7a4_40 (Nat.le_of_ble_eq_true rfl) rfl rfl ?_
  refine zr_iload_n C d_J6_bitCount_0f7a4_41 rfl ?_
  refine zr_iload_n C d_J6_bitCount_0f7a4_42 rfl ?_
  refine zr_bipush C (v := 16) d_J6_bitCount_0f7a4_43 (by decide) ?_
  refine zr_iushr C d_J6_bitCount_0f7a4_45 ?_
  refine zr_iadd C d_J6_bitCount_0f7a4_46 ?_
  refine zr_istore_n C [zI (((((((x - ((zshr x 1) &&& 1431655765)) &&& 858993459) + ((zshr (x - ((zshr x 1) &&& 1431655765)) 2) &&& 858993459)) + (zshr (((x - ((zshr x 1) &&& 1431655765)) &&& 858993459) + ((zshr (x - ((zshr x 1) &&& 1431655765)) 2) &&& 858993459)) 4)) &&& 252645135) + (zshr (((((x - ((zshr x 1) &&& 1431655765)) &&& 858993459) + ((zshr (x - ((zshr x 1) &&& 1431655765)) 2) &&& 858993459)) + (zshr (((x - ((zshr x 1) &&& 1431655765)) &&& 858993459) + ((zshr (x - ((zshr x 1) &&& 1431655765)) 2) &&& 858993459)) 4)) &&& 252645135) 8)) + (zshr ((((((x - ((zshr x 1) &&& 1431655765)) &&& 858993459) + ((zshr (x - ((zshr x 1) &&& 1431655765)) 2) &&& 858993459)) + (zshr (((x - ((zshr x 1) &&& 1431655765)) &&& 858993459) + ((zshr (x - ((zshr x 1) &&& 1431655765)) 2) &&& 858993459)) 4)) &&& 252645135) + (zshr (((((x - ((zshr x 1) &&& 1431655765)) &&& 858993459) + ((zshr (x - ((zshr x 1) &&& 1431655765)) 2) &&& 858993459)) + (zshr (((x - ((zshr x 1) &&& 1431655765)) &&& 858993459) + ((zshr (x - ((zshr x 1) &&& 1431655765)) 2) &&& 858993459)) 4)) &&& 252645135) 8)) 16))] d_J6_bitCount_0f7a4_47 (Nat.le_of_ble_eq_true rfl) rfl rfl ?_
  refine zr_iload_n C d_J6_bitCount_0f7a4_48 rfl ?_
  refine zr_bipush C (v := 63) d_J6_bitCount_0f7a4_49 (by decide) ?_
  refine zr_iand C d_J6_bitCount_0f7a4_51 ?_
  have eR : o_Int_bitCount x = ((((((((x - ((zshr x 1) &&& 1431655765)) &&& 858993459) + ((zshr (x - ((zshr x 1) &&& 1431655765)) 2) &&& 858993459)) + (zshr (((x - ((zshr x 1) &&& 1431655765)) &&& 858993459) + ((zshr (x - ((zshr x 1) &&& 1431655765)) 2) &&& 858993459)) 4)) &&& 252645135) + (zshr (((((x - ((zshr x 1) &&& 1431655765)) &&& 858993459) + ((zshr (x - ((zshr x 1) &&& 1431655765)) 2) &&& 858993459)) + (zshr (((x - ((zshr x 1) &&& 1431655765)) &&& 858993459) + ((zshr (x - ((zshr x 1) &&& 1431655765)) 2) &&& 858993459)) 4)) &&& 252645135) 8)) + (zshr ((((((x - ((zshr x 1) &&& 1431655765)) &&& 858993459) + ((zshr (x - ((zshr x 1) &&& 1431655765)) 2) &&& 858993459)) + (zshr (((x - ((zshr x 1) &&& 1431655765)) &&& 858993459) + ((zshr (x - ((zshr x 1) &&& 1431655765)) 2) &&& 858993459)) 4)) &&& 252645135) + (zshr (((((x - ((zshr x 1) &&& 1431655765)) &&& 858993459) + ((zshr (x - ((zshr x 1) &&& 1431655765)) 2) &&& 858993459)) + (zshr (((x - ((zshr x 1) &&& 1431655765)) &&& 858993459) + ((zshr (x - ((zshr x 1) &&& 1431655765)) 2) &&& 858993459)) 4)) &&& 252645135) 8)) 16)) &&& 63) := by unfold o_Int_bitCount; exact rfl
  subst hQ
  rw [eR]
  exact zr_ireti C d_J6_bitCount_0f7a4_52
theorem d_X1_linkCount_0 : decode prog_3_method_11_code 0 = .ok (.iconst 0, 1) := by decide +kernel
theorem d_X1_linkCount_1 : decode prog_3_method_11_code 1 = .ok (.istore_n 1, 1) := by decide +kernel
theorem d_X1_linkCount_2 : decode prog_3_method_11_code 2 = .ok (.iconst 0, 1) := by decide +kernel
theorem d_X1_linkCount_3 : decode prog_3_method_11_code 3 = .ok (.istore_n 2, 1) := by decide +kernel
theorem d_X1_linkCount_4 : decode prog_3_method_11_code 4 = .ok (.iload_n 2, 1) := by decide +kernel
theorem d_X1_linkCount_5 : decode prog_3_method_11_code 5 = .ok (.aload_n 0, 1) := by decide +kernel
theorem d_X1_linkCount_6 : decode prog_3_method_11_code 6 = .ok (.getfield 45, 3) := by decide +kernel
theorem d_X1_linkCount_9 : decode prog_3_method_11_code 9 = .ok (.if_icmp .ge 21, 3) := by decide +kernel
theorem d_X1_linkCount_12 : decode prog_3_method_11_code 12 = .ok (.iload_n 1, 1) := by decide +kernel
theorem d_X1_linkCount_13 : decode prog_3_method_11_code 13 = .ok (.aload_n 0, 1) := by decide +kernel
theorem d_X1_linkCount_14 : decode prog_3_method_11_code 14 = .ok (.getfield 15, 3) := by decide +kernel
theorem d_X1_linkCount_17 : decode prog_3_method_11_code 17 = .ok (.iload_n 2, 1) := by decide +kernel
theorem d_X1_linkCount_18 : decode prog_3_method_11_code 18 = .ok (.iaload, 1) := by decide +kernel
theorem d_X1_linkCount_19 : decode prog_3_method_11_code 19 = .ok (.invokestatic 76, 3) := by decide +kernel
theorem d_X1_linkCount_22 : decode prog_3_method_11_code 22 = .ok (.iadd, 1) := by decide +kernel
theorem d_X1_linkCount_23 : decode prog_3_method_11_code 23 = .ok (.istore_n 1, 1) := by decide +kernel
theorem d_X1_linkCount_24 : decode prog_3_method_11_code 24 = .ok (.iinc 2 1, 3) := by decide +kernel
theorem d_X1_linkCount_27 : decode prog_3_method_11_code 27 = .ok (.goto (-23), 3) := by decide +kernel
theorem d_X1_linkCount_30 : decode prog_3_method_11_code 30 = .ok (.iload_n 1, 1) := by decide +kernel
theorem d_X1_linkCount_31 : decode prog_3_method_11_code 31 = .ok (.iconst 2, 1) := by decide +kernel
theorem d_X1_linkCount_32 : decode prog_3_method_11_code 32 = .ok (.idiv, 1) := by decide +kernel
theorem d_X1_linkCount_33 : decode prog_3_method_11_code 33 = .ok (.ireturn, 1) := by decide +kernel
abbrev M_Mesh_linkCount : zMT := (⟨"PeriodSlots$Mesh", "linkCount", "()I"⟩, prog_3_method_11_code, 3, (some .int))
theorem k_Mesh_linkCount : zcall M_Mesh_linkCount 0 := ⟨zU_in (i := 347) (by decide +kernel) rfl, m56, ⟨by decide, by decide, by decide +kernel⟩, by decide⟩
def o_Mesh_linkCount (h : zHp) (b : Nat) : Int32 :=
  ((zrep (fun (i4_1 : Nat) (s4_1 : Int32) => (s4_1 + (o_Int_bitCount (h (b + 2) i4_1)))) 0 (zcn (h b 0))) / 2)
set_option maxHeartbeats 2000000 in
theorem c_Mesh_linkCount (X : zXT) (h : zHp) (g : zLg) (b : Nat) (hb : b = 3 ∨ b = 15 ∨ b = 27) (hf0 : zfit h b 0 8) : zDi X M_Mesh_linkCount 1 [zR X b] h g (zI (o_Mesh_linkCount h b)) h g := by
  have hf0_1 := hf0.1
  refine zDi_of "PeriodSlots$Mesh" prog_3_method_11_code 3 (some .int) rfl (by decide) [zO X b, none, none] rfl (fun _ q => q) (Nat.le_of_ble_eq_true rfl) ?_
  intro Γ Q C hQ
  refine zr_iconst C (v := 0) d_X1_linkCount_0 (by decide) ?_
  refine zr_istore_n C [zO X b, zI 0, none] d_X1_linkCount_1 (Nat.le_of_ble_eq_true rfl) rfl rfl ?_
  refine zr_iconst C (v := 0) d_X1_linkCount_2 (by decide) ?_
  refine zr_istore_n C [zO X b, zI 0, zI 0] d_X1_linkCount_3 (Nat.le_of_ble_eq_true rfl) rfl rfl ?_
  refine zfor (f := (fun (i4_1 : Nat) (s4_1 : Int32) => (s4_1 + (o_Int_bitCount (h (b + 2) i4_1))))) (a := 0) (fun i4_1 s4_1 => zV X Γ Q 4 [zO X b, zI s4_1, zI (nI i4_1)] [] h g) (fun _ _ => True) (zcn (h b 0)) trivial (fun i4_1 s4_1 hi4_1 hI4_1 => ⟨trivial, fun hk4_1 => ?_⟩) (fun r4_1 er4_1 hI4_1 => ?_)
  · refine zr_iload_n C d_X1_linkCount_4 rfl ?_
    refine zr_aload_n C d_X1_linkCount_5 rfl ?_
    refine gf_Mesh_0 C hb m95 d_X1_linkCount_6 ?_
    refine zr_icmp_ge C 30 d_X1_linkCount_9 (by decide) (fun c => absurd c (zge_no rfl (by omega))) (fun _ => ?_)
    refine zr_iload_n C d_X1_linkCount_12 rfl ?_
    refine zr_aload_n C d_X1_linkCount_13 rfl ?_
    refine gf_Mesh_4 C hb m107 d_X1_linkCount_14 ?_
    refine zr_iload_n C d_X1_linkCount_17 rfl ?_
    refine zr_iald C (za_mesh_2 hb) (i4_1) rfl (by omega) (by decide) d_X1_linkCount_18 ?_
    refine zr_callSi (As := [.int (h (b + 2) i4_1)]) (st := [.int s4_1]) C (c_Int_bitCount X h g (h (b + 2) i4_1)) k_Int_bitCount m348 m349 rfl (by decide) rfl (Nat.le_of_ble_eq_true rfl) d_X1_linkCount_19 ?_
    refine zr_iadd C d_X1_linkCount_22 ?_
    refine zr_istore_n C [zO X b, zI (s4_1 + (o_Int_bitCount (h (b + 2) i4_1))), zI (nI i4_1)] d_X1_linkCount_23 (Nat.le_of_ble_eq_true rfl) rfl rfl ?_
    refine zr_iinc C [zO X b, zI (s4_1 + (o_Int_bitCount (h (b + 2) i4_1))), zI (nI (i4_1 + 1))] (v := (nI (i4_1 + 1))) d_X1_linkCount_24 rfl (zn_add rfl rfl) (Nat.le_of_ble_eq_true rfl) rfl rfl ?_
    refine zr_goto C 4 d_X1_linkCount_27 (by decide) ?_
    exact hk4_1 (s4_1 + (o_Int_bitCount (h (b + 2) i4_1))) rfl.symm
  refine zr_iload_n C d_X1_linkCount_4 rfl ?_
  refine zr_aload_n C d_X1_linkCount_5 rfl ?_
  refine gf_Mesh_0 C hb m95 d_X1_linkCount_6 ?_
  refine zr_icmp_ge C 30 d_X1_linkCount_9 (by decide) (fun _ => ?_) (fun c => absurd (zge_yes rfl (by omega) (by have := zcn_small (h b 0); omega)) c)
  refine zr_iload_n C d_X1_linkCount_30 rfl ?_
  refine zr_iconst C (v := 2) d_X1_linkCount_31 (by decide) ?_
  refine zr_idiv C d_X1_linkCount_32 (by decide) ?_
  subst er4_1
  have eR : o_Mesh_linkCount h b = ((zrep (fun (i4_1 : Nat) (s4_1 : Int32) => (s4_1 + (o_Int_bitCount (h (b + 2) i4_1)))) 0 (zcn (h b 0))) / 2) := by unfold o_Mesh_linkCount; exact rfl
  subst hQ
  rw [eR]
  exact zr_ireti C d_X1_linkCount_33
theorem d_X1_wrapped_0 : decode prog_3_method_22_code 0 = .ok (.iload_n 2, 1) := by decide +kernel
theorem d_X1_wrapped_1 : decode prog_3_method_22_code 1 = .ok (.aload_n 0, 1) := by decide +kernel
theorem d_X1_wrapped_2 : decode prog_3_method_22_code 2 = .ok (.getfield 9, 3) := by decide +kernel
theorem d_X1_wrapped_5 : decode prog_3_method_22_code 5 = .ok (.iload_n 1, 1) := by decide +kernel
theorem d_X1_wrapped_6 : decode prog_3_method_22_code 6 = .ok (.iaload, 1) := by decide +kernel
theorem d_X1_wrapped_7 : decode prog_3_method_22_code 7 = .ok (.iconst 1, 1) := by decide +kernel
theorem d_X1_wrapped_8 : decode prog_3_method_22_code 8 = .ok (.isub, 1) := by decide +kernel
theorem d_X1_wrapped_9 : decode prog_3_method_22_code 9 = .ok (.iand, 1) := by decide +kernel
theorem d_X1_wrapped_10 : decode prog_3_method_22_code 10 = .ok (.ireturn, 1) := by decide +kernel
abbrev M_Mesh_wrapped : zMT := (⟨"PeriodSlots$Mesh", "wrapped", "(II)I"⟩, prog_3_method_22_code, 3, (some .int))
theorem k_Mesh_wrapped : zcall M_Mesh_wrapped 2 := ⟨zU_in (i := 297) (by decide +kernel) rfl, m56, ⟨by decide, by decide, by decide +kernel⟩, by decide⟩
def o_Mesh_wrapped (h : zHp) (b : Nat) (v : Nat) (offset : Int32) : Int32 :=
  (offset &&& ((h (b + 1) v) - 1))
set_option maxHeartbeats 2000000 in
theorem c_Mesh_wrapped (X : zXT) (h : zHp) (g : zLg) (b : Nat) (v : Nat) (offset : Int32) {x_v : Int32} (e_v : x_v = nI v) (hb : b = 3 ∨ b = 15 ∨ b = 27) (hl0 : v < 8) : zDi X M_Mesh_wrapped 0 [zR X b, .int x_v, .int offset] h g (zI (o_Mesh_wrapped h b v offset)) h g := by
  subst e_v
  refine zDi_of "PeriodSlots$Mesh" prog_3_method_22_code 3 (some .int) rfl (by decide) [zO X b, zI (nI v), zI offset] rfl (fun _ q => q) (Nat.le_of_ble_eq_true rfl) ?_
  intro Γ Q C hQ
  refine zr_iload_n C d_X1_wrapped_0 rfl ?_
  refine zr_aload_n C d_X1_wrapped_1 rfl ?_
  refine gf_Mesh_3 C hb m104 d_X1_wrapped_2 ?_
  refine zr_iload_n C d_X1_wrapped_5 rfl ?_
  refine zr_iald C (za_mesh_1 hb) (v) rfl (by omega) (by decide) d_X1_wrapped_6 ?_
  refine zr_iconst C (v := 1) d_X1_wrapped_7 (by decide) ?_
  refine zr_isub C d_X1_wrapped_8 ?_
  refine zr_iand C d_X1_wrapped_9 ?_
  have eR : o_Mesh_wrapped h b v offset = (offset &&& ((h (b + 1) v) - 1)) := by unfold o_Mesh_wrapped; exact rfl
  subst hQ
  rw [eR]
  exact zr_ireti C d_X1_wrapped_10
theorem d_X1_ticksAt_0 : decode prog_3_method_23_code 0 = .ok (.iload_n 2, 1) := by decide +kernel
theorem d_X1_ticksAt_1 : decode prog_3_method_23_code 1 = .ok (.bipush (-9), 2) := by decide +kernel
theorem d_X1_ticksAt_3 : decode prog_3_method_23_code 3 = .ok (.if_icmp .ne 7, 3) := by decide +kernel
theorem d_X1_ticksAt_6 : decode prog_3_method_23_code 6 = .ok (.iconst 0, 1) := by decide +kernel
theorem d_X1_ticksAt_7 : decode prog_3_method_23_code 7 = .ok (.goto 11, 3) := by decide +kernel
theorem d_X1_ticksAt_10 : decode prog_3_method_23_code 10 = .ok (.aload_n 0, 1) := by decide +kernel
theorem d_X1_ticksAt_11 : decode prog_3_method_23_code 11 = .ok (.getfield 24, 3) := by decide +kernel
theorem d_X1_ticksAt_14 : decode prog_3_method_23_code 14 = .ok (.iload_n 1, 1) := by decide +kernel
theorem d_X1_ticksAt_15 : decode prog_3_method_23_code 15 = .ok (.iaload, 1) := by decide +kernel
theorem d_X1_ticksAt_16 : decode prog_3_method_23_code 16 = .ok (.iload_n 2, 1) := by decide +kernel
theorem d_X1_ticksAt_17 : decode prog_3_method_23_code 17 = .ok (.ishl, 1) := by decide +kernel
theorem d_X1_ticksAt_18 : decode prog_3_method_23_code 18 = .ok (.ireturn, 1) := by decide +kernel
abbrev M_Mesh_ticksAt : zMT := (⟨"PeriodSlots$Mesh", "ticksAt", "(II)I"⟩, prog_3_method_23_code, 3, (some .int))
theorem k_Mesh_ticksAt : zcall M_Mesh_ticksAt 2 := ⟨zU_in (i := 312) (by decide +kernel) rfl, m56, ⟨by decide, by decide, by decide +kernel⟩, by decide⟩
def o_Mesh_ticksAt (h : zHp) (b : Nat) (v : Nat) (offset : Int32) : Int32 :=
  (if offset = (-9) then 0 else (zshl (h (b + 5) v) offset))
set_option maxHeartbeats 2000000 in
theorem c_Mesh_ticksAt (X : zXT) (h : zHp) (g : zLg) (b : Nat) (v : Nat) (offset : Int32) {x_v : Int32} (e_v : x_v = nI v) (hb : b = 3 ∨ b = 15 ∨ b = 27) (hl0 : v < 8) : zDi X M_Mesh_ticksAt 0 [zR X b, .int x_v, .int offset] h g (zI (o_Mesh_ticksAt h b v offset)) h g := by
  subst e_v
  refine zDi_of "PeriodSlots$Mesh" prog_3_method_23_code 3 (some .int) rfl (by decide) [zO X b, zI (nI v), zI offset] rfl (fun _ q => q) (Nat.le_of_ble_eq_true rfl) ?_
  intro Γ Q C hQ
  refine zr_iload_n C d_X1_ticksAt_0 rfl ?_
  refine zr_bipush C (v := (-9)) d_X1_ticksAt_1 (by decide) ?_
  suffices hJ3 : ∀ (y1 : Int32), y1 = (if offset = (-9) then 0 else (zshl (h (b + 5) v) offset)) → zV X Γ Q 18 [none, none, none] [.int y1] h g by
    refine zr_icmp_ne C 10 d_X1_ticksAt_3 (by decide) (fun c3 => ?_) (fun c3 => ?_)
    · refine zr_aload_n C d_X1_ticksAt_10 rfl ?_
      refine gf_Mesh_7 C hb m117 d_X1_ticksAt_11 ?_
      refine zr_iload_n C d_X1_ticksAt_14 rfl ?_
      refine zr_iald C (za_mesh_5 hb) (v) rfl (by omega) (by decide) d_X1_ticksAt_15 ?_
      refine zr_iload_n C d_X1_ticksAt_16 rfl ?_
      refine zr_ishl C d_X1_ticksAt_17 ?_
      refine zr_lv [none, none, none] (by simp [zle]) ?_
      exact hJ3 (zshl (h (b + 5) v) offset) (((if_neg c3))).symm
    · refine zr_iconst C (v := 0) d_X1_ticksAt_6 (by decide) ?_
      refine zr_goto C 18 d_X1_ticksAt_7 (by decide) ?_
      refine zr_lv [none, none, none] (by simp [zle]) ?_
      exact hJ3 0 (((if_pos c3))).symm
  intro y1 ey1
  subst ey1
  have eR : o_Mesh_ticksAt h b v offset = (if offset = (-9) then 0 else (zshl (h (b + 5) v) offset)) := by unfold o_Mesh_ticksAt; exact rfl
  subst hQ
  rw [eR]
  exact zr_ireti C d_X1_ticksAt_18
theorem d_X1_markTicks_0 : decode prog_3_method_24_code 0 = .ok (.iconst 0, 1) := by decide +kernel
theorem d_X1_markTicks_1 : decode prog_3_method_24_code 1 = .ok (.istore_n 1, 1) := by decide +kernel
theorem d_X1_markTicks_2 : decode prog_3_method_24_code 2 = .ok (.iload_n 1, 1) := by decide +kernel
theorem d_X1_markTicks_3 : decode prog_3_method_24_code 3 = .ok (.aload_n 0, 1) := by decide +kernel
theorem d_X1_markTicks_4 : decode prog_3_method_24_code 4 = .ok (.getfield 45, 3) := by decide +kernel
theorem d_X1_markTicks_7 : decode prog_3_method_24_code 7 = .ok (.if_icmp .ge 50, 3) := by decide +kernel
theorem d_X1_markTicks_10 : decode prog_3_method_24_code 10 = .ok (.aload_n 0, 1) := by decide +kernel
theorem d_X1_markTicks_11 : decode prog_3_method_24_code 11 = .ok (.getfield 36, 3) := by decide +kernel
theorem d_X1_markTicks_14 : decode prog_3_method_24_code 14 = .ok (.iload_n 1, 1) := by decide +kernel
theorem d_X1_markTicks_15 : decode prog_3_method_24_code 15 = .ok (.aload_n 0, 1) := by decide +kernel
theorem d_X1_markTicks_16 : decode prog_3_method_24_code 16 = .ok (.iload_n 1, 1) := by decide +kernel
theorem d_X1_markTicks_17 : decode prog_3_method_24_code 17 = .ok (.aload_n 0, 1) := by decide +kernel
theorem d_X1_markTicks_18 : decode prog_3_method_24_code 18 = .ok (.getfield 18, 3) := by decide +kernel
theorem d_X1_markTicks_21 : decode prog_3_method_24_code 21 = .ok (.iload_n 1, 1) := by decide +kernel
theorem d_X1_markTicks_22 : decode prog_3_method_24_code 22 = .ok (.iaload, 1) := by decide +kernel
theorem d_X1_markTicks_23 : decode prog_3_method_24_code 23 = .ok (.invokevirtual 119, 3) := by decide +kernel
theorem d_X1_markTicks_26 : decode prog_3_method_24_code 26 = .ok (.iastore, 1) := by decide +kernel
theorem d_X1_markTicks_27 : decode prog_3_method_24_code 27 = .ok (.aload_n 0, 1) := by decide +kernel
theorem d_X1_markTicks_28 : decode prog_3_method_24_code 28 = .ok (.getfield 39, 3) := by decide +kernel
theorem d_X1_markTicks_31 : decode prog_3_method_24_code 31 = .ok (.iload_n 1, 1) := by decide +kernel
theorem d_X1_markTicks_32 : decode prog_3_method_24_code 32 = .ok (.aload_n 0, 1) := by decide +kernel
theorem d_X1_markTicks_33 : decode prog_3_method_24_code 33 = .ok (.getfield 36, 3) := by decide +kernel
theorem d_X1_markTicks_36 : decode prog_3_method_24_code 36 = .ok (.iload_n 1, 1) := by decide +kernel
theorem d_X1_markTicks_37 : decode prog_3_method_24_code 37 = .ok (.iaload, 1) := by decide +kernel
theorem d_X1_markTicks_38 : decode prog_3_method_24_code 38 = .ok (.aload_n 0, 1) := by decide +kernel
theorem d_X1_markTicks_39 : decode prog_3_method_24_code 39 = .ok (.iload_n 1, 1) := by decide +kernel
theorem d_X1_markTicks_40 : decode prog_3_method_24_code 40 = .ok (.aload_n 0, 1) := by decide +kernel
theorem d_X1_markTicks_41 : decode prog_3_method_24_code 41 = .ok (.getfield 21, 3) := by decide +kernel
theorem d_X1_markTicks_44 : decode prog_3_method_24_code 44 = .ok (.iload_n 1, 1) := by decide +kernel
theorem d_X1_markTicks_45 : decode prog_3_method_24_code 45 = .ok (.iaload, 1) := by decide +kernel
theorem d_X1_markTicks_46 : decode prog_3_method_24_code 46 = .ok (.invokevirtual 119, 3) := by decide +kernel
theorem d_X1_markTicks_49 : decode prog_3_method_24_code 49 = .ok (.ior, 1) := by decide +kernel
theorem d_X1_markTicks_50 : decode prog_3_method_24_code 50 = .ok (.iastore, 1) := by decide +kernel
theorem d_X1_markTicks_51 : decode prog_3_method_24_code 51 = .ok (.iinc 1 1, 3) := by decide +kernel
theorem d_X1_markTicks_54 : decode prog_3_method_24_code 54 = .ok (.goto (-52), 3) := by decide +kernel
theorem d_X1_markTicks_57 : decode prog_3_method_24_code 57 = .ok (.return_, 1) := by decide +kernel
abbrev M_Mesh_markTicks : zMT := (⟨"PeriodSlots$Mesh", "markTicks", "()V"⟩, prog_3_method_24_code, 2, none)
theorem k_Mesh_markTicks : zcall M_Mesh_markTicks 0 := ⟨zU_in (i := 308) (by decide +kernel) rfl, m56, ⟨by decide, by decide, by decide +kernel⟩, by decide⟩
def o_Mesh_markTicks (h : zHp) (b : Nat) : zHp :=
  (zrep (fun (i2_1 : Nat) (s2_1 : zHp) => (zup (zup s2_1 (b + 9) i2_1 (o_Mesh_ticksAt s2_1 b i2_1 (s2_1 (b + 3) i2_1))) (b + 10) i2_1 (((zup s2_1 (b + 9) i2_1 (o_Mesh_ticksAt s2_1 b i2_1 (s2_1 (b + 3) i2_1))) (b + 9) i2_1) ||| (o_Mesh_ticksAt (zup s2_1 (b + 9) i2_1 (o_Mesh_ticksAt s2_1 b i2_1 (s2_1 (b + 3) i2_1))) b i2_1 ((zup s2_1 (b + 9) i2_1 (o_Mesh_ticksAt s2_1 b i2_1 (s2_1 (b + 3) i2_1))) (b + 4) i2_1))))) h (zcn (h b 0)))
set_option maxHeartbeats 2000000 in
theorem c_Mesh_markTicks (X : zXT) (h : zHp) (g : zLg) (b : Nat) (hb : b = 3 ∨ b = 15 ∨ b = 27) (hf0 : zfit h b 0 8) : zDi X M_Mesh_markTicks 1 [zR X b] h g none (o_Mesh_markTicks h b) g := by
  have hf0_1 := hf0.1
  refine zDi_of "PeriodSlots$Mesh" prog_3_method_24_code 2 none rfl (by decide) [zO X b, none] rfl (fun _ q => q) (Nat.le_of_ble_eq_true rfl) ?_
  intro Γ Q C hQ
  refine zr_iconst C (v := 0) d_X1_markTicks_0 (by decide) ?_
  refine zr_istore_n C [zO X b, zI 0] d_X1_markTicks_1 (Nat.le_of_ble_eq_true rfl) rfl rfl ?_
  refine zfor (f := (fun (i2_1 : Nat) (s2_1 : zHp) => (zup (zup s2_1 (b + 9) i2_1 (o_Mesh_ticksAt s2_1 b i2_1 (s2_1 (b + 3) i2_1))) (b + 10) i2_1 (((zup s2_1 (b + 9) i2_1 (o_Mesh_ticksAt s2_1 b i2_1 (s2_1 (b + 3) i2_1))) (b + 9) i2_1) ||| (o_Mesh_ticksAt (zup s2_1 (b + 9) i2_1 (o_Mesh_ticksAt s2_1 b i2_1 (s2_1 (b + 3) i2_1))) b i2_1 ((zup s2_1 (b + 9) i2_1 (o_Mesh_ticksAt s2_1 b i2_1 (s2_1 (b + 3) i2_1))) (b + 4) i2_1)))))) (a := h) (fun i2_1 s2_1 => zV X Γ Q 2 [zO X b, zI (nI i2_1)] [] s2_1 g) (fun _ s2_1 => ∀ c k : Nat, c ≠ b + 9 → c ≠ b + 10 → s2_1 c k = h c k) (zcn (h b 0)) (fun _ _ _ _ => rfl) (fun i2_1 s2_1 hi2_1 hI2_1 => ⟨(fun c k q0 q1 => ((zup_fr (by omega)).trans ((zup_fr (by omega)).trans (hI2_1 _ _ (by omega) (by omega))))), fun hk2_1 => ?_⟩) (fun r2_1 er2_1 hI2_1 => ?_)
  · refine zr_iload_n C d_X1_markTicks_2 rfl ?_
    refine zr_aload_n C d_X1_markTicks_3 rfl ?_
    refine gf_Mesh_0 C hb m95 d_X1_markTicks_4 ?_
    refine zr_icmp_ge C 57 d_X1_markTicks_7 (by decide) (fun c => absurd c (zge_no (hI2_1 _ _ (by omega) (by omega)) (by omega))) (fun _ => ?_)
    refine zr_aload_n C d_X1_markTicks_10 rfl ?_
    refine gf_Mesh_11 C hb m124 d_X1_markTicks_11 ?_
    refine zr_iload_n C d_X1_markTicks_14 rfl ?_
    refine zr_aload_n C d_X1_markTicks_15 rfl ?_
    refine zr_iload_n C d_X1_markTicks_16 rfl ?_
    refine zr_aload_n C d_X1_markTicks_17 rfl ?_
    refine gf_Mesh_5 C hb m111 d_X1_markTicks_18 ?_
    refine zr_iload_n C d_X1_markTicks_21 rfl ?_
    refine zr_iald C (za_mesh_3 hb) (i2_1) rfl (by omega) (by decide) d_X1_markTicks_22 ?_
    refine zr_callVi (As := [.int (nI i2_1), .int (s2_1 (b + 3) i2_1)]) (st := [.int (nI i2_1), zR X (b + 9)]) (c := b) C (c_Mesh_ticksAt X s2_1 g b i2_1 (s2_1 (b + 3) i2_1) rfl hb (by omega)) k_Mesh_ticksAt m309 m310 m311 (by omega) (zC_Mesh hb X _ _) rfl rfl (by decide) rfl (Nat.le_of_ble_eq_true rfl) d_X1_markTicks_23 ?_
    refine zr_iast C (za_mesh_9 hb) (i2_1) rfl (by omega) (by decide) d_X1_markTicks_26 ?_
    refine zr_h (fun h2 eh2 => ?_)
    refine zr_aload_n C d_X1_markTicks_27 rfl ?_
    refine gf_Mesh_12 C hb m126 d_X1_markTicks_28 ?_
    refine zr_iload_n C d_X1_markTicks_31 rfl ?_
    refine zr_aload_n C d_X1_markTicks_32 rfl ?_
    refine gf_Mesh_11 C hb m124 d_X1_markTicks_33 ?_
    refine zr_iload_n C d_X1_markTicks_36 rfl ?_
    refine zr_iald C (za_mesh_9 hb) (i2_1) rfl (by omega) (by decide) d_X1_markTicks_37 ?_
    refine zr_aload_n C d_X1_markTicks_38 rfl ?_
    refine zr_iload_n C d_X1_markTicks_39 rfl ?_
    refine zr_aload_n C d_X1_markTicks_40 rfl ?_
    refine gf_Mesh_6 C hb m114 d_X1_markTicks_41 ?_
    refine zr_iload_n C d_X1_markTicks_44 rfl ?_
    refine zr_iald C (za_mesh_4 hb) (i2_1) rfl (by omega) (by decide) d_X1_markTicks_45 ?_
    refine zr_callVi (As := [.int (nI i2_1), .int (h2 (b + 4) i2_1)]) (st := [.int (h2 (b + 9) i2_1), .int (nI i2_1), zR X (b + 10)]) (c := b) C (c_Mesh_ticksAt X h2 g b i2_1 (h2 (b + 4) i2_1) rfl hb (by omega)) k_Mesh_ticksAt m309 m310 m311 (by omega) (zC_Mesh hb X _ _) rfl rfl (by decide) rfl (Nat.le_of_ble_eq_true rfl) d_X1_markTicks_46 ?_
    refine zr_ior C d_X1_markTicks_49 ?_
    refine zr_iast C (za_mesh_10 hb) (i2_1) rfl (by omega) (by decide) d_X1_markTicks_50 ?_
    refine zr_h (fun h3 eh3 => ?_)
    refine zr_iinc C [zO X b, zI (nI (i2_1 + 1))] (v := (nI (i2_1 + 1))) d_X1_markTicks_51 rfl (zn_add rfl rfl) (Nat.le_of_ble_eq_true rfl) rfl rfl ?_
    refine zr_goto C 2 d_X1_markTicks_54 (by decide) ?_
    subst eh3 eh2
    exact hk2_1 (zup (zup s2_1 (b + 9) i2_1 (o_Mesh_ticksAt s2_1 b i2_1 (s2_1 (b + 3) i2_1))) (b + 10) i2_1 (((zup s2_1 (b + 9) i2_1 (o_Mesh_ticksAt s2_1 b i2_1 (s2_1 (b + 3) i2_1))) (b + 9) i2_1) ||| (o_Mesh_ticksAt (zup s2_1 (b + 9) i2_1 (o_Mesh_ticksAt s2_1 b i2_1 (s2_1 (b + 3) i2_1))) b i2_1 ((zup s2_1 (b + 9) i2_1 (o_Mesh_ticksAt s2_1 b i2_1 (s2_1 (b + 3) i2_1))) (b + 4) i2_1)))) rfl.symm
  refine zr_iload_n C d_X1_markTicks_2 rfl ?_
  refine zr_aload_n C d_X1_markTicks_3 rfl ?_
  refine gf_Mesh_0 C hb m95 d_X1_markTicks_4 ?_
  refine zr_icmp_ge C 57 d_X1_markTicks_7 (by decide) (fun _ => ?_) (fun c => absurd (zge_yes (hI2_1 _ _ (by omega) (by omega)) (by omega) (by have := zcn_small (h b 0); omega)) c)
  subst er2_1
  have eR : o_Mesh_markTicks h b = (zrep (fun (i2_1 : Nat) (s2_1 : zHp) => (zup (zup s2_1 (b + 9) i2_1 (o_Mesh_ticksAt s2_1 b i2_1 (s2_1 (b + 3) i2_1))) (b + 10) i2_1 (((zup s2_1 (b + 9) i2_1 (o_Mesh_ticksAt s2_1 b i2_1 (s2_1 (b + 3) i2_1))) (b + 9) i2_1) ||| (o_Mesh_ticksAt (zup s2_1 (b + 9) i2_1 (o_Mesh_ticksAt s2_1 b i2_1 (s2_1 (b + 3) i2_1))) b i2_1 ((zup s2_1 (b + 9) i2_1 (o_Mesh_ticksAt s2_1 b i2_1 (s2_1 (b + 3) i2_1))) (b + 4) i2_1))))) h (zcn (h b 0))) := by unfold o_Mesh_markTicks; exact rfl
  subst hQ
  rw [eR]
  exact zr_vret C d_X1_markTicks_57
