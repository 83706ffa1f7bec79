/-! Walks of methods, by program (wip/whole/gen). -/
theorem d_X3_assigns_0 : decode prog_5_method_3_code 0 = .ok (.aload_n 1, 1) := by decide +kernel
theorem d_X3_assigns_1 : decode prog_5_method_3_code 1 = .ok (.iload_n 3, 1) := by decide +kernel
theorem d_X3_assigns_2 : decode prog_5_method_3_code 2 = .ok (.invokevirtual 39, 3) := by decide +kernel
theorem d_X3_assigns_5 : decode prog_5_method_3_code 5 = .ok (.ifCond .ne 5, 3) := by decide +kernel
theorem d_X3_assigns_8 : decode prog_5_method_3_code 8 = .ok (.iconst 1, 1) := by decide +kernel
theorem d_X3_assigns_9 : decode prog_5_method_3_code 9 = .ok (.ireturn, 1) := by decide +kernel
theorem d_X3_assigns_10 : decode prog_5_method_3_code 10 = .ok (.iload_n 2, 1) := by decide +kernel
theorem d_X3_assigns_11 : decode prog_5_method_3_code 11 = .ok (.iload_n 3, 1) := by decide +kernel
theorem d_X3_assigns_12 : decode prog_5_method_3_code 12 = .ok (.invokestatic 42, 3) := by decide +kernel
theorem d_X3_assigns_15 : decode prog_5_method_3_code 15 = .ok (.ifCond .ne 13, 3) := by decide +kernel
theorem d_X3_assigns_18 : decode prog_5_method_3_code 18 = .ok (.aload_n 0, 1) := by decide +kernel
theorem d_X3_assigns_19 : decode prog_5_method_3_code 19 = .ok (.aload_n 1, 1) := by decide +kernel
theorem d_X3_assigns_20 : decode prog_5_method_3_code 20 = .ok (.iload_n 2, 1) := by decide +kernel
theorem d_X3_assigns_21 : decode prog_5_method_3_code 21 = .ok (.iload_n 3, 1) := by decide +kernel
theorem d_X3_assigns_22 : decode prog_5_method_3_code 22 = .ok (.iconst 1, 1) := by decide +kernel
theorem d_X3_assigns_23 : decode prog_5_method_3_code 23 = .ok (.iadd, 1) := by decide +kernel
theorem d_X3_assigns_24 : decode prog_5_method_3_code 24 = .ok (.invokestatic 35, 3) := by decide +kernel
theorem d_X3_assigns_27 : decode prog_5_method_3_code 27 = .ok (.ireturn, 1) := by decide +kernel
theorem d_X3_assigns_28 : decode prog_5_method_3_code 28 = .ok (.aload_n 0, 1) := by decide +kernel
theorem d_X3_assigns_29 : decode prog_5_method_3_code 29 = .ok (.aload_n 1, 1) := by decide +kernel
theorem d_X3_assigns_30 : decode prog_5_method_3_code 30 = .ok (.iload_n 3, 1) := by decide +kernel
theorem d_X3_assigns_31 : decode prog_5_method_3_code 31 = .ok (.invokestatic 46, 3) := by decide +kernel
theorem d_X3_assigns_34 : decode prog_5_method_3_code 34 = .ok (.istore 4, 2) := by decide +kernel
theorem d_X3_assigns_36 : decode prog_5_method_3_code 36 = .ok (.iconst 0, 1) := by decide +kernel
theorem d_X3_assigns_37 : decode prog_5_method_3_code 37 = .ok (.istore 5, 2) := by decide +kernel
theorem d_X3_assigns_39 : decode prog_5_method_3_code 39 = .ok (.iload 5, 2) := by decide +kernel
theorem d_X3_assigns_41 : decode prog_5_method_3_code 41 = .ok (.aload_n 1, 1) := by decide +kernel
theorem d_X3_assigns_42 : decode prog_5_method_3_code 42 = .ok (.getfield 50, 3) := by decide +kernel
theorem d_X3_assigns_45 : decode prog_5_method_3_code 45 = .ok (.iload_n 3, 1) := by decide +kernel
theorem d_X3_assigns_46 : decode prog_5_method_3_code 46 = .ok (.iaload, 1) := by decide +kernel
theorem d_X3_assigns_47 : decode prog_5_method_3_code 47 = .ok (.if_icmp .ge 47, 3) := by decide +kernel
theorem d_X3_assigns_50 : decode prog_5_method_3_code 50 = .ok (.aload_n 0, 1) := by decide +kernel
theorem d_X3_assigns_51 : decode prog_5_method_3_code 51 = .ok (.iload_n 3, 1) := by decide +kernel
theorem d_X3_assigns_52 : decode prog_5_method_3_code 52 = .ok (.iload 5, 2) := by decide +kernel
theorem d_X3_assigns_54 : decode prog_5_method_3_code 54 = .ok (.iastore, 1) := by decide +kernel
theorem d_X3_assigns_55 : decode prog_5_method_3_code 55 = .ok (.iload 4, 2) := by decide +kernel
theorem d_X3_assigns_57 : decode prog_5_method_3_code 57 = .ok (.iload 5, 2) := by decide +kernel
theorem d_X3_assigns_59 : decode prog_5_method_3_code 59 = .ok (.invokestatic 42, 3) := by decide +kernel
theorem d_X3_assigns_62 : decode prog_5_method_3_code 62 = .ok (.ifCond .eq 26, 3) := by decide +kernel
theorem d_X3_assigns_65 : decode prog_5_method_3_code 65 = .ok (.aload_n 0, 1) := by decide +kernel
theorem d_X3_assigns_66 : decode prog_5_method_3_code 66 = .ok (.aload_n 1, 1) := by decide +kernel
theorem d_X3_assigns_67 : decode prog_5_method_3_code 67 = .ok (.iload_n 3, 1) := by decide +kernel
theorem d_X3_assigns_68 : decode prog_5_method_3_code 68 = .ok (.invokestatic 53, 3) := by decide +kernel
theorem d_X3_assigns_71 : decode prog_5_method_3_code 71 = .ok (.ifCond .eq 17, 3) := by decide +kernel
theorem d_X3_assigns_74 : decode prog_5_method_3_code 74 = .ok (.aload_n 0, 1) := by decide +kernel
theorem d_X3_assigns_75 : decode prog_5_method_3_code 75 = .ok (.aload_n 1, 1) := by decide +kernel
theorem d_X3_assigns_76 : decode prog_5_method_3_code 76 = .ok (.iload_n 2, 1) := by decide +kernel
theorem d_X3_assigns_77 : decode prog_5_method_3_code 77 = .ok (.iload_n 3, 1) := by decide +kernel
theorem d_X3_assigns_78 : decode prog_5_method_3_code 78 = .ok (.iconst 1, 1) := by decide +kernel
theorem d_X3_assigns_79 : decode prog_5_method_3_code 79 = .ok (.iadd, 1) := by decide +kernel
theorem d_X3_assigns_80 : decode prog_5_method_3_code 80 = .ok (.invokestatic 35, 3) := by decide +kernel
theorem d_X3_assigns_83 : decode prog_5_method_3_code 83 = .ok (.ifCond .eq 5, 3) := by decide +kernel
theorem d_X3_assigns_86 : decode prog_5_method_3_code 86 = .ok (.iconst 1, 1) := by decide +kernel
theorem d_X3_assigns_87 : decode prog_5_method_3_code 87 = .ok (.ireturn, 1) := by decide +kernel
theorem d_X3_assigns_88 : decode prog_5_method_3_code 88 = .ok (.iinc 5 1, 3) := by decide +kernel
theorem d_X3_assigns_91 : decode prog_5_method_3_code 91 = .ok (.goto (-52), 3) := by decide +kernel
theorem d_X3_assigns_94 : decode prog_5_method_3_code 94 = .ok (.aload_n 0, 1) := by decide +kernel
theorem d_X3_assigns_95 : decode prog_5_method_3_code 95 = .ok (.iload_n 3, 1) := by decide +kernel
theorem d_X3_assigns_96 : decode prog_5_method_3_code 96 = .ok (.bipush (-9), 2) := by decide +kernel
theorem d_X3_assigns_98 : decode prog_5_method_3_code 98 = .ok (.iastore, 1) := by decide +kernel
theorem d_X3_assigns_99 : decode prog_5_method_3_code 99 = .ok (.iconst 0, 1) := by decide +kernel
theorem d_X3_assigns_100 : decode prog_5_method_3_code 100 = .ok (.ireturn, 1) := by decide +kernel
abbrev M_Planner_assigns : zMT := (⟨"PeriodSlots$Planner", "assigns", "([ILPeriodSlots$Mesh;II)Z"⟩, prog_5_method_3_code, 6, (some .boolean))
theorem k_Planner_assigns : zcall M_Planner_assigns 4 := ⟨zU_in (i := 585) (by decide +kernel) rfl, m57, ⟨by decide, by decide, by decide +kernel⟩, by decide⟩
def o_Planner_assignsS (R : zHp → Nat → Int32 → Nat → Bool × zHp) (h : zHp) (m : Nat) (net : Int32) (v : Nat) : Bool × zHp :=
  (if (o_Mesh_exists h m (nI v)) = true then (if (o_Slots_has net (nI v)) = true then (Sum.elim (fun r39_2 => (false, (zup r39_2 40 v (-9)))) (fun q39_2 => q39_2) (zrex (fun (i39_2 : Nat) (s39_2 : zHp) => ((if (o_Slots_has (o_Planner_openOffsets h m v) (nI i39_2)) = true then (if (o_Planner_leavesRoom (zup s39_2 40 v (nI i39_2)) m v) = true then (if ((R (zup s39_2 40 v (nI i39_2)) m net (v + 1)).1) = true then .inr (true, ((R (zup s39_2 40 v (nI i39_2)) m net (v + 1)).2)) else .inl ((R (zup s39_2 40 v (nI i39_2)) m net (v + 1)).2)) else .inl (zup s39_2 40 v (nI i39_2))) else .inl (zup s39_2 40 v (nI i39_2))) : (zHp) ⊕ (Bool × zHp))) h (zcn (h (m + 1) v)))) else (((R h m net (v + 1)).1), ((R h m net (v + 1)).2))) else (true, h))
theorem fr_Planner_assignsS {R : zHp → Nat → Int32 → Nat → Bool × zHp} (hR : ∀ (h : zHp) (m : Nat) (net : Int32) (v c k : Nat), c ≠ 40 → (R h m net v).2 c k = h c k) {h : zHp} {m : Nat} {net : Int32} {v : Nat} (c k : Nat) (q0 : c ≠ 40) : (o_Planner_assignsS R h m net v).2 c k = h c k := by
  unfold o_Planner_assignsS
  by_cases f1 : (o_Mesh_exists h m (nI v)) = true
  · rw [if_pos f1]
    by_cases f2 : (o_Slots_has net (nI v)) = true
    · rw [if_pos f2]
      have hX := zrex_inv (f := (fun (i39_2 : Nat) (s39_2 : zHp) => ((if (o_Slots_has (o_Planner_openOffsets h m v) (nI i39_2)) = true then (if (o_Planner_leavesRoom (zup s39_2 40 v (nI i39_2)) m v) = true then (if ((R (zup s39_2 40 v (nI i39_2)) m net (v + 1)).1) = true then .inr (true, ((R (zup s39_2 40 v (nI i39_2)) m net (v + 1)).2)) else .inl ((R (zup s39_2 40 v (nI i39_2)) m net (v + 1)).2)) else .inl (zup s39_2 40 v (nI i39_2))) else .inl (zup s39_2 40 v (nI i39_2))) : (zHp) ⊕ (Bool × zHp)))) (a := h) (fun _ s39_2 => ∀ c k : Nat, c ≠ 40 → s39_2 c k = h c k) (fun q39_2 => ∀ c k : Nat, c ≠ 40 → q39_2.2 c k = h c k) (zcn (h (m + 1) v)) (fun _ _ _ => rfl) (fun i39_2 s39_2 hi39_2 hI39_2 => ⟨(by intro s2 hs; (try dsimp only at hs); by_cases cc : (o_Slots_has (o_Planner_openOffsets h m v) (nI i39_2)) = true; (rw [if_pos cc] at hs; by_cases cc : (o_Planner_leavesRoom (zup s39_2 40 v (nI i39_2)) m v) = true; (rw [if_pos cc] at hs; by_cases cc : ((R (zup s39_2 40 v (nI i39_2)) m net (v + 1)).1) = true; (rw [if_pos cc] at hs; cases hs); (rw [if_neg cc] at hs; cases hs; exact fun c k q0 => (by (try dsimp only); exact ((hR _ _ _ _ _ _ (by assumption)).trans ((zup_fr (Or.inl (by assumption))).trans (hI39_2 _ _ (by assumption))))))); (rw [if_neg cc] at hs; cases hs; exact fun c k q0 => (by (try dsimp only); exact ((zup_fr (Or.inl (by assumption))).trans (hI39_2 _ _ (by assumption)))))); (rw [if_neg cc] at hs; cases hs; exact fun c k q0 => (by (try dsimp only); exact ((zup_fr (Or.inl (by assumption))).trans (hI39_2 _ _ (by assumption)))))), (by intro r hs; (try dsimp only at hs); by_cases cc : (o_Slots_has (o_Planner_openOffsets h m v) (nI i39_2)) = true; (rw [if_pos cc] at hs; by_cases cc : (o_Planner_leavesRoom (zup s39_2 40 v (nI i39_2)) m v) = true; (rw [if_pos cc] at hs; by_cases cc : ((R (zup s39_2 40 v (nI i39_2)) m net (v + 1)).1) = true; (rw [if_pos cc] at hs; cases hs; exact fun c k q0 => (by (try dsimp only); exact ((hR _ _ _ _ _ _ (by assumption)).trans ((zup_fr (Or.inl (by assumption))).trans (hI39_2 _ _ (by assumption)))))); (rw [if_neg cc] at hs; cases hs)); (rw [if_neg cc] at hs; cases hs)); (rw [if_neg cc] at hs; cases hs))⟩)
      cases hz : (zrex (fun (i39_2 : Nat) (s39_2 : zHp) => ((if (o_Slots_has (o_Planner_openOffsets h m v) (nI i39_2)) = true then (if (o_Planner_leavesRoom (zup s39_2 40 v (nI i39_2)) m v) = true then (if ((R (zup s39_2 40 v (nI i39_2)) m net (v + 1)).1) = true then .inr (true, ((R (zup s39_2 40 v (nI i39_2)) m net (v + 1)).2)) else .inl ((R (zup s39_2 40 v (nI i39_2)) m net (v + 1)).2)) else .inl (zup s39_2 40 v (nI i39_2))) else .inl (zup s39_2 40 v (nI i39_2))) : (zHp) ⊕ (Bool × zHp))) h (zcn (h (m + 1) v))) with
      | inl r39_2 =>
        have hI39_2 := hX.1 r39_2 hz
        simp only [Sum.elim_inl]
        try dsimp only
        first | done | exact ((zup_fr (Or.inl (by assumption))).trans (hI39_2 _ _ (by assumption)))
      | inr q39_2 =>
        exact (hX.2 q39_2 hz c k (by assumption))
    · rw [if_neg f2]
      try dsimp only
      first | done | exact (hR _ _ _ _ _ _ (by assumption))
  · rw [if_neg f1]
    try dsimp only
    first | done | exact rfl
set_option maxHeartbeats 400000 in
set_option maxRecDepth 20000 in
theorem c_Planner_assignsS (X : zXT) (h : zHp) (g : zLg) (R : zHp → Nat → Int32 → Nat → Bool × zHp) (hR : ∀ (h : zHp) (m : Nat) (net : Int32) (v c k : Nat), c ≠ 40 → (R h m net v).2 c k = h c k) (m : Nat) (net : Int32) (v : Nat) {x_v : Int32} (e_v : x_v = nI v) (hm : m = 3 ∨ m = 15 ∨ m = 27) (hf0 : zfit h m 0 8) (hl1 : v < 9) {dq : Nat} (hdq : 5 ≤ dq) (IH : ∀ (h2 : zHp) (m : Nat) (net : Int32) (v2 : Nat) {x_v : Int32} (e_v : x_v = nI v2) (hm : m = 3 ∨ m = 15 ∨ m = 27) (hf0 : zfit h2 m 0 8) (hl : v2 < 9), v2 = v + 1 → zDi X M_Planner_assigns dq [zR X 40, zR X m, .int net, .int x_v] h2 g (zI (zb (R h2 m net v2).1)) (R h2 m net v2).2 g) : zDi X M_Planner_assigns (dq + 1) [zR X 40, zR X m, .int net, .int x_v] h g (zI (zb ((o_Planner_assignsS R h m net v).1))) ((o_Planner_assignsS R h m net v).2) g := by
  subst e_v
  have hf0_1 := hf0.1
  refine zDi_of "PeriodSlots$Planner" prog_5_method_3_code 6 (some .boolean) rfl (by decide) [zO X 40, zO X m, zI net, zI (nI v), none, none] rfl (fun _ q => q) (Nat.le_of_ble_eq_true rfl) ?_
  intro Γ Q C hQ
  refine zr_aload_n C d_X3_assigns_0 rfl ?_
  refine zr_iload_n C d_X3_assigns_1 rfl ?_
  refine zr_callVi (As := [.int (nI v)]) (st := []) (c := m) C (c_Mesh_exists X h g m (nI v) hm) k_Mesh_exists m586 m359 m360 (by omega) (zC_Mesh hm X _ _) rfl rfl (by omega) rfl (Nat.le_of_ble_eq_true rfl) d_X3_assigns_2 ?_
  refine zr_ifz_ne C 10 d_X3_assigns_5 (by decide) (fun c5 => ?_) (fun c5 => ?_)
  · have ex1 := zex c5
    have ex1_2 := ex1.2
    have ex1_b := (hf0).1
    have ex1_3 : v < zcn (h m 0) := by have q := ex1.2; rw [zcn_nI (by omega)] at q; exact q
    refine zr_iload_n C d_X3_assigns_10 rfl ?_
    refine zr_iload_n C d_X3_assigns_11 rfl ?_
    refine zr_callNi (As := [.int net, .int (nI v)]) (st := []) C (c_Slots_has X h g net (nI v)) k_Slots_has (by simp [zNest]) m322 rfl (by omega) rfl (Nat.le_of_ble_eq_true rfl) d_X3_assigns_12 ?_
    refine zr_ifz_ne C 28 d_X3_assigns_15 (by decide) (fun c15 => ?_) (fun c15 => ?_)
    · refine zr_aload_n C d_X3_assigns_28 rfl ?_
      refine zr_aload_n C d_X3_assigns_29 rfl ?_
      refine zr_iload_n C d_X3_assigns_30 rfl ?_
      refine zr_callSi (As := [zR X 40, zR X m, .int (nI v)]) (st := []) C (c_Planner_openOffsets X h g m v rfl hm hf0 (by omega)) k_Planner_openOffsets m588 m589 rfl (by omega) rfl (Nat.le_of_ble_eq_true rfl) d_X3_assigns_31 ?_
      refine zr_istore C [zO X 40, zO X m, zI net, zI (nI v), zI (o_Planner_openOffsets h m v), none] d_X3_assigns_34 (Nat.le_of_ble_eq_true rfl) rfl rfl ?_
      refine zr_iconst C (v := 0) d_X3_assigns_36 (by decide) ?_
      refine zr_istore C [zO X 40, zO X m, zI net, zI (nI v), zI (o_Planner_openOffsets h m v), zI 0] d_X3_assigns_37 (Nat.le_of_ble_eq_true rfl) rfl rfl ?_
      refine zforx (f := (fun (i39_2 : Nat) (s39_2 : zHp) => ((if (o_Slots_has (o_Planner_openOffsets h m v) (nI i39_2)) = true then (if (o_Planner_leavesRoom (zup s39_2 40 v (nI i39_2)) m v) = true then (if ((R (zup s39_2 40 v (nI i39_2)) m net (v + 1)).1) = true then .inr (true, ((R (zup s39_2 40 v (nI i39_2)) m net (v + 1)).2)) else .inl ((R (zup s39_2 40 v (nI i39_2)) m net (v + 1)).2)) else .inl (zup s39_2 40 v (nI i39_2))) else .inl (zup s39_2 40 v (nI i39_2))) : (zHp) ⊕ (Bool × zHp)))) (a := h) (fun i39_2 s39_2 => zV X Γ Q 39 [zO X 40, zO X m, zI net, zI (nI v), zI (o_Planner_openOffsets h m v), zI (nI i39_2)] [] s39_2 g) (fun _ s39_2 => ∀ c k : Nat, c ≠ 40 → s39_2 c k = h c k) (zcn (h (m + 1) v)) (fun _ _ _ => rfl) (fun i39_2 s39_2 hi39_2 hI39_2 => ⟨(by intro s2 hs; (try dsimp only at hs); by_cases cc : (o_Slots_has (o_Planner_openOffsets h m v) (nI i39_2)) = true; (rw [if_pos cc] at hs; by_cases cc : (o_Planner_leavesRoom (zup s39_2 40 v (nI i39_2)) m v) = true; (rw [if_pos cc] at hs; by_cases cc : ((R (zup s39_2 40 v (nI i39_2)) m net (v + 1)).1) = true; (rw [if_pos cc] at hs; cases hs); (rw [if_neg cc] at hs; cases hs; exact fun c k q0 => (by (try dsimp only); exact ((hR _ _ _ _ _ _ (by assumption)).trans ((zup_fr (Or.inl (by assumption))).trans (hI39_2 _ _ (by assumption))))))); (rw [if_neg cc] at hs; cases hs; exact fun c k q0 => (by (try dsimp only); exact ((zup_fr (Or.inl (by assumption))).trans (hI39_2 _ _ (by assumption)))))); (rw [if_neg cc] at hs; cases hs; exact fun c k q0 => (by (try dsimp only); exact ((zup_fr (Or.inl (by assumption))).trans (hI39_2 _ _ (by assumption)))))), fun hk39_2 hx39_2 => ?_⟩) (fun r39_2 er39_2 hI39_2 => ?_)
      · refine zr_iload C d_X3_assigns_39 rfl ?_
        refine zr_aload_n C d_X3_assigns_41 rfl ?_
        refine gf_Mesh_3 C hm m105 d_X3_assigns_42 ?_
        refine zr_iload_n C d_X3_assigns_45 rfl ?_
        refine zr_iald C (za_mesh_1 hm) (v) rfl (by omega) (by decide) d_X3_assigns_46 ?_
        refine zr_top (hI39_2 _ _ (by omega)) ?_
        refine zr_icmp_ge C 94 d_X3_assigns_47 (by decide) (fun c => absurd c (zge_no rfl (by omega))) (fun _ => ?_)
        refine zr_aload_n C d_X3_assigns_50 rfl ?_
        refine zr_iload_n C d_X3_assigns_51 rfl ?_
        refine zr_iload C d_X3_assigns_52 rfl ?_
        refine zr_iast C za_40 (v) rfl (by omega) (by decide) d_X3_assigns_54 ?_
        refine zr_h (fun h3 eh3 => ?_)
        refine zr_iload C d_X3_assigns_55 rfl ?_
        refine zr_iload C d_X3_assigns_57 rfl ?_
        refine zr_callNi (As := [.int (o_Planner_openOffsets h m v), .int (nI i39_2)]) (st := []) C (c_Slots_has X h3 g (o_Planner_openOffsets h m v) (nI i39_2)) k_Slots_has (by simp [zNest]) m322 rfl (by omega) rfl (Nat.le_of_ble_eq_true rfl) d_X3_assigns_59 ?_
        refine zr_ifz_eq C 88 d_X3_assigns_62 (by decide) (fun c62 => ?_) (fun c62 => ?_)
        · refine zr_iinc C [zO X 40, zO X m, zI net, zI (nI v), zI (o_Planner_openOffsets h m v), zI (nI (i39_2 + 1))] (v := (nI (i39_2 + 1))) d_X3_assigns_88 rfl (zn_add rfl rfl) (Nat.le_of_ble_eq_true rfl) rfl rfl ?_
          refine zr_goto C 39 d_X3_assigns_91 (by decide) ?_
          exact hk39_2 h3 (by subst eh3; exact ((if_neg (zbf c62))))
        · refine zr_aload_n C d_X3_assigns_65 rfl ?_
          refine zr_aload_n C d_X3_assigns_66 rfl ?_
          refine zr_iload_n C d_X3_assigns_67 rfl ?_
          refine zr_callSi (As := [zR X 40, zR X m, .int (nI v)]) (st := []) C (c_Planner_leavesRoom X h3 g m v rfl hm (zfit_fr ((congrFun (congrFun eh3.symm _) _).trans ((zup_fr (by omega)).trans (hI39_2 _ _ (by omega)))) hf0) (by omega)) k_Planner_leavesRoom m593 m594 rfl (by omega) rfl (Nat.le_of_ble_eq_true rfl) d_X3_assigns_68 ?_
          refine zr_ifz_eq C 88 d_X3_assigns_71 (by decide) (fun c71 => ?_) (fun c71 => ?_)
          · refine zr_iinc C [zO X 40, zO X m, zI net, zI (nI v), zI (o_Planner_openOffsets h m v), zI (nI (i39_2 + 1))] (v := (nI (i39_2 + 1))) d_X3_assigns_88 rfl (zn_add rfl rfl) (Nat.le_of_ble_eq_true rfl) rfl rfl ?_
            refine zr_goto C 39 d_X3_assigns_91 (by decide) ?_
            exact hk39_2 h3 (by subst eh3; exact ((if_pos c62).trans ((if_neg (zbf c71)))))
          · refine zr_aload_n C d_X3_assigns_74 rfl ?_
            refine zr_aload_n C d_X3_assigns_75 rfl ?_
            refine zr_iload_n C d_X3_assigns_76 rfl ?_
            refine zr_iload_n C d_X3_assigns_77 rfl ?_
            refine zr_iconst C (v := 1) d_X3_assigns_78 (by decide) ?_
            refine zr_iadd C d_X3_assigns_79 ?_
            refine zr_callSi (As := [zR X 40, zR X m, .int net, .int ((nI v) + 1)]) (st := []) C (IH h3 m net (v + 1) (zn_add rfl rfl) hm (zfit_fr ((congrFun (congrFun eh3.symm _) _).trans ((zup_fr (by omega)).trans (hI39_2 _ _ (by omega)))) hf0) (by omega) rfl) k_Planner_assigns m583 m584 rfl (by omega) rfl (Nat.le_of_ble_eq_true rfl) d_X3_assigns_80 ?_
            refine zr_vz (fun y4 ey4 => ?_)
            refine zr_h (fun h5 eh5 => ?_)
            refine zr_ifz_eq C 88 d_X3_assigns_83 (by decide) (fun c83 => ?_) (fun c83 => ?_)
            · refine zr_iinc C [zO X 40, zO X m, zI net, zI (nI v), zI (o_Planner_openOffsets h m v), zI (nI (i39_2 + 1))] (v := (nI (i39_2 + 1))) d_X3_assigns_88 rfl (zn_add rfl rfl) (Nat.le_of_ble_eq_true rfl) rfl rfl ?_
              refine zr_goto C 39 d_X3_assigns_91 (by decide) ?_
              exact hk39_2 h5 (by subst eh5 ey4 eh3; exact ((if_pos c62).trans ((if_pos c71).trans ((if_neg (zbf c83))))))
            · refine zr_iconst C (v := 1) d_X3_assigns_86 (by decide) ?_
              have hr39_2 := hx39_2 ((true, h5)) (by subst eh5 ey4 eh3; exact ((if_pos c62).trans ((if_pos c71).trans ((if_pos c83)))))
              have eR : o_Planner_assignsS R h m net v = (true, h5) := (by subst eh5 ey4 eh3; unfold o_Planner_assignsS; exact ((if_pos c5).trans ((if_pos c15).trans ((congrArg (Sum.elim _ _) hr39_2)))))
              subst hQ
              exact zTQ_Zh eR (zr_iretz C (Or.inr rfl) d_X3_assigns_87)
      refine zr_iload C d_X3_assigns_39 rfl ?_
      refine zr_aload_n C d_X3_assigns_41 rfl ?_
      refine gf_Mesh_3 C hm m105 d_X3_assigns_42 ?_
      refine zr_iload_n C d_X3_assigns_45 rfl ?_
      refine zr_iald C (za_mesh_1 hm) (v) rfl (by omega) (by decide) d_X3_assigns_46 ?_
      refine zr_top (hI39_2 _ _ (by omega)) ?_
      refine zr_icmp_ge C 94 d_X3_assigns_47 (by decide) (fun _ => ?_) (fun c => absurd (zge_yes rfl (by omega) (by have := zcn_small (h (m + 1) v); omega)) c)
      refine zr_aload_n C d_X3_assigns_94 rfl ?_
      refine zr_iload_n C d_X3_assigns_95 rfl ?_
      refine zr_bipush C (v := (-9)) d_X3_assigns_96 (by decide) ?_
      refine zr_iast C za_40 (v) rfl (by omega) (by decide) d_X3_assigns_98 ?_
      refine zr_h (fun h6 eh6 => ?_)
      refine zr_iconst C (v := 0) d_X3_assigns_99 (by decide) ?_
      have eR : o_Planner_assignsS R h m net v = (false, h6) := (by subst eh6; unfold o_Planner_assignsS; exact ((if_pos c5).trans ((if_pos c15).trans ((congrArg (Sum.elim _ _) er39_2)))))
      subst hQ
      exact zTQ_Zh eR (zr_iretz C (Or.inl rfl) d_X3_assigns_100)
    · refine zr_aload_n C d_X3_assigns_18 rfl ?_
      refine zr_aload_n C d_X3_assigns_19 rfl ?_
      refine zr_iload_n C d_X3_assigns_20 rfl ?_
      refine zr_iload_n C d_X3_assigns_21 rfl ?_
      refine zr_iconst C (v := 1) d_X3_assigns_22 (by decide) ?_
      refine zr_iadd C d_X3_assigns_23 ?_
      refine zr_callSi (As := [zR X 40, zR X m, .int net, .int ((nI v) + 1)]) (st := []) C (IH h m net (v + 1) (zn_add rfl rfl) hm hf0 (by omega) rfl) k_Planner_assigns m583 m584 rfl (by omega) rfl (Nat.le_of_ble_eq_true rfl) d_X3_assigns_24 ?_
      refine zr_vz (fun y7 ey7 => ?_)
      refine zr_h (fun h8 eh8 => ?_)
      have eR : o_Planner_assignsS R h m net v = (y7, h8) := (by subst eh8 ey7; unfold o_Planner_assignsS; rw [if_pos c5, if_neg (zbf c15)])
      subst hQ
      exact zTQ_Zh eR (zr_iretz C (zb_01 _) d_X3_assigns_27)
  · refine zr_iconst C (v := 1) d_X3_assigns_8 (by decide) ?_
    have eR : o_Planner_assignsS R h m net v = (true, h) := (by unfold o_Planner_assignsS; rw [if_neg (zbf c5)])
    subst hQ
    exact zTQ_Zh eR (zr_iretz C (Or.inr rfl) d_X3_assigns_9)
/-- the search: k stations may be left -/
def o_Planner_as : Nat → zHp → Nat → Int32 → Nat → Bool × zHp
  | 0 => fun h _ _ _ => (true, h)
  | k + 1 => fun h m net v => o_Planner_assignsS (o_Planner_as k) h m net v
theorem fr_Planner_as : ∀ (n : Nat) (h : zHp) (m : Nat) (net : Int32) (v c k : Nat), c ≠ 40 → (o_Planner_as n h m net v).2 c k = h c k
  | 0, _, _, _, _, _, _, _ => rfl
  | n + 1, h, m, net, v, c, k, hc => fr_Planner_assignsS (fr_Planner_as n) c k hc
theorem c_Planner_as (X : zXT) (g : zLg) : ∀ (n : Nat) (h : zHp) (m : Nat) (net : Int32) (v : Nat) {x_v : Int32} (_ : x_v = nI v) (_ : m = 3 ∨ m = 15 ∨ m = 27) (_ : zfit h m 0 8) (_ : v < 9), v + n = 9 → zDi X M_Planner_assigns (5 + n) [zR X 40, zR X m, .int net, .int x_v] h g (zI (zb (o_Planner_as n h m net v).1)) (o_Planner_as n h m net v).2 g := by
  intro n
  induction n with
  | zero => intro h m net v x_v _ _ _ hv hn; omega
  | succ n ih =>
    intro h m net v x_v e hm hf hv hn
    exact c_Planner_assignsS X h g (o_Planner_as n) (fr_Planner_as n) m net v e hm hf hv (dq := 5 + n) (by omega) (fun h2 m2 net2 v2 x2 e2 hm2 hf2 hl2 hv2 => ih h2 m2 net2 v2 e2 hm2 hf2 hl2 (by omega))
def o_Planner_assigns (h : zHp) (m : Nat) (net : Int32) (v : Nat) : Bool × zHp := o_Planner_as (9 - v) h m net v
theorem fr_Planner_assigns {h : zHp} {m : Nat} {net : Int32} {v : Nat} (c k : Nat) (hc : c ≠ 40) : (o_Planner_assigns h m net v).2 c k = h c k := fr_Planner_as _ _ _ _ _ _ _ hc
theorem c_Planner_assigns (X : zXT) (h : zHp) (g : zLg) (m : Nat) (net : Int32) (v : Nat) {x_v : Int32} (e_v : x_v = nI v) (hm : m = 3 ∨ m = 15 ∨ m = 27) (hf0 : zfit h m 0 8) (hl : v < 9) : zDi X M_Planner_assigns (5 + (9 - v)) [zR X 40, zR X m, .int net, .int x_v] h g (zI (zb (o_Planner_assigns h m net v).1)) (o_Planner_assigns h m net v).2 g :=
  c_Planner_as X g (9 - v) h m net v e_v hm hf0 hl (by omega)

theorem d_X3_succeeds_0 : decode prog_5_method_2_code 0 = .ok (.aload_n 0, 1) := by decide +kernel
theorem d_X3_succeeds_1 : decode prog_5_method_2_code 1 = .ok (.getfield 9, 3) := by decide +kernel
theorem d_X3_succeeds_4 : decode prog_5_method_2_code 4 = .ok (.bipush (-9), 2) := by decide +kernel
theorem d_X3_succeeds_6 : decode prog_5_method_2_code 6 = .ok (.invokestatic 15, 3) := by decide +kernel
theorem d_X3_succeeds_9 : decode prog_5_method_2_code 9 = .ok (.iconst 0, 1) := by decide +kernel
theorem d_X3_succeeds_10 : decode prog_5_method_2_code 10 = .ok (.istore_n 2, 1) := by decide +kernel
theorem d_X3_succeeds_11 : decode prog_5_method_2_code 11 = .ok (.iload_n 2, 1) := by decide +kernel
theorem d_X3_succeeds_12 : decode prog_5_method_2_code 12 = .ok (.aload_n 1, 1) := by decide +kernel
theorem d_X3_succeeds_13 : decode prog_5_method_2_code 13 = .ok (.getfield 21, 3) := by decide +kernel
theorem d_X3_succeeds_16 : decode prog_5_method_2_code 16 = .ok (.if_icmp .ge 36, 3) := by decide +kernel
theorem d_X3_succeeds_19 : decode prog_5_method_2_code 19 = .ok (.aload_n 1, 1) := by decide +kernel
theorem d_X3_succeeds_20 : decode prog_5_method_2_code 20 = .ok (.iload_n 2, 1) := by decide +kernel
theorem d_X3_succeeds_21 : decode prog_5_method_2_code 21 = .ok (.invokevirtual 27, 3) := by decide +kernel
theorem d_X3_succeeds_24 : decode prog_5_method_2_code 24 = .ok (.ifCond .eq 22, 3) := by decide +kernel
theorem d_X3_succeeds_27 : decode prog_5_method_2_code 27 = .ok (.aload_n 0, 1) := by decide +kernel
theorem d_X3_succeeds_28 : decode prog_5_method_2_code 28 = .ok (.getfield 9, 3) := by decide +kernel
theorem d_X3_succeeds_31 : decode prog_5_method_2_code 31 = .ok (.aload_n 1, 1) := by decide +kernel
theorem d_X3_succeeds_32 : decode prog_5_method_2_code 32 = .ok (.aload_n 1, 1) := by decide +kernel
theorem d_X3_succeeds_33 : decode prog_5_method_2_code 33 = .ok (.iload_n 2, 1) := by decide +kernel
theorem d_X3_succeeds_34 : decode prog_5_method_2_code 34 = .ok (.invokevirtual 31, 3) := by decide +kernel
theorem d_X3_succeeds_37 : decode prog_5_method_2_code 37 = .ok (.iload_n 2, 1) := by decide +kernel
theorem d_X3_succeeds_38 : decode prog_5_method_2_code 38 = .ok (.invokestatic 35, 3) := by decide +kernel
theorem d_X3_succeeds_41 : decode prog_5_method_2_code 41 = .ok (.ifCond .ne 5, 3) := by decide +kernel
theorem d_X3_succeeds_44 : decode prog_5_method_2_code 44 = .ok (.iconst 0, 1) := by decide +kernel
theorem d_X3_succeeds_45 : decode prog_5_method_2_code 45 = .ok (.ireturn, 1) := by decide +kernel
theorem d_X3_succeeds_46 : decode prog_5_method_2_code 46 = .ok (.iinc 2 1, 3) := by decide +kernel
theorem d_X3_succeeds_49 : decode prog_5_method_2_code 49 = .ok (.goto (-38), 3) := by decide +kernel
theorem d_X3_succeeds_52 : decode prog_5_method_2_code 52 = .ok (.iconst 1, 1) := by decide +kernel
theorem d_X3_succeeds_53 : decode prog_5_method_2_code 53 = .ok (.ireturn, 1) := by decide +kernel
abbrev M_Planner_succeeds : zMT := (⟨"PeriodSlots$Planner", "succeeds", "(LPeriodSlots$Mesh;)Z"⟩, prog_5_method_2_code, 3, (some .boolean))
theorem k_Planner_succeeds : zcall M_Planner_succeeds 1 := ⟨zU_in (i := 579) (by decide +kernel) rfl, m57, ⟨by decide, by decide, by decide +kernel⟩, by decide⟩
def o_Planner_succeeds (h : zHp) (m : Nat) : Bool × zHp :=
  (Sum.elim (fun r11_2 => (true, r11_2)) (fun q11_2 => q11_2) (zrex (fun (i11_2 : Nat) (s11_2 : zHp) => ((if (o_Mesh_isLowestOfNet h m (nI i11_2)) = true then (if ((o_Planner_assigns s11_2 m (o_Mesh_netOf h m (nI i11_2)) i11_2).1) = true then .inl ((o_Planner_assigns s11_2 m (o_Mesh_netOf h m (nI i11_2)) i11_2).2) else .inr (false, ((o_Planner_assigns s11_2 m (o_Mesh_netOf h m (nI i11_2)) i11_2).2))) else .inl s11_2) : (zHp) ⊕ (Bool × zHp))) (o_Arr_fill h 40 (-9)) (zcn (h m 0))))
theorem fr_Planner_succeeds {h : zHp} {m : Nat} (c k : Nat) (q0 : c ≠ 40) : (o_Planner_succeeds h m).2 c k = h c k := by
  unfold o_Planner_succeeds
  have hX := zrex_inv (f := (fun (i11_2 : Nat) (s11_2 : zHp) => ((if (o_Mesh_isLowestOfNet h m (nI i11_2)) = true then (if ((o_Planner_assigns s11_2 m (o_Mesh_netOf h m (nI i11_2)) i11_2).1) = true then .inl ((o_Planner_assigns s11_2 m (o_Mesh_netOf h m (nI i11_2)) i11_2).2) else .inr (false, ((o_Planner_assigns s11_2 m (o_Mesh_netOf h m (nI i11_2)) i11_2).2))) else .inl s11_2) : (zHp) ⊕ (Bool × zHp)))) (a := (o_Arr_fill h 40 (-9))) (fun _ s11_2 => ∀ c k : Nat, c ≠ 40 → s11_2 c k = (o_Arr_fill h 40 (-9)) c k) (fun q11_2 => ∀ c k : Nat, c ≠ 40 → q11_2.2 c k = (o_Arr_fill h 40 (-9)) c k) (zcn (h m 0)) (fun _ _ _ => rfl) (fun i11_2 s11_2 hi11_2 hI11_2 => ⟨(by intro s2 hs; (try dsimp only at hs); by_cases cc : (o_Mesh_isLowestOfNet h m (nI i11_2)) = true; (rw [if_pos cc] at hs; by_cases cc : ((o_Planner_assigns s11_2 m (o_Mesh_netOf h m (nI i11_2)) i11_2).1) = true; (rw [if_pos cc] at hs; cases hs; exact fun c k q0 => (by (try dsimp only); exact ((fr_Planner_assigns _ _ (by assumption)).trans (hI11_2 _ _ (by assumption))))); (rw [if_neg cc] at hs; cases hs)); (rw [if_neg cc] at hs; cases hs; exact fun c k q0 => (by (try dsimp only); exact (hI11_2 _ _ (by assumption))))), (by intro r hs; (try dsimp only at hs); by_cases cc : (o_Mesh_isLowestOfNet h m (nI i11_2)) = true; (rw [if_pos cc] at hs; by_cases cc : ((o_Planner_assigns s11_2 m (o_Mesh_netOf h m (nI i11_2)) i11_2).1) = true; (rw [if_pos cc] at hs; cases hs); (rw [if_neg cc] at hs; cases hs; exact fun c k q0 => (by (try dsimp only); exact ((fr_Planner_assigns _ _ (by assumption)).trans (hI11_2 _ _ (by assumption)))))); (rw [if_neg cc] at hs; cases hs))⟩)
  cases hz : (zrex (fun (i11_2 : Nat) (s11_2 : zHp) => ((if (o_Mesh_isLowestOfNet h m (nI i11_2)) = true then (if ((o_Planner_assigns s11_2 m (o_Mesh_netOf h m (nI i11_2)) i11_2).1) = true then .inl ((o_Planner_assigns s11_2 m (o_Mesh_netOf h m (nI i11_2)) i11_2).2) else .inr (false, ((o_Planner_assigns s11_2 m (o_Mesh_netOf h m (nI i11_2)) i11_2).2))) else .inl s11_2) : (zHp) ⊕ (Bool × zHp))) (o_Arr_fill h 40 (-9)) (zcn (h m 0))) with
  | inl r11_2 =>
    have hI11_2 := hX.1 r11_2 hz
    simp only [Sum.elim_inl]
    try dsimp only
    first | done | exact ((hI11_2 _ _ (by assumption)).trans (fr_Arr_fill _ _ (by assumption)))
  | inr q11_2 =>
    exact (hX.2 q11_2 hz c k (by assumption)).trans (fr_Arr_fill _ _ (by assumption))
set_option maxHeartbeats 400000 in
set_option maxRecDepth 20000 in
theorem c_Planner_succeeds (X : zXT) (h : zHp) (g : zLg) (m : Nat) (hm : m = 3 ∨ m = 15 ∨ m = 27) (hf0 : zfit h m 0 8) : zDi X M_Planner_succeeds 15 [zR X 39, zR X m] h g (zI (zb ((o_Planner_succeeds h m).1))) ((o_Planner_succeeds h m).2) g := by
  have hf0_1 := hf0.1
  refine zDi_of "PeriodSlots$Planner" prog_5_method_2_code 3 (some .boolean) rfl (by decide) [zO X 39, zO X m, none] rfl (fun _ q => q) (Nat.le_of_ble_eq_true rfl) ?_
  intro Γ Q C hQ
  refine zr_aload_n C d_X3_succeeds_0 rfl ?_
  refine gf_Planner_0 C m164 d_X3_succeeds_1 ?_
  refine zr_bipush C (v := (-9)) d_X3_succeeds_4 (by decide) ?_
  refine zr_callSv (As := [zR X 40, .int (-9)]) (st := []) C (c_Arr_fill X h g 40 (-9) za_40) k_Arr_fill m580 m303 rfl (by decide) rfl (Nat.le_of_ble_eq_true rfl) d_X3_succeeds_6 ?_
  refine zr_h (fun h1 eh1 => ?_)
  refine zr_iconst C (v := 0) d_X3_succeeds_9 (by decide) ?_
  refine zr_istore_n C [zO X 39, zO X m, zI 0] d_X3_succeeds_10 (Nat.le_of_ble_eq_true rfl) rfl rfl ?_
  refine zforx (f := (fun (i11_2 : Nat) (s11_2 : zHp) => ((if (o_Mesh_isLowestOfNet h m (nI i11_2)) = true then (if ((o_Planner_assigns s11_2 m (o_Mesh_netOf h m (nI i11_2)) i11_2).1) = true then .inl ((o_Planner_assigns s11_2 m (o_Mesh_netOf h m (nI i11_2)) i11_2).2) else .inr (false, ((o_Planner_assigns s11_2 m (o_Mesh_netOf h m (nI i11_2)) i11_2).2))) else .inl s11_2) : (zHp) ⊕ (Bool × zHp)))) (a := h1) (fun i11_2 s11_2 => zV X Γ Q 11 [zO X 39, zO X m, zI (nI i11_2)] [] s11_2 g) (fun _ s11_2 => ∀ c k : Nat, c ≠ 40 → s11_2 c k = h1 c k) (zcn (h m 0)) (fun _ _ _ => rfl) (fun i11_2 s11_2 hi11_2 hI11_2 => ⟨(by intro s2 hs; (try dsimp only at hs); by_cases cc : (o_Mesh_isLowestOfNet h m (nI i11_2)) = true; (rw [if_pos cc] at hs; by_cases cc : ((o_Planner_assigns s11_2 m (o_Mesh_netOf h m (nI i11_2)) i11_2).1) = true; (rw [if_pos cc] at hs; cases hs; exact fun c k q0 => (by (try dsimp only); exact ((fr_Planner_assigns _ _ (by assumption)).trans (hI11_2 _ _ (by assumption))))); (rw [if_neg cc] at hs; cases hs)); (rw [if_neg cc] at hs; cases hs; exact fun c k q0 => (by (try dsimp only); exact (hI11_2 _ _ (by assumption))))), fun hk11_2 hx11_2 => ?_⟩) (fun r11_2 er11_2 hI11_2 => ?_)
  · refine zr_iload_n C d_X3_succeeds_11 rfl ?_
    refine zr_aload_n C d_X3_succeeds_12 rfl ?_
    refine gf_Mesh_0 C hm m96 d_X3_succeeds_13 ?_
    refine zr_top ((hI11_2 _ _ (by omega)).trans ((congrFun (congrFun eh1.symm _) _).trans (fr_Arr_fill _ _ (by omega)))) ?_
    refine zr_icmp_ge C 52 d_X3_succeeds_16 (by decide) (fun c => absurd c (zge_no rfl (by omega))) (fun _ => ?_)
    refine zr_aload_n C d_X3_succeeds_19 rfl ?_
    refine zr_iload_n C d_X3_succeeds_20 rfl ?_
    refine zr_callVi (As := [.int (nI i11_2)]) (st := []) (c := m) C (c_Mesh_isLowestOfNet X s11_2 g m (nI i11_2) hm (zfit_fr ((hI11_2 _ _ (by omega)).trans ((congrFun (congrFun eh1.symm _) _).trans (fr_Arr_fill _ _ (by omega)))) hf0)) k_Mesh_isLowestOfNet m581 m432 m433 (by omega) (zC_Mesh hm X _ _) rfl rfl (by decide) rfl (Nat.le_of_ble_eq_true rfl) d_X3_succeeds_21 ?_
    refine zr_topz (rd_Mesh_isLowestOfNet (funext fun kk => ((hI11_2 _ _ (by omega)).trans ((congrFun (congrFun eh1.symm _) _).trans (fr_Arr_fill _ _ (by omega))))) ((hI11_2 _ _ (by omega)).trans ((congrFun (congrFun eh1.symm _) _).trans (fr_Arr_fill _ _ (by omega))))) ?_
    refine zr_ifz_eq C 46 d_X3_succeeds_24 (by decide) (fun c24 => ?_) (fun c24 => ?_)
    · refine zr_iinc C [zO X 39, zO X m, zI (nI (i11_2 + 1))] (v := (nI (i11_2 + 1))) d_X3_succeeds_46 rfl (zn_add rfl rfl) (Nat.le_of_ble_eq_true rfl) rfl rfl ?_
      refine zr_goto C 11 d_X3_succeeds_49 (by decide) ?_
      exact hk11_2 s11_2 ((if_neg (zbf c24)))
    · refine zr_aload_n C d_X3_succeeds_27 rfl ?_
      refine gf_Planner_0 C m164 d_X3_succeeds_28 ?_
      refine zr_aload_n C d_X3_succeeds_31 rfl ?_
      refine zr_aload_n C d_X3_succeeds_32 rfl ?_
      refine zr_iload_n C d_X3_succeeds_33 rfl ?_
      refine zr_callVi (As := [.int (nI i11_2)]) (st := [zR X m, zR X 40]) (c := m) C (c_Mesh_netOf X s11_2 g m (nI i11_2) hm (zfit_fr ((hI11_2 _ _ (by omega)).trans ((congrFun (congrFun eh1.symm _) _).trans (fr_Arr_fill _ _ (by omega)))) hf0)) k_Mesh_netOf m582 m436 m437 (by omega) (zC_Mesh hm X _ _) rfl rfl (by decide) rfl (Nat.le_of_ble_eq_true rfl) d_X3_succeeds_34 ?_
      refine zr_top (rd_Mesh_netOf (funext fun kk => ((hI11_2 _ _ (by omega)).trans ((congrFun (congrFun eh1.symm _) _).trans (fr_Arr_fill _ _ (by omega))))) ((hI11_2 _ _ (by omega)).trans ((congrFun (congrFun eh1.symm _) _).trans (fr_Arr_fill _ _ (by omega))))) ?_
      refine zr_iload_n C d_X3_succeeds_37 rfl ?_
      refine zr_callSi (As := [zR X 40, zR X m, .int (o_Mesh_netOf h m (nI i11_2)), .int (nI i11_2)]) (st := []) C (c_Planner_assigns X s11_2 g m (o_Mesh_netOf h m (nI i11_2)) i11_2 rfl hm (zfit_fr ((hI11_2 _ _ (by omega)).trans ((congrFun (congrFun eh1.symm _) _).trans (fr_Arr_fill _ _ (by omega)))) hf0) (by omega)) k_Planner_assigns m583 m584 rfl (by omega) rfl (Nat.le_of_ble_eq_true rfl) d_X3_succeeds_38 ?_
      refine zr_vz (fun y3 ey3 => ?_)
      refine zr_h (fun h4 eh4 => ?_)
      refine zr_ifz_ne C 46 d_X3_succeeds_41 (by decide) (fun c41 => ?_) (fun c41 => ?_)
      · refine zr_iinc C [zO X 39, zO X m, zI (nI (i11_2 + 1))] (v := (nI (i11_2 + 1))) d_X3_succeeds_46 rfl (zn_add rfl rfl) (Nat.le_of_ble_eq_true rfl) rfl rfl ?_
        refine zr_goto C 11 d_X3_succeeds_49 (by decide) ?_
        exact hk11_2 h4 (by subst eh4 ey3; exact ((if_pos c24).trans ((if_pos c41))))
      · refine zr_iconst C (v := 0) d_X3_succeeds_44 (by decide) ?_
        have hr11_2 := hx11_2 ((false, h4)) (by subst eh4 ey3; exact ((if_pos c24).trans ((if_neg (zbf c41)))))
        have eR : o_Planner_succeeds h m = (false, h4) := (by subst eh4 ey3 eh1; unfold o_Planner_succeeds; exact ((congrArg (Sum.elim _ _) hr11_2)))
        subst hQ
        exact zTQ_Zh eR (zr_iretz C (Or.inl rfl) d_X3_succeeds_45)
  refine zr_iload_n C d_X3_succeeds_11 rfl ?_
  refine zr_aload_n C d_X3_succeeds_12 rfl ?_
  refine gf_Mesh_0 C hm m96 d_X3_succeeds_13 ?_
  refine zr_top ((hI11_2 _ _ (by omega)).trans ((congrFun (congrFun eh1.symm _) _).trans (fr_Arr_fill _ _ (by omega)))) ?_
  refine zr_icmp_ge C 52 d_X3_succeeds_16 (by decide) (fun _ => ?_) (fun c => absurd (zge_yes rfl (by omega) (by have := zcn_small (h m 0); omega)) c)
  refine zr_iconst C (v := 1) d_X3_succeeds_52 (by decide) ?_
  have eR : o_Planner_succeeds h m = (true, r11_2) := (by subst eh1; unfold o_Planner_succeeds; exact ((congrArg (Sum.elim _ _) er11_2)))
  subst hQ
  exact zTQ_Zh eR (zr_iretz C (Or.inr rfl) d_X3_succeeds_53)
