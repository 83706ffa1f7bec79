/-! Walks of methods, by program (wip/whole/gen). -/
theorem d_X6_shifted_0 : decode prog_1_method_20_code 0 = .ok (.aload_n 0, 1) := by decide +kernel
theorem d_X6_shifted_1 : decode prog_1_method_20_code 1 = .ok (.getfield 19, 3) := by decide +kernel
theorem d_X6_shifted_4 : decode prog_1_method_20_code 4 = .ok (.iload_n 1, 1) := by decide +kernel
theorem d_X6_shifted_5 : decode prog_1_method_20_code 5 = .ok (.iload_n 2, 1) := by decide +kernel
theorem d_X6_shifted_6 : decode prog_1_method_20_code 6 = .ok (.invokevirtual 182, 3) := by decide +kernel
theorem d_X6_shifted_9 : decode prog_1_method_20_code 9 = .ok (.istore_n 3, 1) := by decide +kernel
theorem d_X6_shifted_10 : decode prog_1_method_20_code 10 = .ok (.iload_n 3, 1) := by decide +kernel
theorem d_X6_shifted_11 : decode prog_1_method_20_code 11 = .ok (.ifCond .eq 7, 3) := by decide +kernel
theorem d_X6_shifted_14 : decode prog_1_method_20_code 14 = .ok (.iload_n 3, 1) := by decide +kernel
theorem d_X6_shifted_15 : decode prog_1_method_20_code 15 = .ok (.goto 16, 3) := by decide +kernel
theorem d_X6_shifted_18 : decode prog_1_method_20_code 18 = .ok (.aload_n 0, 1) := by decide +kernel
theorem d_X6_shifted_19 : decode prog_1_method_20_code 19 = .ok (.aload_n 0, 1) := by decide +kernel
theorem d_X6_shifted_20 : decode prog_1_method_20_code 20 = .ok (.getfield 19, 3) := by decide +kernel
theorem d_X6_shifted_23 : decode prog_1_method_20_code 23 = .ok (.iload_n 1, 1) := by decide +kernel
theorem d_X6_shifted_24 : decode prog_1_method_20_code 24 = .ok (.invokevirtual 150, 3) := by decide +kernel
theorem d_X6_shifted_27 : decode prog_1_method_20_code 27 = .ok (.iload_n 2, 1) := by decide +kernel
theorem d_X6_shifted_28 : decode prog_1_method_20_code 28 = .ok (.invokevirtual 197, 3) := by decide +kernel
theorem d_X6_shifted_31 : decode prog_1_method_20_code 31 = .ok (.ireturn, 1) := by decide +kernel
abbrev M_Slots_shifted : zMT := (⟨"PeriodSlots", "shifted", "(II)I"⟩, prog_1_method_20_code, 4, (some .int))
theorem k_Slots_shifted : zcall M_Slots_shifted 2 := ⟨zU_in (i := 599) (by decide +kernel) rfl, m54, ⟨by decide, by decide, by decide +kernel⟩, by decide⟩
def o_Slots_shifted (h : zHp) (station : Int32) (d : Int32) : Int32 × zHp :=
  ((if (o_Mesh_distanceError h 3 station d) = 0 then ((o_Slots_conflictsAfter h (o_Mesh_netOf h 3 station) d).1) else (o_Mesh_distanceError h 3 station d)), (if (o_Mesh_distanceError h 3 station d) = 0 then ((o_Slots_conflictsAfter h (o_Mesh_netOf h 3 station) d).2) else h))
theorem fr_Slots_shifted {h : zHp} {station : Int32} {d : Int32} (c k : Nat) (q0 : ¬ (c = 27 ∧ k = 0)) (q1 : ¬ (c = 27 ∧ k = 1)) (q2 : ¬ (c = 27 ∧ k = 2)) (q3 : c ≠ 28) (q4 : c ≠ 29) (q5 : c ≠ 30) (q6 : c ≠ 31) (q7 : c ≠ 32) (q8 : c ≠ 33) (q9 : c ≠ 34) (q10 : c ≠ 35) (q11 : c ≠ 36) (q12 : c ≠ 37) (q13 : c ≠ 38) : (o_Slots_shifted h station d).2 c k = h c k := by
  unfold o_Slots_shifted
  try dsimp only
  first | done | exact (zite_fr (fun _ => (fr_Slots_conflictsAfter _ _ (by assumption) (by assumption) (by assumption) (by assumption) (by assumption) (by assumption) (by assumption) (by assumption) (by assumption) (by assumption) (by assumption) (by assumption) (by assumption) (by assumption))) (fun _ => rfl))
set_option maxHeartbeats 400000 in
set_option maxRecDepth 20000 in
theorem c_Slots_shifted (X : zXT) (h : zHp) (g : zLg) (station : Int32) (d : Int32) (hf0 : zfit h 3 0 8) : zDi X M_Slots_shifted 5 [zR X 0, .int station, .int d] h g (zI ((o_Slots_shifted h station d).1)) ((o_Slots_shifted h station d).2) g := by
  have hf0_1 := hf0.1
  refine zDi_of "PeriodSlots" prog_1_method_20_code 4 (some .int) rfl (by decide) [zO X 0, zI station, zI d, none] rfl (fun _ q => q) (Nat.le_of_ble_eq_true rfl) ?_
  intro Γ Q C hQ
  refine zr_aload_n C d_X6_shifted_0 rfl ?_
  refine gf_Slots_1 C m228 d_X6_shifted_1 ?_
  refine zr_iload_n C d_X6_shifted_4 rfl ?_
  refine zr_iload_n C d_X6_shifted_5 rfl ?_
  refine zr_callVi (As := [.int station, .int d]) (st := []) (c := 3) C (c_Mesh_distanceError X h g 3 station d (by decide)) k_Mesh_distanceError m508 m509 m510 (by decide) (zC_Mesh (by decide) X _ _) rfl rfl (by decide) rfl (Nat.le_of_ble_eq_true rfl) d_X6_shifted_6 ?_
  refine zr_istore_n C [zO X 0, zI station, zI d, zI (o_Mesh_distanceError h 3 station d)] d_X6_shifted_9 (Nat.le_of_ble_eq_true rfl) rfl rfl ?_
  refine zr_iload_n C d_X6_shifted_10 rfl ?_
  suffices hJ11 : ∀ (y4 : Int32) (h5 : zHp), (if (o_Mesh_distanceError h 3 station d) = 0 then ((o_Slots_conflictsAfter h (o_Mesh_netOf h 3 station) d).1) else (o_Mesh_distanceError h 3 station d)) = y4 → (if (o_Mesh_distanceError h 3 station d) = 0 then ((o_Slots_conflictsAfter h (o_Mesh_netOf h 3 station) d).2) else h) = h5 → zV X Γ Q 31 [none, none, none, none] [.int y4] h5 g by
    refine zr_if_eq C 18 d_X6_shifted_11 (by decide) (fun c11 => ?_) (fun c11 => ?_)
    · have ex1 := zdistE c11
      have ex1_2 := ex1.2
      have ex1_b := (hf0).1
      refine zr_aload_n C d_X6_shifted_18 rfl ?_
      refine zr_aload_n C d_X6_shifted_19 rfl ?_
      refine gf_Slots_1 C m228 d_X6_shifted_20 ?_
      refine zr_iload_n C d_X6_shifted_23 rfl ?_
      refine zr_callVi (As := [.int station]) (st := [zR X 0]) (c := 3) C (c_Mesh_netOf X h g 3 station (by decide) hf0) k_Mesh_netOf m448 m436 m437 (by decide) (zC_Mesh (by decide) X _ _) rfl rfl (by decide) rfl (Nat.le_of_ble_eq_true rfl) d_X6_shifted_24 ?_
      refine zr_iload_n C d_X6_shifted_27 rfl ?_
      refine zr_callVi (As := [.int (o_Mesh_netOf h 3 station), .int d]) (st := []) (c := 0) C (c_Slots_conflictsAfter X h g (o_Mesh_netOf h 3 station) d hf0) k_Slots_conflictsAfter m528 m530 m10 (by decide) (zC_Slots X _ _) rfl rfl (by decide) rfl (Nat.le_of_ble_eq_true rfl) d_X6_shifted_28 ?_
      refine zr_vi (fun y2 ey2 => ?_)
      refine zr_h (fun h3 eh3 => ?_)
      refine zr_lv [none, none, none, none] (by simp [zle]) ?_
      exact hJ11 y2 h3 (by subst eh3 ey2; exact ((if_pos c11))) (by subst eh3 ey2; exact ((if_pos c11)))
    · refine zr_iload_n C d_X6_shifted_14 rfl ?_
      refine zr_goto C 31 d_X6_shifted_15 (by decide) ?_
      refine zr_lv [none, none, none, none] (by simp [zle]) ?_
      exact hJ11 (o_Mesh_distanceError h 3 station d) h (((if_neg c11))) (((if_neg c11)))
  intro y4 h5 ey4 eh5
  have eR : o_Slots_shifted h station d = (y4, h5) := (by subst eh5 ey4; unfold o_Slots_shifted; exact rfl)
  subst hQ
  exact zTQ_Ih eR (zr_ireti C d_X6_shifted_31)
theorem d_X6_oneTickLater_0 : decode prog_1_method_22_code 0 = .ok (.iload_n 0, 1) := by decide +kernel
theorem d_X6_oneTickLater_1 : decode prog_1_method_22_code 1 = .ok (.iconst 1, 1) := by decide +kernel
theorem d_X6_oneTickLater_2 : decode prog_1_method_22_code 2 = .ok (.ishl, 1) := by decide +kernel
theorem d_X6_oneTickLater_3 : decode prog_1_method_22_code 3 = .ok (.iload_n 0, 1) := by decide +kernel
theorem d_X6_oneTickLater_4 : decode prog_1_method_22_code 4 = .ok (.bipush 7, 2) := by decide +kernel
theorem d_X6_oneTickLater_6 : decode prog_1_method_22_code 6 = .ok (.ishr, 1) := by decide +kernel
theorem d_X6_oneTickLater_7 : decode prog_1_method_22_code 7 = .ok (.ior, 1) := by decide +kernel
theorem d_X6_oneTickLater_8 : decode prog_1_method_22_code 8 = .ok (.sipush 255, 3) := by decide +kernel
theorem d_X6_oneTickLater_11 : decode prog_1_method_22_code 11 = .ok (.iand, 1) := by decide +kernel
theorem d_X6_oneTickLater_12 : decode prog_1_method_22_code 12 = .ok (.ireturn, 1) := by decide +kernel
abbrev M_Slots_oneTickLater : zMT := (⟨"PeriodSlots", "oneTickLater", "(I)I"⟩, prog_1_method_22_code, 1, (some .int))
theorem k_Slots_oneTickLater : zcall M_Slots_oneTickLater 1 := ⟨zU_in (i := 610) (by decide +kernel) rfl, m54, ⟨by decide, by decide, by decide +kernel⟩, by decide⟩
def o_Slots_oneTickLater (ticks : Int32) : Int32 :=
  (((zshl ticks 1) ||| (zsar ticks 7)) &&& 255)
set_option maxHeartbeats 400000 in
set_option maxRecDepth 20000 in
theorem c_Slots_oneTickLater (X : zXT) (h : zHp) (g : zLg) (ticks : Int32) : zDi X M_Slots_oneTickLater 0 [.int ticks] h g (zI (o_Slots_oneTickLater ticks)) h g := by
  refine zDi_of "PeriodSlots" prog_1_method_22_code 1 (some .int) rfl (by decide) [zI ticks] rfl (fun _ q => q) (Nat.le_of_ble_eq_true rfl) ?_
  intro Γ Q C hQ
  refine zr_iload_n C d_X6_oneTickLater_0 rfl ?_
  refine zr_iconst C (v := 1) d_X6_oneTickLater_1 (by decide) ?_
  refine zr_ishl C d_X6_oneTickLater_2 ?_
  refine zr_iload_n C d_X6_oneTickLater_3 rfl ?_
  refine zr_bipush C (v := 7) d_X6_oneTickLater_4 (by decide) ?_
  refine zr_ishr C d_X6_oneTickLater_6 ?_
  refine zr_ior C d_X6_oneTickLater_7 ?_
  refine zr_sipush C (v := 255) d_X6_oneTickLater_8 (by decide) ?_
  refine zr_iand C d_X6_oneTickLater_11 ?_
  have eR : o_Slots_oneTickLater ticks = (((zshl ticks 1) ||| (zsar ticks 7)) &&& 255) := (by unfold o_Slots_oneTickLater; exact rfl)
  subst hQ
  rw [eR]
  exact zr_ireti C d_X6_oneTickLater_12
theorem d_X6_awake_0 : decode prog_1_method_21_code 0 = .ok (.aload_n 0, 1) := by decide +kernel
theorem d_X6_awake_1 : decode prog_1_method_21_code 1 = .ok (.getfield 19, 3) := by decide +kernel
theorem d_X6_awake_4 : decode prog_1_method_21_code 4 = .ok (.iload_n 1, 1) := by decide +kernel
theorem d_X6_awake_5 : decode prog_1_method_21_code 5 = .ok (.invokevirtual 118, 3) := by decide +kernel
theorem d_X6_awake_8 : decode prog_1_method_21_code 8 = .ok (.ifCond .ne 5, 3) := by decide +kernel
theorem d_X6_awake_11 : decode prog_1_method_21_code 11 = .ok (.iconst (-1), 1) := by decide +kernel
theorem d_X6_awake_12 : decode prog_1_method_21_code 12 = .ok (.ireturn, 1) := by decide +kernel
theorem d_X6_awake_13 : decode prog_1_method_21_code 13 = .ok (.aload_n 0, 1) := by decide +kernel
theorem d_X6_awake_14 : decode prog_1_method_21_code 14 = .ok (.getfield 19, 3) := by decide +kernel
theorem d_X6_awake_17 : decode prog_1_method_21_code 17 = .ok (.iload_n 1, 1) := by decide +kernel
theorem d_X6_awake_18 : decode prog_1_method_21_code 18 = .ok (.invokevirtual 220, 3) := by decide +kernel
theorem d_X6_awake_21 : decode prog_1_method_21_code 21 = .ok (.istore_n 3, 1) := by decide +kernel
theorem d_X6_awake_22 : decode prog_1_method_21_code 22 = .ok (.iload_n 2, 1) := by decide +kernel
theorem d_X6_awake_23 : decode prog_1_method_21_code 23 = .ok (.tableswitch 57 0 3 #[29, 31, 36, 48], 29) := by decide +kernel
theorem d_X6_awake_52 : decode prog_1_method_21_code 52 = .ok (.iload_n 3, 1) := by decide +kernel
theorem d_X6_awake_53 : decode prog_1_method_21_code 53 = .ok (.ireturn, 1) := by decide +kernel
theorem d_X6_awake_54 : decode prog_1_method_21_code 54 = .ok (.iload_n 3, 1) := by decide +kernel
theorem d_X6_awake_55 : decode prog_1_method_21_code 55 = .ok (.invokestatic 159, 3) := by decide +kernel
theorem d_X6_awake_58 : decode prog_1_method_21_code 58 = .ok (.ireturn, 1) := by decide +kernel
theorem d_X6_awake_59 : decode prog_1_method_21_code 59 = .ok (.iload_n 3, 1) := by decide +kernel
theorem d_X6_awake_60 : decode prog_1_method_21_code 60 = .ok (.iload_n 3, 1) := by decide +kernel
theorem d_X6_awake_61 : decode prog_1_method_21_code 61 = .ok (.invokestatic 223, 3) := by decide +kernel
theorem d_X6_awake_64 : decode prog_1_method_21_code 64 = .ok (.iconst (-1), 1) := by decide +kernel
theorem d_X6_awake_65 : decode prog_1_method_21_code 65 = .ok (.ixor, 1) := by decide +kernel
theorem d_X6_awake_66 : decode prog_1_method_21_code 66 = .ok (.iand, 1) := by decide +kernel
theorem d_X6_awake_67 : decode prog_1_method_21_code 67 = .ok (.invokestatic 159, 3) := by decide +kernel
theorem d_X6_awake_70 : decode prog_1_method_21_code 70 = .ok (.ireturn, 1) := by decide +kernel
theorem d_X6_awake_71 : decode prog_1_method_21_code 71 = .ok (.aload_n 0, 1) := by decide +kernel
theorem d_X6_awake_72 : decode prog_1_method_21_code 72 = .ok (.getfield 19, 3) := by decide +kernel
theorem d_X6_awake_75 : decode prog_1_method_21_code 75 = .ok (.iload_n 1, 1) := by decide +kernel
theorem d_X6_awake_76 : decode prog_1_method_21_code 76 = .ok (.invokevirtual 226, 3) := by decide +kernel
theorem d_X6_awake_79 : decode prog_1_method_21_code 79 = .ok (.ireturn, 1) := by decide +kernel
theorem d_X6_awake_80 : decode prog_1_method_21_code 80 = .ok (.bipush (-2), 2) := by decide +kernel
theorem d_X6_awake_82 : decode prog_1_method_21_code 82 = .ok (.ireturn, 1) := by decide +kernel
abbrev M_Slots_awake : zMT := (⟨"PeriodSlots", "awake", "(II)I"⟩, prog_1_method_21_code, 4, (some .int))
theorem k_Slots_awake : zcall M_Slots_awake 2 := ⟨zU_in (i := 603) (by decide +kernel) rfl, m54, ⟨by decide, by decide, by decide +kernel⟩, by decide⟩
def o_Slots_awake (h : zHp) (station : Int32) (what : Int32) : Int32 :=
  (if (o_Mesh_exists h 3 station) = true then (if what = 0 then (o_Mesh_awakeTicks h 3 (zcn station)) else (if what = 1 then (o_Int_bitCount (o_Mesh_awakeTicks h 3 (zcn station))) else (if what = 2 then (o_Int_bitCount ((o_Mesh_awakeTicks h 3 (zcn station)) &&& ((o_Slots_oneTickLater (o_Mesh_awakeTicks h 3 (zcn station))) ^^^ (-1)))) else (if what = 3 then (o_Mesh_hearingTicks h 3 (zcn station)) else (-2))))) else (-1))
theorem rd_Slots_awake {h h2 : zHp} {station : Int32} {what : Int32} (e0 : h2 12 = h 12) (e1 : h2 3 0 = h 3 0) (e2 : h2 5 = h 5) : o_Slots_awake h2 station what = o_Slots_awake h station what := by
  unfold o_Slots_awake
  simp only [e0, e1, e2, rd_Mesh_exists e1, rd_Mesh_awakeTicks e2 e0 e1, rd_Mesh_hearingTicks e2 e0 e1]

set_option maxHeartbeats 400000 in
set_option maxRecDepth 20000 in
theorem c_Slots_awake (X : zXT) (h : zHp) (g : zLg) (station : Int32) (what : Int32) (hf0 : zfit h 3 0 8) : zDi X M_Slots_awake 4 [zR X 0, .int station, .int what] h g (zI (o_Slots_awake h station what)) h g := by
  have hf0_1 := hf0.1
  refine zDi_of "PeriodSlots" prog_1_method_21_code 4 (some .int) rfl (by decide) [zO X 0, zI station, zI what, none] rfl (fun _ q => q) (Nat.le_of_ble_eq_true rfl) ?_
  intro Γ Q C hQ
  refine zr_aload_n C d_X6_awake_0 rfl ?_
  refine gf_Slots_1 C m228 d_X6_awake_1 ?_
  refine zr_iload_n C d_X6_awake_4 rfl ?_
  refine zr_callVi (As := [.int station]) (st := []) (c := 3) C (c_Mesh_exists X h g 3 station (by decide)) k_Mesh_exists m446 m359 m360 (by decide) (zC_Mesh (by decide) X _ _) rfl rfl (by decide) rfl (Nat.le_of_ble_eq_true rfl) d_X6_awake_5 ?_
  refine zr_ifz_ne C 13 d_X6_awake_8 (by decide) (fun c8 => ?_) (fun c8 => ?_)
  · have ex1 := zex c8
    have ex1_2 := ex1.2
    have ex1_b := (hf0).1
    refine zr_aload_n C d_X6_awake_13 rfl ?_
    refine gf_Slots_1 C m228 d_X6_awake_14 ?_
    refine zr_iload_n C d_X6_awake_17 rfl ?_
    refine zr_callVi (As := [.int station]) (st := []) (c := 3) C (c_Mesh_awakeTicks X h g 3 (zcn station) (zix ex1.1) (by decide) hf0 (by omega)) k_Mesh_awakeTicks m604 m605 m606 (by decide) (zC_Mesh (by decide) X _ _) rfl rfl (by decide) rfl (Nat.le_of_ble_eq_true rfl) d_X6_awake_18 ?_
    refine zr_istore_n C [zO X 0, zI station, zI what, zI (o_Mesh_awakeTicks h 3 (zcn station))] d_X6_awake_21 (Nat.le_of_ble_eq_true rfl) rfl rfl ?_
    refine zr_iload_n C d_X6_awake_22 rfl ?_
    by_cases c23_0 : what = 0
    · refine zr_tabIn C 52 (off := 29) d_X6_awake_23 (by rw [c23_0]; decide) (by rw [c23_0]; decide) (by rw [c23_0]; rfl) (by decide) ?_
      refine zr_iload_n C d_X6_awake_52 rfl ?_
      have eR : o_Slots_awake h station what = (o_Mesh_awakeTicks h 3 (zcn station)) := (by unfold o_Slots_awake; rw [if_pos c8, if_pos c23_0])
      subst hQ
      rw [eR]
      exact zr_ireti C d_X6_awake_53
    · by_cases c23_1 : what = 1
      · refine zr_tabIn C 54 (off := 31) d_X6_awake_23 (by rw [c23_1]; decide) (by rw [c23_1]; decide) (by rw [c23_1]; rfl) (by decide) ?_
        refine zr_iload_n C d_X6_awake_54 rfl ?_
        refine zr_callSi (As := [.int (o_Mesh_awakeTicks h 3 (zcn station))]) (st := []) C (c_Int_bitCount X h g (o_Mesh_awakeTicks h 3 (zcn station))) k_Int_bitCount m480 m349 rfl (by decide) rfl (Nat.le_of_ble_eq_true rfl) d_X6_awake_55 ?_
        have eR : o_Slots_awake h station what = (o_Int_bitCount (o_Mesh_awakeTicks h 3 (zcn station))) := (by unfold o_Slots_awake; rw [if_pos c8, if_neg c23_0, if_pos c23_1])
        subst hQ
        rw [eR]
        exact zr_ireti C d_X6_awake_58
      · by_cases c23_2 : what = 2
        · refine zr_tabIn C 59 (off := 36) d_X6_awake_23 (by rw [c23_2]; decide) (by rw [c23_2]; decide) (by rw [c23_2]; rfl) (by decide) ?_
          refine zr_iload_n C d_X6_awake_59 rfl ?_
          refine zr_iload_n C d_X6_awake_60 rfl ?_
          refine zr_callSi (As := [.int (o_Mesh_awakeTicks h 3 (zcn station))]) (st := [.int (o_Mesh_awakeTicks h 3 (zcn station))]) C (c_Slots_oneTickLater X h g (o_Mesh_awakeTicks h 3 (zcn station))) k_Slots_oneTickLater m608 m609 rfl (by decide) rfl (Nat.le_of_ble_eq_true rfl) d_X6_awake_61 ?_
          refine zr_iconst C (v := (-1)) d_X6_awake_64 (by decide) ?_
          refine zr_ixor C d_X6_awake_65 ?_
          refine zr_iand C d_X6_awake_66 ?_
          refine zr_callSi (As := [.int ((o_Mesh_awakeTicks h 3 (zcn station)) &&& ((o_Slots_oneTickLater (o_Mesh_awakeTicks h 3 (zcn station))) ^^^ (-1)))]) (st := []) C (c_Int_bitCount X h g ((o_Mesh_awakeTicks h 3 (zcn station)) &&& ((o_Slots_oneTickLater (o_Mesh_awakeTicks h 3 (zcn station))) ^^^ (-1)))) k_Int_bitCount m480 m349 rfl (by decide) rfl (Nat.le_of_ble_eq_true rfl) d_X6_awake_67 ?_
          have eR : o_Slots_awake h station what = (o_Int_bitCount ((o_Mesh_awakeTicks h 3 (zcn station)) &&& ((o_Slots_oneTickLater (o_Mesh_awakeTicks h 3 (zcn station))) ^^^ (-1)))) := (by unfold o_Slots_awake; rw [if_pos c8, if_neg c23_0, if_neg c23_1, if_pos c23_2])
          subst hQ
          rw [eR]
          exact zr_ireti C d_X6_awake_70
        · by_cases c23_3 : what = 3
          · refine zr_tabIn C 71 (off := 48) d_X6_awake_23 (by rw [c23_3]; decide) (by rw [c23_3]; decide) (by rw [c23_3]; rfl) (by decide) ?_
            refine zr_aload_n C d_X6_awake_71 rfl ?_
            refine gf_Slots_1 C m228 d_X6_awake_72 ?_
            refine zr_iload_n C d_X6_awake_75 rfl ?_
            refine zr_callVi (As := [.int station]) (st := []) (c := 3) C (c_Mesh_hearingTicks X h g 3 (zcn station) (zix ex1.1) (by decide) hf0 (by omega)) k_Mesh_hearingTicks m611 m612 m613 (by decide) (zC_Mesh (by decide) X _ _) rfl rfl (by decide) rfl (Nat.le_of_ble_eq_true rfl) d_X6_awake_76 ?_
            have eR : o_Slots_awake h station what = (o_Mesh_hearingTicks h 3 (zcn station)) := (by unfold o_Slots_awake; rw [if_pos c8, if_neg c23_0, if_neg c23_1, if_neg c23_2, if_pos c23_3])
            subst hQ
            rw [eR]
            exact zr_ireti C d_X6_awake_79
          · have w23_0 : (what : Int32).toInt ≠ 0 := zne_toInt c23_0 (by decide)
            have w23_1 : (what : Int32).toInt ≠ 1 := zne_toInt c23_1 (by decide)
            have w23_2 : (what : Int32).toInt ≠ 2 := zne_toInt c23_2 (by decide)
            have w23_3 : (what : Int32).toInt ≠ 3 := zne_toInt c23_3 (by decide)
            refine zr_tabOut C 80 d_X6_awake_23 (by omega) (by decide) ?_
            refine zr_bipush C (v := (-2)) d_X6_awake_80 (by decide) ?_
            have eR : o_Slots_awake h station what = (-2) := (by unfold o_Slots_awake; rw [if_pos c8, if_neg c23_0, if_neg c23_1, if_neg c23_2, if_neg c23_3])
            subst hQ
            rw [eR]
            exact zr_ireti C d_X6_awake_82
  · refine zr_iconst C (v := (-1)) d_X6_awake_11 (by decide) ?_
    have eR : o_Slots_awake h station what = (-1) := (by unfold o_Slots_awake; rw [if_neg (zbf c8)])
    subst hQ
    rw [eR]
    exact zr_ireti C d_X6_awake_12
theorem d_X6_arrives_0 : decode prog_1_method_23_code 0 = .ok (.aload_n 0, 1) := by decide +kernel
theorem d_X6_arrives_1 : decode prog_1_method_23_code 1 = .ok (.getfield 19, 3) := by decide +kernel
theorem d_X6_arrives_4 : decode prog_1_method_23_code 4 = .ok (.iload_n 1, 1) := by decide +kernel
theorem d_X6_arrives_5 : decode prog_1_method_23_code 5 = .ok (.invokevirtual 118, 3) := by decide +kernel
theorem d_X6_arrives_8 : decode prog_1_method_23_code 8 = .ok (.ifCond .eq 14, 3) := by decide +kernel
theorem d_X6_arrives_11 : decode prog_1_method_23_code 11 = .ok (.aload_n 0, 1) := by decide +kernel
theorem d_X6_arrives_12 : decode prog_1_method_23_code 12 = .ok (.getfield 19, 3) := by decide +kernel
theorem d_X6_arrives_15 : decode prog_1_method_23_code 15 = .ok (.iload_n 2, 1) := by decide +kernel
theorem d_X6_arrives_16 : decode prog_1_method_23_code 16 = .ok (.invokevirtual 118, 3) := by decide +kernel
theorem d_X6_arrives_19 : decode prog_1_method_23_code 19 = .ok (.ifCond .ne 5, 3) := by decide +kernel
theorem d_X6_arrives_22 : decode prog_1_method_23_code 22 = .ok (.iconst (-1), 1) := by decide +kernel
theorem d_X6_arrives_23 : decode prog_1_method_23_code 23 = .ok (.ireturn, 1) := by decide +kernel
theorem d_X6_arrives_24 : decode prog_1_method_23_code 24 = .ok (.iload_n 3, 1) := by decide +kernel
theorem d_X6_arrives_25 : decode prog_1_method_23_code 25 = .ok (.ifCond .lt 9, 3) := by decide +kernel
theorem d_X6_arrives_28 : decode prog_1_method_23_code 28 = .ok (.iload_n 3, 1) := by decide +kernel
theorem d_X6_arrives_29 : decode prog_1_method_23_code 29 = .ok (.bipush 8, 2) := by decide +kernel
theorem d_X6_arrives_31 : decode prog_1_method_23_code 31 = .ok (.if_icmp .lt 6, 3) := by decide +kernel
theorem d_X6_arrives_34 : decode prog_1_method_23_code 34 = .ok (.bipush (-2), 2) := by decide +kernel
theorem d_X6_arrives_36 : decode prog_1_method_23_code 36 = .ok (.ireturn, 1) := by decide +kernel
theorem d_X6_arrives_37 : decode prog_1_method_23_code 37 = .ok (.iconst 1, 1) := by decide +kernel
theorem d_X6_arrives_38 : decode prog_1_method_23_code 38 = .ok (.iload_n 1, 1) := by decide +kernel
theorem d_X6_arrives_39 : decode prog_1_method_23_code 39 = .ok (.ishl, 1) := by decide +kernel
theorem d_X6_arrives_40 : decode prog_1_method_23_code 40 = .ok (.istore 4, 2) := by decide +kernel
theorem d_X6_arrives_42 : decode prog_1_method_23_code 42 = .ok (.iconst 0, 1) := by decide +kernel
theorem d_X6_arrives_43 : decode prog_1_method_23_code 43 = .ok (.istore 5, 2) := by decide +kernel
theorem d_X6_arrives_45 : decode prog_1_method_23_code 45 = .ok (.iload 5, 2) := by decide +kernel
theorem d_X6_arrives_47 : decode prog_1_method_23_code 47 = .ok (.bipush 64, 2) := by decide +kernel
theorem d_X6_arrives_49 : decode prog_1_method_23_code 49 = .ok (.if_icmp .gt 42, 3) := by decide +kernel
theorem d_X6_arrives_52 : decode prog_1_method_23_code 52 = .ok (.iload 4, 2) := by decide +kernel
theorem d_X6_arrives_54 : decode prog_1_method_23_code 54 = .ok (.iload_n 2, 1) := by decide +kernel
theorem d_X6_arrives_55 : decode prog_1_method_23_code 55 = .ok (.invokestatic 172, 3) := by decide +kernel
theorem d_X6_arrives_58 : decode prog_1_method_23_code 58 = .ok (.ifCond .eq 6, 3) := by decide +kernel
theorem d_X6_arrives_61 : decode prog_1_method_23_code 61 = .ok (.iload 5, 2) := by decide +kernel
theorem d_X6_arrives_63 : decode prog_1_method_23_code 63 = .ok (.ireturn, 1) := by decide +kernel
theorem d_X6_arrives_64 : decode prog_1_method_23_code 64 = .ok (.iload 4, 2) := by decide +kernel
theorem d_X6_arrives_66 : decode prog_1_method_23_code 66 = .ok (.aload_n 0, 1) := by decide +kernel
theorem d_X6_arrives_67 : decode prog_1_method_23_code 67 = .ok (.getfield 19, 3) := by decide +kernel
theorem d_X6_arrives_70 : decode prog_1_method_23_code 70 = .ok (.iload 4, 2) := by decide +kernel
theorem d_X6_arrives_72 : decode prog_1_method_23_code 72 = .ok (.iload_n 3, 1) := by decide +kernel
theorem d_X6_arrives_73 : decode prog_1_method_23_code 73 = .ok (.iload 5, 2) := by decide +kernel
theorem d_X6_arrives_75 : decode prog_1_method_23_code 75 = .ok (.iadd, 1) := by decide +kernel
theorem d_X6_arrives_76 : decode prog_1_method_23_code 76 = .ok (.bipush 8, 2) := by decide +kernel
theorem d_X6_arrives_78 : decode prog_1_method_23_code 78 = .ok (.irem, 1) := by decide +kernel
theorem d_X6_arrives_79 : decode prog_1_method_23_code 79 = .ok (.invokevirtual 229, 3) := by decide +kernel
theorem d_X6_arrives_82 : decode prog_1_method_23_code 82 = .ok (.ior, 1) := by decide +kernel
theorem d_X6_arrives_83 : decode prog_1_method_23_code 83 = .ok (.istore 4, 2) := by decide +kernel
theorem d_X6_arrives_85 : decode prog_1_method_23_code 85 = .ok (.iinc 5 1, 3) := by decide +kernel
theorem d_X6_arrives_88 : decode prog_1_method_23_code 88 = .ok (.goto (-43), 3) := by decide +kernel
theorem d_X6_arrives_91 : decode prog_1_method_23_code 91 = .ok (.bipush (-9), 2) := by decide +kernel
theorem d_X6_arrives_93 : decode prog_1_method_23_code 93 = .ok (.ireturn, 1) := by decide +kernel
abbrev M_Slots_arrives : zMT := (⟨"PeriodSlots", "arrives", "(III)I"⟩, prog_1_method_23_code, 6, (some .int))
theorem k_Slots_arrives : zcall M_Slots_arrives 3 := ⟨zU_in (i := 626) (by decide +kernel) rfl, m54, ⟨by decide, by decide, by decide +kernel⟩, by decide⟩
def o_Slots_arrives (h : zHp) (from_ : Int32) (to : Int32) (t : Int32) : Int32 :=
  (if (o_Mesh_exists h 3 from_) = true then (if (o_Mesh_exists h 3 to) = true then (if t < 0 then (-2) else (if t < 8 then (Sum.elim (fun r45_4 => (-9)) (fun q45_4 => q45_4) (zrex (fun (i45_4 : Nat) (s45_4 : Int32) => ((if (o_Slots_has s45_4 to) = true then .inr (nI i45_4) else .inl (s45_4 ||| (o_Mesh_hearersOf h 3 s45_4 (zrem (t + (nI i45_4)) 8)))) : (Int32) ⊕ (Int32))) (zshl 1 from_) 65)) else (-2))) else (-1)) else (-1))
theorem rd_Slots_arrives {h h2 : zHp} {from_ : Int32} {to : Int32} {t : Int32} (e0 : h2 12 = h 12) (e1 : h2 3 0 = h 3 0) (e2 : h2 5 = h 5) : o_Slots_arrives h2 from_ to t = o_Slots_arrives h from_ to t := by
  unfold o_Slots_arrives
  simp only [e0, e1, e2, rd_Mesh_exists e1, rd_Mesh_hearersOf e2 e0 e1]

set_option maxHeartbeats 400000 in
set_option maxRecDepth 20000 in
theorem c_Slots_arrives (X : zXT) (h : zHp) (g : zLg) (from_ : Int32) (to : Int32) (t : Int32) (hf0 : zfit h 3 0 8) : zDi X M_Slots_arrives 4 [zR X 0, .int from_, .int to, .int t] h g (zI (o_Slots_arrives h from_ to t)) h g := by
  have hf0_1 := hf0.1
  refine zDi_of "PeriodSlots" prog_1_method_23_code 6 (some .int) rfl (by decide) [zO X 0, zI from_, zI to, zI t, none, none] rfl (fun _ q => q) (Nat.le_of_ble_eq_true rfl) ?_
  intro Γ Q C hQ
  refine zr_aload_n C d_X6_arrives_0 rfl ?_
  refine gf_Slots_1 C m228 d_X6_arrives_1 ?_
  refine zr_iload_n C d_X6_arrives_4 rfl ?_
  refine zr_callVi (As := [.int from_]) (st := []) (c := 3) C (c_Mesh_exists X h g 3 from_ (by decide)) k_Mesh_exists m446 m359 m360 (by decide) (zC_Mesh (by decide) X _ _) rfl rfl (by decide) rfl (Nat.le_of_ble_eq_true rfl) d_X6_arrives_5 ?_
  refine zr_ifz_eq C 22 d_X6_arrives_8 (by decide) (fun c8 => ?_) (fun c8 => ?_)
  · refine zr_iconst C (v := (-1)) d_X6_arrives_22 (by decide) ?_
    have eR : o_Slots_arrives h from_ to t = (-1) := (by unfold o_Slots_arrives; rw [if_neg (zbf c8)])
    subst hQ
    rw [eR]
    exact zr_ireti C d_X6_arrives_23
  · have ex1 := zex c8
    have ex1_2 := ex1.2
    have ex1_b := (hf0).1
    refine zr_aload_n C d_X6_arrives_11 rfl ?_
    refine gf_Slots_1 C m228 d_X6_arrives_12 ?_
    refine zr_iload_n C d_X6_arrives_15 rfl ?_
    refine zr_callVi (As := [.int to]) (st := []) (c := 3) C (c_Mesh_exists X h g 3 to (by decide)) k_Mesh_exists m446 m359 m360 (by decide) (zC_Mesh (by decide) X _ _) rfl rfl (by decide) rfl (Nat.le_of_ble_eq_true rfl) d_X6_arrives_16 ?_
    refine zr_ifz_ne C 24 d_X6_arrives_19 (by decide) (fun c19 => ?_) (fun c19 => ?_)
    · have ex2 := zex c19
      have ex2_2 := ex2.2
      have ex2_b := (hf0).1
      refine zr_iload_n C d_X6_arrives_24 rfl ?_
      refine zr_if_lt C 34 d_X6_arrives_25 (by decide) (fun c25 => ?_) (fun c25 => ?_)
      · refine zr_bipush C (v := (-2)) d_X6_arrives_34 (by decide) ?_
        have eR : o_Slots_arrives h from_ to t = (-2) := (by unfold o_Slots_arrives; rw [if_pos c8, if_pos c19, if_pos c25])
        subst hQ
        rw [eR]
        exact zr_ireti C d_X6_arrives_36
      · refine zr_iload_n C d_X6_arrives_28 rfl ?_
        refine zr_bipush C (v := 8) d_X6_arrives_29 (by decide) ?_
        refine zr_icmp_lt C 37 d_X6_arrives_31 (by decide) (fun c31 => ?_) (fun c31 => ?_)
        · have en3 := zn_lt (a := zcn t) (b := 8) (zix c25) rfl c31 (zcn_small _) (by decide)
          refine zr_iconst C (v := 1) d_X6_arrives_37 (by decide) ?_
          refine zr_iload_n C d_X6_arrives_38 rfl ?_
          refine zr_ishl C d_X6_arrives_39 ?_
          refine zr_istore C [zO X 0, zI from_, zI to, zI t, zI (zshl 1 from_), none] d_X6_arrives_40 (Nat.le_of_ble_eq_true rfl) rfl rfl ?_
          refine zr_iconst C (v := 0) d_X6_arrives_42 (by decide) ?_
          refine zr_istore C [zO X 0, zI from_, zI to, zI t, zI (zshl 1 from_), zI 0] d_X6_arrives_43 (Nat.le_of_ble_eq_true rfl) rfl rfl ?_
          refine zr_lv [zO X 0, none, zI to, zI t, zI (zshl 1 from_), zI 0] (by simp [zle]) ?_
          refine zforx (f := (fun (i45_4 : Nat) (s45_4 : Int32) => ((if (o_Slots_has s45_4 to) = true then .inr (nI i45_4) else .inl (s45_4 ||| (o_Mesh_hearersOf h 3 s45_4 (zrem (t + (nI i45_4)) 8)))) : (Int32) ⊕ (Int32)))) (a := (zshl 1 from_)) (fun i45_4 s45_4 => zV X Γ Q 45 [zO X 0, none, zI to, zI t, zI s45_4, zI (nI i45_4)] [] h g) (fun _ _ => True) (65) trivial (fun i45_4 s45_4 hi45_4 hI45_4 => ⟨(fun _ _ => trivial), fun hk45_4 hx45_4 => ?_⟩) (fun r45_4 er45_4 hI45_4 => ?_)
          · refine zr_iload C d_X6_arrives_45 rfl ?_
            refine zr_bipush C (v := 64) d_X6_arrives_47 (by decide) ?_
            refine zr_icmp_gt C 91 d_X6_arrives_49 (by decide) (fun c => absurd c (zgt_noN (B := 64) rfl (by omega) (by omega))) (fun _ => ?_)
            refine zr_iload C d_X6_arrives_52 rfl ?_
            refine zr_iload_n C d_X6_arrives_54 rfl ?_
            refine zr_callSi (As := [.int s45_4, .int to]) (st := []) C (c_Slots_has X h g s45_4 to) k_Slots_has m491 m322 rfl (by decide) rfl (Nat.le_of_ble_eq_true rfl) d_X6_arrives_55 ?_
            refine zr_ifz_eq C 64 d_X6_arrives_58 (by decide) (fun c58 => ?_) (fun c58 => ?_)
            · refine zr_iload C d_X6_arrives_64 rfl ?_
              refine zr_aload_n C d_X6_arrives_66 rfl ?_
              refine gf_Slots_1 C m228 d_X6_arrives_67 ?_
              refine zr_iload C d_X6_arrives_70 rfl ?_
              refine zr_iload_n C d_X6_arrives_72 rfl ?_
              refine zr_iload C d_X6_arrives_73 rfl ?_
              refine zr_iadd C d_X6_arrives_75 ?_
              refine zr_bipush C (v := 8) d_X6_arrives_76 (by decide) ?_
              refine zr_irem C d_X6_arrives_78 (by decide) ?_
              refine zr_callVi (As := [.int s45_4, .int (zrem (t + (nI i45_4)) 8)]) (st := [.int s45_4]) (c := 3) C (c_Mesh_hearersOf X h g 3 s45_4 (zrem (t + (nI i45_4)) 8) (by decide) hf0) k_Mesh_hearersOf m627 m628 m629 (by decide) (zC_Mesh (by decide) X _ _) rfl rfl (by decide) rfl (Nat.le_of_ble_eq_true rfl) d_X6_arrives_79 ?_
              refine zr_ior C d_X6_arrives_82 ?_
              refine zr_istore C [zO X 0, none, zI to, zI t, zI (s45_4 ||| (o_Mesh_hearersOf h 3 s45_4 (zrem (t + (nI i45_4)) 8))), zI (nI i45_4)] d_X6_arrives_83 (Nat.le_of_ble_eq_true rfl) rfl rfl ?_
              refine zr_iinc C [zO X 0, none, zI to, zI t, zI (s45_4 ||| (o_Mesh_hearersOf h 3 s45_4 (zrem (t + (nI i45_4)) 8))), zI (nI (i45_4 + 1))] (v := (nI (i45_4 + 1))) d_X6_arrives_85 rfl (zn_add rfl rfl) (Nat.le_of_ble_eq_true rfl) rfl rfl ?_
              refine zr_goto C 45 d_X6_arrives_88 (by decide) ?_
              exact hk45_4 (s45_4 ||| (o_Mesh_hearersOf h 3 s45_4 (zrem (t + (nI i45_4)) 8))) ((if_neg (zbf c58)))
            · refine zr_iload C d_X6_arrives_61 rfl ?_
              have hr45_4 := hx45_4 ((nI i45_4)) (((if_pos c58)))
              have eR : o_Slots_arrives h from_ to t = (nI i45_4) := (by unfold o_Slots_arrives; exact ((if_pos c8).trans ((if_pos c19).trans ((if_neg c25).trans ((if_pos c31).trans ((congrArg (Sum.elim _ _) hr45_4)))))))
              subst hQ
              rw [eR]
              exact zr_ireti C d_X6_arrives_63
          refine zr_iload C d_X6_arrives_45 rfl ?_
          refine zr_bipush C (v := 64) d_X6_arrives_47 (by decide) ?_
          refine zr_icmp_gt C 91 d_X6_arrives_49 (by decide) (fun _ => ?_) (fun c => absurd (zgt_yesN (B := 64) rfl (by omega) (by omega)) c)
          refine zr_bipush C (v := (-9)) d_X6_arrives_91 (by decide) ?_
          have eR : o_Slots_arrives h from_ to t = (-9) := (by unfold o_Slots_arrives; exact ((if_pos c8).trans ((if_pos c19).trans ((if_neg c25).trans ((if_pos c31).trans ((congrArg (Sum.elim _ _) er45_4)))))))
          subst hQ
          rw [eR]
          exact zr_ireti C d_X6_arrives_93
        · have en5 := zn_nlt (a := zcn t) (b := 8) (zix c25) rfl c31 (zcn_small _) (by decide)
          refine zr_bipush C (v := (-2)) d_X6_arrives_34 (by decide) ?_
          have eR : o_Slots_arrives h from_ to t = (-2) := (by unfold o_Slots_arrives; rw [if_pos c8, if_pos c19, if_neg c25, if_neg c31])
          subst hQ
          rw [eR]
          exact zr_ireti C d_X6_arrives_36
    · refine zr_iconst C (v := (-1)) d_X6_arrives_22 (by decide) ?_
      have eR : o_Slots_arrives h from_ to t = (-1) := (by unfold o_Slots_arrives; rw [if_pos c8, if_neg (zbf c19)])
      subst hQ
      rw [eR]
      exact zr_ireti C d_X6_arrives_23
theorem d_X6_turnsDraft_0 : decode prog_1_method_26_code 0 = .ok (.aload_n 0, 1) := by decide +kernel
theorem d_X6_turnsDraft_1 : decode prog_1_method_26_code 1 = .ok (.getfield 23, 3) := by decide +kernel
theorem d_X6_turnsDraft_4 : decode prog_1_method_26_code 4 = .ok (.iload_n 1, 1) := by decide +kernel
theorem d_X6_turnsDraft_5 : decode prog_1_method_26_code 5 = .ok (.iload_n 2, 1) := by decide +kernel
theorem d_X6_turnsDraft_6 : decode prog_1_method_26_code 6 = .ok (.invokevirtual 164, 3) := by decide +kernel
theorem d_X6_turnsDraft_9 : decode prog_1_method_26_code 9 = .ok (.ifCond .ne 7, 3) := by decide +kernel
theorem d_X6_turnsDraft_12 : decode prog_1_method_26_code 12 = .ok (.iconst 1, 1) := by decide +kernel
theorem d_X6_turnsDraft_13 : decode prog_1_method_26_code 13 = .ok (.goto 4, 3) := by decide +kernel
theorem d_X6_turnsDraft_16 : decode prog_1_method_26_code 16 = .ok (.iconst 0, 1) := by decide +kernel
theorem d_X6_turnsDraft_17 : decode prog_1_method_26_code 17 = .ok (.istore_n 3, 1) := by decide +kernel
theorem d_X6_turnsDraft_18 : decode prog_1_method_26_code 18 = .ok (.iload_n 3, 1) := by decide +kernel
theorem d_X6_turnsDraft_19 : decode prog_1_method_26_code 19 = .ok (.ifCond .eq 12, 3) := by decide +kernel
theorem d_X6_turnsDraft_22 : decode prog_1_method_26_code 22 = .ok (.aload_n 0, 1) := by decide +kernel
theorem d_X6_turnsDraft_23 : decode prog_1_method_26_code 23 = .ok (.getfield 23, 3) := by decide +kernel
theorem d_X6_turnsDraft_26 : decode prog_1_method_26_code 26 = .ok (.iload_n 1, 1) := by decide +kernel
theorem d_X6_turnsDraft_27 : decode prog_1_method_26_code 27 = .ok (.iload_n 2, 1) := by decide +kernel
theorem d_X6_turnsDraft_28 : decode prog_1_method_26_code 28 = .ok (.invokevirtual 168, 3) := by decide +kernel
theorem d_X6_turnsDraft_31 : decode prog_1_method_26_code 31 = .ok (.iload_n 3, 1) := by decide +kernel
theorem d_X6_turnsDraft_32 : decode prog_1_method_26_code 32 = .ok (.ireturn, 1) := by decide +kernel
abbrev M_Slots_turnsDraft : zMT := (⟨"PeriodSlots", "turnsDraft", "(II)Z"⟩, prog_1_method_26_code, 4, (some .boolean))
theorem k_Slots_turnsDraft : zcall M_Slots_turnsDraft 2 := ⟨zU_in (i := 643) (by decide +kernel) rfl, m54, ⟨by decide, by decide, by decide +kernel⟩, by decide⟩
def o_Slots_turnsDraft (h : zHp) (i : Int32) (j : Int32) : Bool × zHp :=
  ((decide ((o_Mesh_pairError h 15 i j) = 0)), (if (decide ((o_Mesh_pairError h 15 i j) = 0)) = true then (o_Mesh_flipLink h 15 (zcn i) (zcn j)) else h))
theorem fr_Slots_turnsDraft {h : zHp} {i : Int32} {j : Int32} (c k : Nat) (q0 : c ≠ 17) (q1 : c ≠ 19) (q2 : c ≠ 21) (q3 : c ≠ 22) (q4 : c ≠ 23) (q5 : c ≠ 24) (q6 : c ≠ 25) : (o_Slots_turnsDraft h i j).2 c k = h c k := by
  unfold o_Slots_turnsDraft
  try dsimp only
  first | done | exact (zite_fr (fun _ => (fr_Mesh_flipLink _ _ (by assumption) (by assumption) (by assumption) (by assumption) (by assumption) (by assumption) (by assumption))) (fun _ => rfl))
set_option maxHeartbeats 400000 in
set_option maxRecDepth 20000 in
theorem c_Slots_turnsDraft (X : zXT) (h : zHp) (g : zLg) (i : Int32) (j : Int32) (hf0 : zfit h 15 0 8) : zDi X M_Slots_turnsDraft 4 [zR X 0, .int i, .int j] h g (zI (zb ((o_Slots_turnsDraft h i j).1))) ((o_Slots_turnsDraft h i j).2) g := by
  have hf0_1 := hf0.1
  refine zDi_of "PeriodSlots" prog_1_method_26_code 4 (some .boolean) rfl (by decide) [zO X 0, zI i, zI j, none] rfl (fun _ q => q) (Nat.le_of_ble_eq_true rfl) ?_
  intro Γ Q C hQ
  refine zr_aload_n C d_X6_turnsDraft_0 rfl ?_
  refine gf_Slots_2 C m229 d_X6_turnsDraft_1 ?_
  refine zr_iload_n C d_X6_turnsDraft_4 rfl ?_
  refine zr_iload_n C d_X6_turnsDraft_5 rfl ?_
  refine zr_callVi (As := [.int i, .int j]) (st := []) (c := 15) C (c_Mesh_pairError X h g 15 i j (by decide)) k_Mesh_pairError m485 m486 m487 (by decide) (zC_Mesh (by decide) X _ _) rfl rfl (by decide) rfl (Nat.le_of_ble_eq_true rfl) d_X6_turnsDraft_6 ?_
  suffices hJ9 : ∀ (y2 : Bool), (decide ((o_Mesh_pairError h 15 i j) = 0)) = y2 → zV X Γ Q 17 [zO X 0, zI i, zI j, none] [.int (zb y2)] h g by
    refine zr_if_ne C 16 d_X6_turnsDraft_9 (by decide) (fun c9 => ?_) (fun c9 => ?_)
    · refine zr_iconst C (v := 0) d_X6_turnsDraft_16 (by decide) ?_
      exact hJ9 false (by simp [c9])
    · have ex1 := zpair c9
      have ex1_2 := ex1.1.2
      have ex1_3 := ex1.2.1.2
      have ex1_b := (hf0).1
      refine zr_iconst C (v := 1) d_X6_turnsDraft_12 (by decide) ?_
      refine zr_goto C 17 d_X6_turnsDraft_13 (by decide) ?_
      exact hJ9 true (by simp [c9])
  intro y2 ey2
  refine zr_istore_n C [zO X 0, zI i, zI j, zI (zb y2)] d_X6_turnsDraft_17 (Nat.le_of_ble_eq_true rfl) rfl rfl ?_
  refine zr_iload_n C d_X6_turnsDraft_18 rfl ?_
  suffices hJ19 : ∀ (h5 : zHp), (if y2 = true then (o_Mesh_flipLink h 15 (zcn i) (zcn j)) else h) = h5 → zV X Γ Q 31 [none, none, none, zI (zb y2)] [] h5 g by
    refine zr_ifz_eq C 31 d_X6_turnsDraft_19 (by decide) (fun c19 => ?_) (fun c19 => ?_)
    · refine zr_lv [none, none, none, zI (zb y2)] (by simp [zle]) ?_
      exact hJ19 h (((if_neg (zbf c19))))
    · have ex3 := zpair (of_decide_eq_true (ey2.trans c19))
      have ex3_2 := ex3.1.2
      have ex3_3 := ex3.2.1.2
      have ex3_b := (hf0).1
      refine zr_aload_n C d_X6_turnsDraft_22 rfl ?_
      refine gf_Slots_2 C m229 d_X6_turnsDraft_23 ?_
      refine zr_iload_n C d_X6_turnsDraft_26 rfl ?_
      refine zr_iload_n C d_X6_turnsDraft_27 rfl ?_
      refine zr_callVv (As := [.int i, .int j]) (st := []) (c := 15) C (c_Mesh_flipLink X h g 15 (zcn i) (zcn j) (zix ex3.1.1) (zix ex3.2.1.1) (by decide) hf0 (by omega) (by omega)) k_Mesh_flipLink m490 m368 m369 (by decide) (zC_Mesh (by decide) X _ _) rfl rfl (by decide) rfl (Nat.le_of_ble_eq_true rfl) d_X6_turnsDraft_28 ?_
      refine zr_h (fun h4 eh4 => ?_)
      refine zr_lv [none, none, none, zI (zb y2)] (by simp [zle]) ?_
      exact hJ19 h4 (by subst eh4; exact ((if_pos c19)))
  intro h5 eh5
  refine zr_iload_n C d_X6_turnsDraft_31 rfl ?_
  have eR : o_Slots_turnsDraft h i j = (y2, h5) := (by subst eh5 ey2; unfold o_Slots_turnsDraft; exact rfl)
  subst hQ
  exact zTQ_Zh eR (zr_iretz C (zb_01 _) d_X6_turnsDraft_32)
theorem d_X6_laysDraft_0 : decode prog_1_method_27_code 0 = .ok (.aload_n 0, 1) := by decide +kernel
theorem d_X6_laysDraft_1 : decode prog_1_method_27_code 1 = .ok (.getfield 23, 3) := by decide +kernel
theorem d_X6_laysDraft_4 : decode prog_1_method_27_code 4 = .ok (.iload_n 1, 1) := by decide +kernel
theorem d_X6_laysDraft_5 : decode prog_1_method_27_code 5 = .ok (.iload_n 2, 1) := by decide +kernel
theorem d_X6_laysDraft_6 : decode prog_1_method_27_code 6 = .ok (.invokevirtual 176, 3) := by decide +kernel
theorem d_X6_laysDraft_9 : decode prog_1_method_27_code 9 = .ok (.ifCond .ne 7, 3) := by decide +kernel
theorem d_X6_laysDraft_12 : decode prog_1_method_27_code 12 = .ok (.iconst 1, 1) := by decide +kernel
theorem d_X6_laysDraft_13 : decode prog_1_method_27_code 13 = .ok (.goto 4, 3) := by decide +kernel
theorem d_X6_laysDraft_16 : decode prog_1_method_27_code 16 = .ok (.iconst 0, 1) := by decide +kernel
theorem d_X6_laysDraft_17 : decode prog_1_method_27_code 17 = .ok (.istore_n 3, 1) := by decide +kernel
theorem d_X6_laysDraft_18 : decode prog_1_method_27_code 18 = .ok (.iload_n 3, 1) := by decide +kernel
theorem d_X6_laysDraft_19 : decode prog_1_method_27_code 19 = .ok (.ifCond .eq 12, 3) := by decide +kernel
theorem d_X6_laysDraft_22 : decode prog_1_method_27_code 22 = .ok (.aload_n 0, 1) := by decide +kernel
theorem d_X6_laysDraft_23 : decode prog_1_method_27_code 23 = .ok (.getfield 23, 3) := by decide +kernel
theorem d_X6_laysDraft_26 : decode prog_1_method_27_code 26 = .ok (.iload_n 1, 1) := by decide +kernel
theorem d_X6_laysDraft_27 : decode prog_1_method_27_code 27 = .ok (.iload_n 2, 1) := by decide +kernel
theorem d_X6_laysDraft_28 : decode prog_1_method_27_code 28 = .ok (.invokevirtual 179, 3) := by decide +kernel
theorem d_X6_laysDraft_31 : decode prog_1_method_27_code 31 = .ok (.iload_n 3, 1) := by decide +kernel
theorem d_X6_laysDraft_32 : decode prog_1_method_27_code 32 = .ok (.ireturn, 1) := by decide +kernel
abbrev M_Slots_laysDraft : zMT := (⟨"PeriodSlots", "laysDraft", "(II)Z"⟩, prog_1_method_27_code, 4, (some .boolean))
theorem k_Slots_laysDraft : zcall M_Slots_laysDraft 2 := ⟨zU_in (i := 647) (by decide +kernel) rfl, m54, ⟨by decide, by decide, by decide +kernel⟩, by decide⟩
def o_Slots_laysDraft (h : zHp) (station : Int32) (offset : Int32) : Bool × zHp :=
  ((decide ((o_Mesh_offsetError h 15 station offset) = 0)), (if (decide ((o_Mesh_offsetError h 15 station offset) = 0)) = true then (o_Mesh_place h 15 (zcn station) offset) else h))
theorem fr_Slots_laysDraft {h : zHp} {station : Int32} {offset : Int32} (c k : Nat) (q0 : c ≠ 18) (q1 : c ≠ 19) (q2 : c ≠ 24) (q3 : c ≠ 25) : (o_Slots_laysDraft h station offset).2 c k = h c k := by
  unfold o_Slots_laysDraft
  try dsimp only
  first | done | exact (zite_fr (fun _ => (fr_Mesh_place _ _ (by assumption) (by assumption) (by assumption) (by assumption))) (fun _ => rfl))
set_option maxHeartbeats 400000 in
set_option maxRecDepth 20000 in
theorem c_Slots_laysDraft (X : zXT) (h : zHp) (g : zLg) (station : Int32) (offset : Int32) (hf0 : zfit h 15 0 8) : zDi X M_Slots_laysDraft 4 [zR X 0, .int station, .int offset] h g (zI (zb ((o_Slots_laysDraft h station offset).1))) ((o_Slots_laysDraft h station offset).2) g := by
  have hf0_1 := hf0.1
  refine zDi_of "PeriodSlots" prog_1_method_27_code 4 (some .boolean) rfl (by decide) [zO X 0, zI station, zI offset, none] rfl (fun _ q => q) (Nat.le_of_ble_eq_true rfl) ?_
  intro Γ Q C hQ
  refine zr_aload_n C d_X6_laysDraft_0 rfl ?_
  refine gf_Slots_2 C m229 d_X6_laysDraft_1 ?_
  refine zr_iload_n C d_X6_laysDraft_4 rfl ?_
  refine zr_iload_n C d_X6_laysDraft_5 rfl ?_
  refine zr_callVi (As := [.int station, .int offset]) (st := []) (c := 15) C (c_Mesh_offsetError X h g 15 station offset (by decide) hf0) k_Mesh_offsetError m496 m497 m498 (by decide) (zC_Mesh (by decide) X _ _) rfl rfl (by decide) rfl (Nat.le_of_ble_eq_true rfl) d_X6_laysDraft_6 ?_
  suffices hJ9 : ∀ (y2 : Bool), (decide ((o_Mesh_offsetError h 15 station offset) = 0)) = y2 → zV X Γ Q 17 [zO X 0, zI station, zI offset, none] [.int (zb y2)] h g by
    refine zr_if_ne C 16 d_X6_laysDraft_9 (by decide) (fun c9 => ?_) (fun c9 => ?_)
    · refine zr_iconst C (v := 0) d_X6_laysDraft_16 (by decide) ?_
      exact hJ9 false (by simp [c9])
    · have ex1 := zoffE c9
      have ex1_2 := ex1.2
      have ex1_b := (hf0).1
      refine zr_iconst C (v := 1) d_X6_laysDraft_12 (by decide) ?_
      refine zr_goto C 17 d_X6_laysDraft_13 (by decide) ?_
      exact hJ9 true (by simp [c9])
  intro y2 ey2
  refine zr_istore_n C [zO X 0, zI station, zI offset, zI (zb y2)] d_X6_laysDraft_17 (Nat.le_of_ble_eq_true rfl) rfl rfl ?_
  refine zr_iload_n C d_X6_laysDraft_18 rfl ?_
  suffices hJ19 : ∀ (h5 : zHp), (if y2 = true then (o_Mesh_place h 15 (zcn station) offset) else h) = h5 → zV X Γ Q 31 [none, none, none, zI (zb y2)] [] h5 g by
    refine zr_ifz_eq C 31 d_X6_laysDraft_19 (by decide) (fun c19 => ?_) (fun c19 => ?_)
    · refine zr_lv [none, none, none, zI (zb y2)] (by simp [zle]) ?_
      exact hJ19 h (((if_neg (zbf c19))))
    · have ex3 := zoffE (of_decide_eq_true (ey2.trans c19))
      have ex3_2 := ex3.2
      have ex3_b := (hf0).1
      refine zr_aload_n C d_X6_laysDraft_22 rfl ?_
      refine gf_Slots_2 C m229 d_X6_laysDraft_23 ?_
      refine zr_iload_n C d_X6_laysDraft_26 rfl ?_
      refine zr_iload_n C d_X6_laysDraft_27 rfl ?_
      refine zr_callVv (As := [.int station, .int offset]) (st := []) (c := 15) C (c_Mesh_place X h g 15 (zcn station) offset (zix ex3.1) (by decide) hf0 (by omega)) k_Mesh_place m500 m501 m502 (by decide) (zC_Mesh (by decide) X _ _) rfl rfl (by decide) rfl (Nat.le_of_ble_eq_true rfl) d_X6_laysDraft_28 ?_
      refine zr_h (fun h4 eh4 => ?_)
      refine zr_lv [none, none, none, zI (zb y2)] (by simp [zle]) ?_
      exact hJ19 h4 (by subst eh4; exact ((if_pos c19)))
  intro h5 eh5
  refine zr_iload_n C d_X6_laysDraft_31 rfl ?_
  have eR : o_Slots_laysDraft h station offset = (y2, h5) := (by subst eh5 ey2; unfold o_Slots_laysDraft; exact rfl)
  subst hQ
  exact zTQ_Zh eR (zr_iretz C (zb_01 _) d_X6_laysDraft_32)
theorem d_X6_shiftsDraft_0 : decode prog_1_method_28_code 0 = .ok (.aload_n 0, 1) := by decide +kernel
theorem d_X6_shiftsDraft_1 : decode prog_1_method_28_code 1 = .ok (.getfield 23, 3) := by decide +kernel
theorem d_X6_shiftsDraft_4 : decode prog_1_method_28_code 4 = .ok (.iload_n 1, 1) := by decide +kernel
theorem d_X6_shiftsDraft_5 : decode prog_1_method_28_code 5 = .ok (.iload_n 2, 1) := by decide +kernel
theorem d_X6_shiftsDraft_6 : decode prog_1_method_28_code 6 = .ok (.invokevirtual 182, 3) := by decide +kernel
theorem d_X6_shiftsDraft_9 : decode prog_1_method_28_code 9 = .ok (.ifCond .ne 7, 3) := by decide +kernel
theorem d_X6_shiftsDraft_12 : decode prog_1_method_28_code 12 = .ok (.iconst 1, 1) := by decide +kernel
theorem d_X6_shiftsDraft_13 : decode prog_1_method_28_code 13 = .ok (.goto 4, 3) := by decide +kernel
theorem d_X6_shiftsDraft_16 : decode prog_1_method_28_code 16 = .ok (.iconst 0, 1) := by decide +kernel
theorem d_X6_shiftsDraft_17 : decode prog_1_method_28_code 17 = .ok (.istore_n 3, 1) := by decide +kernel
theorem d_X6_shiftsDraft_18 : decode prog_1_method_28_code 18 = .ok (.iload_n 3, 1) := by decide +kernel
theorem d_X6_shiftsDraft_19 : decode prog_1_method_28_code 19 = .ok (.ifCond .eq 19, 3) := by decide +kernel
theorem d_X6_shiftsDraft_22 : decode prog_1_method_28_code 22 = .ok (.aload_n 0, 1) := by decide +kernel
theorem d_X6_shiftsDraft_23 : decode prog_1_method_28_code 23 = .ok (.getfield 23, 3) := by decide +kernel
theorem d_X6_shiftsDraft_26 : decode prog_1_method_28_code 26 = .ok (.aload_n 0, 1) := by decide +kernel
theorem d_X6_shiftsDraft_27 : decode prog_1_method_28_code 27 = .ok (.getfield 23, 3) := by decide +kernel
theorem d_X6_shiftsDraft_30 : decode prog_1_method_28_code 30 = .ok (.iload_n 1, 1) := by decide +kernel
theorem d_X6_shiftsDraft_31 : decode prog_1_method_28_code 31 = .ok (.invokevirtual 150, 3) := by decide +kernel
theorem d_X6_shiftsDraft_34 : decode prog_1_method_28_code 34 = .ok (.iload_n 2, 1) := by decide +kernel
theorem d_X6_shiftsDraft_35 : decode prog_1_method_28_code 35 = .ok (.invokevirtual 185, 3) := by decide +kernel
theorem d_X6_shiftsDraft_38 : decode prog_1_method_28_code 38 = .ok (.iload_n 3, 1) := by decide +kernel
theorem d_X6_shiftsDraft_39 : decode prog_1_method_28_code 39 = .ok (.ireturn, 1) := by decide +kernel
abbrev M_Slots_shiftsDraft : zMT := (⟨"PeriodSlots", "shiftsDraft", "(II)Z"⟩, prog_1_method_28_code, 4, (some .boolean))
theorem k_Slots_shiftsDraft : zcall M_Slots_shiftsDraft 2 := ⟨zU_in (i := 651) (by decide +kernel) rfl, m54, ⟨by decide, by decide, by decide +kernel⟩, by decide⟩
def o_Slots_shiftsDraft (h : zHp) (station : Int32) (d : Int32) : Bool × zHp :=
  ((decide ((o_Mesh_distanceError h 15 station d) = 0)), (if (decide ((o_Mesh_distanceError h 15 station d) = 0)) = true then (o_Mesh_moveAll h 15 (o_Mesh_netOf h 15 station) d) else h))
theorem fr_Slots_shiftsDraft {h : zHp} {station : Int32} {d : Int32} (c k : Nat) (q0 : c ≠ 18) (q1 : c ≠ 19) (q2 : c ≠ 24) (q3 : c ≠ 25) : (o_Slots_shiftsDraft h station d).2 c k = h c k := by
  unfold o_Slots_shiftsDraft
  try dsimp only
  first | done | exact (zite_fr (fun _ => (fr_Mesh_moveAll _ _ (by assumption) (by assumption) (by assumption) (by assumption))) (fun _ => rfl))
set_option maxHeartbeats 400000 in
set_option maxRecDepth 20000 in
theorem c_Slots_shiftsDraft (X : zXT) (h : zHp) (g : zLg) (station : Int32) (d : Int32) (hf0 : zfit h 15 0 8) : zDi X M_Slots_shiftsDraft 4 [zR X 0, .int station, .int d] h g (zI (zb ((o_Slots_shiftsDraft h station d).1))) ((o_Slots_shiftsDraft h station d).2) g := by
  have hf0_1 := hf0.1
  refine zDi_of "PeriodSlots" prog_1_method_28_code 4 (some .boolean) rfl (by decide) [zO X 0, zI station, zI d, none] rfl (fun _ q => q) (Nat.le_of_ble_eq_true rfl) ?_
  intro Γ Q C hQ
  refine zr_aload_n C d_X6_shiftsDraft_0 rfl ?_
  refine gf_Slots_2 C m229 d_X6_shiftsDraft_1 ?_
  refine zr_iload_n C d_X6_shiftsDraft_4 rfl ?_
  refine zr_iload_n C d_X6_shiftsDraft_5 rfl ?_
  refine zr_callVi (As := [.int station, .int d]) (st := []) (c := 15) C (c_Mesh_distanceError X h g 15 station d (by decide)) k_Mesh_distanceError m508 m509 m510 (by decide) (zC_Mesh (by decide) X _ _) rfl rfl (by decide) rfl (Nat.le_of_ble_eq_true rfl) d_X6_shiftsDraft_6 ?_
  suffices hJ9 : ∀ (y2 : Bool), (decide ((o_Mesh_distanceError h 15 station d) = 0)) = y2 → zV X Γ Q 17 [zO X 0, zI station, zI d, none] [.int (zb y2)] h g by
    refine zr_if_ne C 16 d_X6_shiftsDraft_9 (by decide) (fun c9 => ?_) (fun c9 => ?_)
    · refine zr_iconst C (v := 0) d_X6_shiftsDraft_16 (by decide) ?_
      exact hJ9 false (by simp [c9])
    · have ex1 := zdistE c9
      have ex1_2 := ex1.2
      have ex1_b := (hf0).1
      refine zr_iconst C (v := 1) d_X6_shiftsDraft_12 (by decide) ?_
      refine zr_goto C 17 d_X6_shiftsDraft_13 (by decide) ?_
      exact hJ9 true (by simp [c9])
  intro y2 ey2
  refine zr_istore_n C [zO X 0, zI station, zI d, zI (zb y2)] d_X6_shiftsDraft_17 (Nat.le_of_ble_eq_true rfl) rfl rfl ?_
  refine zr_iload_n C d_X6_shiftsDraft_18 rfl ?_
  suffices hJ19 : ∀ (h5 : zHp), (if y2 = true then (o_Mesh_moveAll h 15 (o_Mesh_netOf h 15 station) d) else h) = h5 → zV X Γ Q 38 [none, none, none, zI (zb y2)] [] h5 g by
    refine zr_ifz_eq C 38 d_X6_shiftsDraft_19 (by decide) (fun c19 => ?_) (fun c19 => ?_)
    · refine zr_lv [none, none, none, zI (zb y2)] (by simp [zle]) ?_
      exact hJ19 h (((if_neg (zbf c19))))
    · have ex3 := zdistE (of_decide_eq_true (ey2.trans c19))
      have ex3_2 := ex3.2
      have ex3_b := (hf0).1
      refine zr_aload_n C d_X6_shiftsDraft_22 rfl ?_
      refine gf_Slots_2 C m229 d_X6_shiftsDraft_23 ?_
      refine zr_aload_n C d_X6_shiftsDraft_26 rfl ?_
      refine gf_Slots_2 C m229 d_X6_shiftsDraft_27 ?_
      refine zr_iload_n C d_X6_shiftsDraft_30 rfl ?_
      refine zr_callVi (As := [.int station]) (st := [zR X 15]) (c := 15) C (c_Mesh_netOf X h g 15 station (by decide) hf0) k_Mesh_netOf m448 m436 m437 (by decide) (zC_Mesh (by decide) X _ _) rfl rfl (by decide) rfl (Nat.le_of_ble_eq_true rfl) d_X6_shiftsDraft_31 ?_
      refine zr_iload_n C d_X6_shiftsDraft_34 rfl ?_
      refine zr_callVv (As := [.int (o_Mesh_netOf h 15 station), .int d]) (st := []) (c := 15) C (c_Mesh_moveAll X h g 15 (o_Mesh_netOf h 15 station) d (by decide) hf0) k_Mesh_moveAll m512 m513 m514 (by decide) (zC_Mesh (by decide) X _ _) rfl rfl (by decide) rfl (Nat.le_of_ble_eq_true rfl) d_X6_shiftsDraft_35 ?_
      refine zr_h (fun h4 eh4 => ?_)
      refine zr_lv [none, none, none, zI (zb y2)] (by simp [zle]) ?_
      exact hJ19 h4 (by subst eh4; exact ((if_pos c19)))
  intro h5 eh5
  refine zr_iload_n C d_X6_shiftsDraft_38 rfl ?_
  have eR : o_Slots_shiftsDraft h station d = (y2, h5) := (by subst eh5 ey2; unfold o_Slots_shiftsDraft; exact rfl)
  subst hQ
  exact zTQ_Zh eR (zr_iretz C (zb_01 _) d_X6_shiftsDraft_39)
theorem d_X6_advancesDraft_0 : decode prog_1_method_29_code 0 = .ok (.aload_n 0, 1) := by decide +kernel
theorem d_X6_advancesDraft_1 : decode prog_1_method_29_code 1 = .ok (.getfield 23, 3) := by decide +kernel
theorem d_X6_advancesDraft_4 : decode prog_1_method_29_code 4 = .ok (.invokevirtual 156, 3) := by decide +kernel
theorem d_X6_advancesDraft_7 : decode prog_1_method_29_code 7 = .ok (.pop, 1) := by decide +kernel
theorem d_X6_advancesDraft_8 : decode prog_1_method_29_code 8 = .ok (.iconst 1, 1) := by decide +kernel
theorem d_X6_advancesDraft_9 : decode prog_1_method_29_code 9 = .ok (.ireturn, 1) := by decide +kernel
abbrev M_Slots_advancesDraft : zMT := (⟨"PeriodSlots", "advancesDraft", "()Z"⟩, prog_1_method_29_code, 1, (some .boolean))
theorem k_Slots_advancesDraft : zcall M_Slots_advancesDraft 0 := ⟨zU_in (i := 655) (by decide +kernel) rfl, m54, ⟨by decide, by decide, by decide +kernel⟩, by decide⟩
def o_Slots_advancesDraft (h : zHp) : Bool × zHp :=
  (true, ((o_Mesh_advance h 15).2))
theorem fr_Slots_advancesDraft {h : zHp} (c k : Nat) (q0 : ¬ (c = 15 ∧ k = 1)) (q1 : c ≠ 18) (q2 : c ≠ 19) (q3 : c ≠ 22) (q4 : c ≠ 23) (q5 : c ≠ 24) (q6 : c ≠ 25) (q7 : c ≠ 26) : (o_Slots_advancesDraft h).2 c k = h c k := by
  unfold o_Slots_advancesDraft
  try dsimp only
  first | done | exact (fr_Mesh_advance _ _ (by assumption) (by assumption) (by assumption) (by assumption) (by assumption) (by assumption) (by assumption) (by assumption))
set_option maxHeartbeats 400000 in
set_option maxRecDepth 20000 in
theorem c_Slots_advancesDraft (X : zXT) (h : zHp) (g : zLg) (hf0 : zfit h 15 0 8) : zDi X M_Slots_advancesDraft 4 [zR X 0] h g (zI (zb ((o_Slots_advancesDraft h).1))) ((o_Slots_advancesDraft h).2) g := by
  have hf0_1 := hf0.1
  refine zDi_of "PeriodSlots" prog_1_method_29_code 1 (some .boolean) rfl (by decide) [zO X 0] rfl (fun _ q => q) (Nat.le_of_ble_eq_true rfl) ?_
  intro Γ Q C hQ
  refine zr_aload_n C d_X6_advancesDraft_0 rfl ?_
  refine gf_Slots_2 C m229 d_X6_advancesDraft_1 ?_
  refine zr_callVi (As := []) (st := []) (c := 15) C (c_Mesh_advance X h g 15 (by decide) hf0) k_Mesh_advance m465 m466 m467 (by decide) (zC_Mesh (by decide) X _ _) rfl rfl (by decide) rfl (Nat.le_of_ble_eq_true rfl) d_X6_advancesDraft_4 ?_
  refine zr_vi (fun y1 ey1 => ?_)
  refine zr_h (fun h2 eh2 => ?_)
  refine zr_pop C d_X6_advancesDraft_7 rfl ?_
  refine zr_iconst C (v := 1) d_X6_advancesDraft_8 (by decide) ?_
  have eR : o_Slots_advancesDraft h = (true, h2) := (by subst eh2 ey1; unfold o_Slots_advancesDraft; exact rfl)
  subst hQ
  exact zTQ_Zh eR (zr_iretz C (Or.inr rfl) d_X6_advancesDraft_9)
theorem d_X6_isTrue_0 : decode prog_1_method_25_code 0 = .ok (.iload_n 1, 1) := by decide +kernel
theorem d_X6_isTrue_1 : decode prog_1_method_25_code 1 = .ok (.bipush 100, 2) := by decide +kernel
theorem d_X6_isTrue_3 : decode prog_1_method_25_code 3 = .ok (.idiv, 1) := by decide +kernel
theorem d_X6_isTrue_4 : decode prog_1_method_25_code 4 = .ok (.bipush 10, 2) := by decide +kernel
theorem d_X6_isTrue_6 : decode prog_1_method_25_code 6 = .ok (.irem, 1) := by decide +kernel
theorem d_X6_isTrue_7 : decode prog_1_method_25_code 7 = .ok (.istore_n 2, 1) := by decide +kernel
theorem d_X6_isTrue_8 : decode prog_1_method_25_code 8 = .ok (.iload_n 1, 1) := by decide +kernel
theorem d_X6_isTrue_9 : decode prog_1_method_25_code 9 = .ok (.bipush 10, 2) := by decide +kernel
theorem d_X6_isTrue_11 : decode prog_1_method_25_code 11 = .ok (.idiv, 1) := by decide +kernel
theorem d_X6_isTrue_12 : decode prog_1_method_25_code 12 = .ok (.bipush 10, 2) := by decide +kernel
theorem d_X6_isTrue_14 : decode prog_1_method_25_code 14 = .ok (.irem, 1) := by decide +kernel
theorem d_X6_isTrue_15 : decode prog_1_method_25_code 15 = .ok (.istore_n 3, 1) := by decide +kernel
theorem d_X6_isTrue_16 : decode prog_1_method_25_code 16 = .ok (.iload_n 1, 1) := by decide +kernel
theorem d_X6_isTrue_17 : decode prog_1_method_25_code 17 = .ok (.bipush 10, 2) := by decide +kernel
theorem d_X6_isTrue_19 : decode prog_1_method_25_code 19 = .ok (.irem, 1) := by decide +kernel
theorem d_X6_isTrue_20 : decode prog_1_method_25_code 20 = .ok (.istore 4, 2) := by decide +kernel
theorem d_X6_isTrue_22 : decode prog_1_method_25_code 22 = .ok (.iload_n 1, 1) := by decide +kernel
theorem d_X6_isTrue_23 : decode prog_1_method_25_code 23 = .ok (.sipush 1000, 3) := by decide +kernel
theorem d_X6_isTrue_26 : decode prog_1_method_25_code 26 = .ok (.idiv, 1) := by decide +kernel
theorem d_X6_isTrue_27 : decode prog_1_method_25_code 27 = .ok (.tableswitch 255 1 7 #[41, 61, 92, 112, 139, 165, 217], 41) := by decide +kernel
theorem d_X6_isTrue_68 : decode prog_1_method_25_code 68 = .ok (.iload 4, 2) := by decide +kernel
theorem d_X6_isTrue_70 : decode prog_1_method_25_code 70 = .ok (.ifCond .ne 16, 3) := by decide +kernel
theorem d_X6_isTrue_73 : decode prog_1_method_25_code 73 = .ok (.aload_n 0, 1) := by decide +kernel
theorem d_X6_isTrue_74 : decode prog_1_method_25_code 74 = .ok (.iload_n 2, 1) := by decide +kernel
theorem d_X6_isTrue_75 : decode prog_1_method_25_code 75 = .ok (.iload_n 3, 1) := by decide +kernel
theorem d_X6_isTrue_76 : decode prog_1_method_25_code 76 = .ok (.invokevirtual 237, 3) := by decide +kernel
theorem d_X6_isTrue_79 : decode prog_1_method_25_code 79 = .ok (.ifCond .eq 7, 3) := by decide +kernel
theorem d_X6_isTrue_82 : decode prog_1_method_25_code 82 = .ok (.iconst 1, 1) := by decide +kernel
theorem d_X6_isTrue_83 : decode prog_1_method_25_code 83 = .ok (.goto 4, 3) := by decide +kernel
theorem d_X6_isTrue_86 : decode prog_1_method_25_code 86 = .ok (.iconst 0, 1) := by decide +kernel
theorem d_X6_isTrue_87 : decode prog_1_method_25_code 87 = .ok (.ireturn, 1) := by decide +kernel
theorem d_X6_isTrue_88 : decode prog_1_method_25_code 88 = .ok (.iload 4, 2) := by decide +kernel
theorem d_X6_isTrue_90 : decode prog_1_method_25_code 90 = .ok (.ifCond .ne 27, 3) := by decide +kernel
theorem d_X6_isTrue_93 : decode prog_1_method_25_code 93 = .ok (.aload_n 0, 1) := by decide +kernel
theorem d_X6_isTrue_94 : decode prog_1_method_25_code 94 = .ok (.iload_n 2, 1) := by decide +kernel
theorem d_X6_isTrue_95 : decode prog_1_method_25_code 95 = .ok (.iload_n 3, 1) := by decide +kernel
theorem d_X6_isTrue_96 : decode prog_1_method_25_code 96 = .ok (.bipush 9, 2) := by decide +kernel
theorem d_X6_isTrue_98 : decode prog_1_method_25_code 98 = .ok (.if_icmp .ne 8, 3) := by decide +kernel
theorem d_X6_isTrue_101 : decode prog_1_method_25_code 101 = .ok (.bipush (-9), 2) := by decide +kernel
theorem d_X6_isTrue_103 : decode prog_1_method_25_code 103 = .ok (.goto 4, 3) := by decide +kernel
theorem d_X6_isTrue_106 : decode prog_1_method_25_code 106 = .ok (.iload_n 3, 1) := by decide +kernel
theorem d_X6_isTrue_107 : decode prog_1_method_25_code 107 = .ok (.invokevirtual 240, 3) := by decide +kernel
theorem d_X6_isTrue_110 : decode prog_1_method_25_code 110 = .ok (.ifCond .eq 7, 3) := by decide +kernel
theorem d_X6_isTrue_113 : decode prog_1_method_25_code 113 = .ok (.iconst 1, 1) := by decide +kernel
theorem d_X6_isTrue_114 : decode prog_1_method_25_code 114 = .ok (.goto 4, 3) := by decide +kernel
theorem d_X6_isTrue_117 : decode prog_1_method_25_code 117 = .ok (.iconst 0, 1) := by decide +kernel
theorem d_X6_isTrue_118 : decode prog_1_method_25_code 118 = .ok (.ireturn, 1) := by decide +kernel
theorem d_X6_isTrue_119 : decode prog_1_method_25_code 119 = .ok (.iload 4, 2) := by decide +kernel
theorem d_X6_isTrue_121 : decode prog_1_method_25_code 121 = .ok (.ifCond .ne 16, 3) := by decide +kernel
theorem d_X6_isTrue_124 : decode prog_1_method_25_code 124 = .ok (.aload_n 0, 1) := by decide +kernel
theorem d_X6_isTrue_125 : decode prog_1_method_25_code 125 = .ok (.iload_n 2, 1) := by decide +kernel
theorem d_X6_isTrue_126 : decode prog_1_method_25_code 126 = .ok (.iload_n 3, 1) := by decide +kernel
theorem d_X6_isTrue_127 : decode prog_1_method_25_code 127 = .ok (.invokevirtual 243, 3) := by decide +kernel
theorem d_X6_isTrue_130 : decode prog_1_method_25_code 130 = .ok (.ifCond .eq 7, 3) := by decide +kernel
theorem d_X6_isTrue_133 : decode prog_1_method_25_code 133 = .ok (.iconst 1, 1) := by decide +kernel
theorem d_X6_isTrue_134 : decode prog_1_method_25_code 134 = .ok (.goto 4, 3) := by decide +kernel
theorem d_X6_isTrue_137 : decode prog_1_method_25_code 137 = .ok (.iconst 0, 1) := by decide +kernel
theorem d_X6_isTrue_138 : decode prog_1_method_25_code 138 = .ok (.ireturn, 1) := by decide +kernel
theorem d_X6_isTrue_139 : decode prog_1_method_25_code 139 = .ok (.iload_n 2, 1) := by decide +kernel
theorem d_X6_isTrue_140 : decode prog_1_method_25_code 140 = .ok (.ifCond .ne 24, 3) := by decide +kernel
theorem d_X6_isTrue_143 : decode prog_1_method_25_code 143 = .ok (.aload_n 0, 1) := by decide +kernel
theorem d_X6_isTrue_144 : decode prog_1_method_25_code 144 = .ok (.getfield 23, 3) := by decide +kernel
theorem d_X6_isTrue_147 : decode prog_1_method_25_code 147 = .ok (.invokevirtual 95, 3) := by decide +kernel
theorem d_X6_isTrue_150 : decode prog_1_method_25_code 150 = .ok (.bipush 10, 2) := by decide +kernel
theorem d_X6_isTrue_152 : decode prog_1_method_25_code 152 = .ok (.iload_n 3, 1) := by decide +kernel
theorem d_X6_isTrue_153 : decode prog_1_method_25_code 153 = .ok (.imul, 1) := by decide +kernel
theorem d_X6_isTrue_154 : decode prog_1_method_25_code 154 = .ok (.iload 4, 2) := by decide +kernel
theorem d_X6_isTrue_156 : decode prog_1_method_25_code 156 = .ok (.iadd, 1) := by decide +kernel
theorem d_X6_isTrue_157 : decode prog_1_method_25_code 157 = .ok (.if_icmp .ne 7, 3) := by decide +kernel
theorem d_X6_isTrue_160 : decode prog_1_method_25_code 160 = .ok (.iconst 1, 1) := by decide +kernel
theorem d_X6_isTrue_161 : decode prog_1_method_25_code 161 = .ok (.goto 4, 3) := by decide +kernel
theorem d_X6_isTrue_164 : decode prog_1_method_25_code 164 = .ok (.iconst 0, 1) := by decide +kernel
theorem d_X6_isTrue_165 : decode prog_1_method_25_code 165 = .ok (.ireturn, 1) := by decide +kernel
theorem d_X6_isTrue_166 : decode prog_1_method_25_code 166 = .ok (.iload_n 2, 1) := by decide +kernel
theorem d_X6_isTrue_167 : decode prog_1_method_25_code 167 = .ok (.ifCond .ne 23, 3) := by decide +kernel
theorem d_X6_isTrue_170 : decode prog_1_method_25_code 170 = .ok (.iload_n 3, 1) := by decide +kernel
theorem d_X6_isTrue_171 : decode prog_1_method_25_code 171 = .ok (.ifCond .ne 19, 3) := by decide +kernel
theorem d_X6_isTrue_174 : decode prog_1_method_25_code 174 = .ok (.iload 4, 2) := by decide +kernel
theorem d_X6_isTrue_176 : decode prog_1_method_25_code 176 = .ok (.ifCond .ne 14, 3) := by decide +kernel
theorem d_X6_isTrue_179 : decode prog_1_method_25_code 179 = .ok (.aload_n 0, 1) := by decide +kernel
theorem d_X6_isTrue_180 : decode prog_1_method_25_code 180 = .ok (.invokevirtual 246, 3) := by decide +kernel
theorem d_X6_isTrue_183 : decode prog_1_method_25_code 183 = .ok (.ifCond .eq 7, 3) := by decide +kernel
theorem d_X6_isTrue_186 : decode prog_1_method_25_code 186 = .ok (.iconst 1, 1) := by decide +kernel
theorem d_X6_isTrue_187 : decode prog_1_method_25_code 187 = .ok (.goto 4, 3) := by decide +kernel
theorem d_X6_isTrue_190 : decode prog_1_method_25_code 190 = .ok (.iconst 0, 1) := by decide +kernel
theorem d_X6_isTrue_191 : decode prog_1_method_25_code 191 = .ok (.ireturn, 1) := by decide +kernel
theorem d_X6_isTrue_192 : decode prog_1_method_25_code 192 = .ok (.iload_n 3, 1) := by decide +kernel
theorem d_X6_isTrue_193 : decode prog_1_method_25_code 193 = .ok (.ifCond .ne 49, 3) := by decide +kernel
theorem d_X6_isTrue_196 : decode prog_1_method_25_code 196 = .ok (.iload 4, 2) := by decide +kernel
theorem d_X6_isTrue_198 : decode prog_1_method_25_code 198 = .ok (.iconst 1, 1) := by decide +kernel
theorem d_X6_isTrue_199 : decode prog_1_method_25_code 199 = .ok (.if_icmp .gt 43, 3) := by decide +kernel
theorem d_X6_isTrue_202 : decode prog_1_method_25_code 202 = .ok (.aload_n 0, 1) := by decide +kernel
theorem d_X6_isTrue_203 : decode prog_1_method_25_code 203 = .ok (.getfield 23, 3) := by decide +kernel
theorem d_X6_isTrue_206 : decode prog_1_method_25_code 206 = .ok (.iload_n 2, 1) := by decide +kernel
theorem d_X6_isTrue_207 : decode prog_1_method_25_code 207 = .ok (.invokevirtual 118, 3) := by decide +kernel
theorem d_X6_isTrue_210 : decode prog_1_method_25_code 210 = .ok (.ifCond .eq 32, 3) := by decide +kernel
theorem d_X6_isTrue_213 : decode prog_1_method_25_code 213 = .ok (.aload_n 0, 1) := by decide +kernel
theorem d_X6_isTrue_214 : decode prog_1_method_25_code 214 = .ok (.getfield 23, 3) := by decide +kernel
theorem d_X6_isTrue_217 : decode prog_1_method_25_code 217 = .ok (.invokevirtual 101, 3) := by decide +kernel
theorem d_X6_isTrue_220 : decode prog_1_method_25_code 220 = .ok (.iload_n 2, 1) := by decide +kernel
theorem d_X6_isTrue_221 : decode prog_1_method_25_code 221 = .ok (.invokestatic 172, 3) := by decide +kernel
theorem d_X6_isTrue_224 : decode prog_1_method_25_code 224 = .ok (.iload 4, 2) := by decide +kernel
theorem d_X6_isTrue_226 : decode prog_1_method_25_code 226 = .ok (.iconst 1, 1) := by decide +kernel
theorem d_X6_isTrue_227 : decode prog_1_method_25_code 227 = .ok (.if_icmp .ne 7, 3) := by decide +kernel
theorem d_X6_isTrue_230 : decode prog_1_method_25_code 230 = .ok (.iconst 1, 1) := by decide +kernel
theorem d_X6_isTrue_231 : decode prog_1_method_25_code 231 = .ok (.goto 4, 3) := by decide +kernel
theorem d_X6_isTrue_234 : decode prog_1_method_25_code 234 = .ok (.iconst 0, 1) := by decide +kernel
theorem d_X6_isTrue_235 : decode prog_1_method_25_code 235 = .ok (.if_icmp .ne 7, 3) := by decide +kernel
theorem d_X6_isTrue_238 : decode prog_1_method_25_code 238 = .ok (.iconst 1, 1) := by decide +kernel
theorem d_X6_isTrue_239 : decode prog_1_method_25_code 239 = .ok (.goto 4, 3) := by decide +kernel
theorem d_X6_isTrue_242 : decode prog_1_method_25_code 242 = .ok (.iconst 0, 1) := by decide +kernel
theorem d_X6_isTrue_243 : decode prog_1_method_25_code 243 = .ok (.ireturn, 1) := by decide +kernel
theorem d_X6_isTrue_244 : decode prog_1_method_25_code 244 = .ok (.aload_n 0, 1) := by decide +kernel
theorem d_X6_isTrue_245 : decode prog_1_method_25_code 245 = .ok (.getfield 26, 3) := by decide +kernel
theorem d_X6_isTrue_248 : decode prog_1_method_25_code 248 = .ok (.aload_n 0, 1) := by decide +kernel
theorem d_X6_isTrue_249 : decode prog_1_method_25_code 249 = .ok (.getfield 23, 3) := by decide +kernel
theorem d_X6_isTrue_252 : decode prog_1_method_25_code 252 = .ok (.invokevirtual 78, 3) := by decide +kernel
theorem d_X6_isTrue_255 : decode prog_1_method_25_code 255 = .ok (.iload_n 2, 1) := by decide +kernel
theorem d_X6_isTrue_256 : decode prog_1_method_25_code 256 = .ok (.ifCond .ne 24, 3) := by decide +kernel
theorem d_X6_isTrue_259 : decode prog_1_method_25_code 259 = .ok (.aload_n 0, 1) := by decide +kernel
theorem d_X6_isTrue_260 : decode prog_1_method_25_code 260 = .ok (.getfield 26, 3) := by decide +kernel
theorem d_X6_isTrue_263 : decode prog_1_method_25_code 263 = .ok (.invokevirtual 200, 3) := by decide +kernel
theorem d_X6_isTrue_266 : decode prog_1_method_25_code 266 = .ok (.bipush 10, 2) := by decide +kernel
theorem d_X6_isTrue_268 : decode prog_1_method_25_code 268 = .ok (.iload_n 3, 1) := by decide +kernel
theorem d_X6_isTrue_269 : decode prog_1_method_25_code 269 = .ok (.imul, 1) := by decide +kernel
theorem d_X6_isTrue_270 : decode prog_1_method_25_code 270 = .ok (.iload 4, 2) := by decide +kernel
theorem d_X6_isTrue_272 : decode prog_1_method_25_code 272 = .ok (.iadd, 1) := by decide +kernel
theorem d_X6_isTrue_273 : decode prog_1_method_25_code 273 = .ok (.if_icmp .ne 7, 3) := by decide +kernel
theorem d_X6_isTrue_276 : decode prog_1_method_25_code 276 = .ok (.iconst 1, 1) := by decide +kernel
theorem d_X6_isTrue_277 : decode prog_1_method_25_code 277 = .ok (.goto 4, 3) := by decide +kernel
theorem d_X6_isTrue_280 : decode prog_1_method_25_code 280 = .ok (.iconst 0, 1) := by decide +kernel
theorem d_X6_isTrue_281 : decode prog_1_method_25_code 281 = .ok (.ireturn, 1) := by decide +kernel
theorem d_X6_isTrue_282 : decode prog_1_method_25_code 282 = .ok (.iconst 0, 1) := by decide +kernel
theorem d_X6_isTrue_283 : decode prog_1_method_25_code 283 = .ok (.ireturn, 1) := by decide +kernel
abbrev M_Slots_isTrue : zMT := (⟨"PeriodSlots", "isTrue", "(I)Z"⟩, prog_1_method_25_code, 5, (some .boolean))
theorem k_Slots_isTrue : zcall M_Slots_isTrue 1 := ⟨zU_in (i := 639) (by decide +kernel) rfl, m54, ⟨by decide, by decide, by decide +kernel⟩, by decide⟩
def o_Slots_isTrue (h : zHp) (statement : Int32) : Bool × zHp :=
  (if (statement / 1000) = 1 then (((decide ((zrem statement 10) = 0)) && ((o_Slots_turnsDraft h (zrem (statement / 100) 10) (zrem (statement / 10) 10)).1)), (if (zrem statement 10) = 0 then (if ((o_Slots_turnsDraft h (zrem (statement / 100) 10) (zrem (statement / 10) 10)).1) = true then ((o_Slots_turnsDraft h (zrem (statement / 100) 10) (zrem (statement / 10) 10)).2) else ((o_Slots_turnsDraft h (zrem (statement / 100) 10) (zrem (statement / 10) 10)).2)) else h)) else (if (statement / 1000) = 2 then (((decide ((zrem statement 10) = 0)) && ((o_Slots_laysDraft h (zrem (statement / 100) 10) (if (zrem (statement / 10) 10) = 9 then (-9) else (zrem (statement / 10) 10))).1)), (if (zrem statement 10) = 0 then (if ((o_Slots_laysDraft h (zrem (statement / 100) 10) (if (zrem (statement / 10) 10) = 9 then (-9) else (zrem (statement / 10) 10))).1) = true then ((o_Slots_laysDraft h (zrem (statement / 100) 10) (if (zrem (statement / 10) 10) = 9 then (-9) else (zrem (statement / 10) 10))).2) else ((o_Slots_laysDraft h (zrem (statement / 100) 10) (if (zrem (statement / 10) 10) = 9 then (-9) else (zrem (statement / 10) 10))).2)) else h)) else (if (statement / 1000) = 3 then (((decide ((zrem statement 10) = 0)) && ((o_Slots_shiftsDraft h (zrem (statement / 100) 10) (zrem (statement / 10) 10)).1)), (if (zrem statement 10) = 0 then (if ((o_Slots_shiftsDraft h (zrem (statement / 100) 10) (zrem (statement / 10) 10)).1) = true then ((o_Slots_shiftsDraft h (zrem (statement / 100) 10) (zrem (statement / 10) 10)).2) else ((o_Slots_shiftsDraft h (zrem (statement / 100) 10) (zrem (statement / 10) 10)).2)) else h)) else (if (statement / 1000) = 4 then (((decide ((zrem (statement / 100) 10) = 0)) && (decide ((o_Mesh_conflicts h 15) = ((10 * (zrem (statement / 10) 10)) + (zrem statement 10))))), h) else (if (statement / 1000) = 5 then (((decide ((zrem (statement / 100) 10) = 0)) && ((decide ((zrem (statement / 10) 10) = 0)) && ((decide ((zrem statement 10) = 0)) && ((o_Slots_advancesDraft h).1)))), (if (zrem (statement / 100) 10) = 0 then (if (zrem (statement / 10) 10) = 0 then (if (zrem statement 10) = 0 then (if ((o_Slots_advancesDraft h).1) = true then ((o_Slots_advancesDraft h).2) else ((o_Slots_advancesDraft h).2)) else h) else h) else h)) else (if (statement / 1000) = 6 then (((decide ((zrem (statement / 10) 10) = 0)) && (!(decide (1 < (zrem statement 10))) && ((o_Mesh_exists h 15 (zrem (statement / 100) 10)) && (decide ((zb (o_Slots_has (o_Mesh_unsettledSet h 15) (zrem (statement / 100) 10))) = (zb (decide ((zrem statement 10) = 1)))))))), h) else (if (statement / 1000) = 7 then (((decide ((zrem (statement / 100) 10) = 0)) && (decide (((o_Mesh_settle (o_Mesh_copyFrom h 27 15) 27).1) = ((10 * (zrem (statement / 10) 10)) + (zrem statement 10))))), (if (zrem (statement / 100) 10) = 0 then (if ((o_Mesh_settle (o_Mesh_copyFrom h 27 15) 27).1) = ((10 * (zrem (statement / 10) 10)) + (zrem statement 10)) then ((o_Mesh_settle (o_Mesh_copyFrom h 27 15) 27).2) else ((o_Mesh_settle (o_Mesh_copyFrom h 27 15) 27).2)) else (o_Mesh_copyFrom h 27 15))) else (false, h))))))))
theorem fr_Slots_isTrue {h : zHp} {statement : Int32} (c k : Nat) (q0 : ¬ (c = 15 ∧ k = 1)) (q1 : c ≠ 17) (q2 : c ≠ 18) (q3 : c ≠ 19) (q4 : c ≠ 21) (q5 : c ≠ 22) (q6 : c ≠ 23) (q7 : c ≠ 24) (q8 : c ≠ 25) (q9 : c ≠ 26) (q10 : ¬ (c = 27 ∧ k = 0)) (q11 : ¬ (c = 27 ∧ k = 1)) (q12 : ¬ (c = 27 ∧ k = 2)) (q13 : c ≠ 28) (q14 : c ≠ 29) (q15 : c ≠ 30) (q16 : c ≠ 31) (q17 : c ≠ 32) (q18 : c ≠ 33) (q19 : c ≠ 34) (q20 : c ≠ 35) (q21 : c ≠ 36) (q22 : c ≠ 37) (q23 : c ≠ 38) : (o_Slots_isTrue h statement).2 c k = h c k := by
  unfold o_Slots_isTrue
  by_cases f1 : (statement / 1000) = 1
  · rw [if_pos f1]
    try dsimp only
    first | done | exact (zite_fr (fun _ => (zite_fr (fun _ => (fr_Slots_turnsDraft _ _ (by assumption) (by assumption) (by assumption) (by assumption) (by assumption) (by assumption) (by assumption))) (fun _ => (fr_Slots_turnsDraft _ _ (by assumption) (by assumption) (by assumption) (by assumption) (by assumption) (by assumption) (by assumption))))) (fun _ => rfl))
  · rw [if_neg f1]
    by_cases f2 : (statement / 1000) = 2
    · rw [if_pos f2]
      try dsimp only
      first | done | exact (zite_fr (fun _ => (zite_fr (fun _ => (fr_Slots_laysDraft _ _ (by assumption) (by assumption) (by assumption) (by assumption))) (fun _ => (fr_Slots_laysDraft _ _ (by assumption) (by assumption) (by assumption) (by assumption))))) (fun _ => rfl))
    · rw [if_neg f2]
      by_cases f3 : (statement / 1000) = 3
      · rw [if_pos f3]
        try dsimp only
        first | done | exact (zite_fr (fun _ => (zite_fr (fun _ => (fr_Slots_shiftsDraft _ _ (by assumption) (by assumption) (by assumption) (by assumption))) (fun _ => (fr_Slots_shiftsDraft _ _ (by assumption) (by assumption) (by assumption) (by assumption))))) (fun _ => rfl))
      · rw [if_neg f3]
        by_cases f4 : (statement / 1000) = 4
        · rw [if_pos f4]
          try dsimp only
          first | done | exact rfl
        · rw [if_neg f4]
          by_cases f5 : (statement / 1000) = 5
          · rw [if_pos f5]
            try dsimp only
            first | done | exact (zite_fr (fun _ => (zite_fr (fun _ => (zite_fr (fun _ => (zite_fr (fun _ => (fr_Slots_advancesDraft _ _ (by assumption) (by assumption) (by assumption) (by assumption) (by assumption) (by assumption) (by assumption) (by assumption))) (fun _ => (fr_Slots_advancesDraft _ _ (by assumption) (by assumption) (by assumption) (by assumption) (by assumption) (by assumption) (by assumption) (by assumption))))) (fun _ => rfl))) (fun _ => rfl))) (fun _ => rfl))
          · rw [if_neg f5]
            by_cases f6 : (statement / 1000) = 6
            · rw [if_pos f6]
              try dsimp only
              first | done | exact rfl
            · rw [if_neg f6]
              by_cases f7 : (statement / 1000) = 7
              · rw [if_pos f7]
                try dsimp only
                first | done | exact (zite_fr (fun _ => (zite_fr (fun _ => ((fr_Mesh_settle _ _ (by assumption) (by assumption) (by assumption) (by assumption) (by assumption) (by assumption) (by assumption) (by assumption) (by assumption)).trans (fr_Mesh_copyFrom _ _ (by assumption) (by assumption) (by assumption) (by assumption) (by assumption) (by assumption) (by assumption) (by assumption) (by assumption) (by assumption) (by assumption) (by assumption)))) (fun _ => ((fr_Mesh_settle _ _ (by assumption) (by assumption) (by assumption) (by assumption) (by assumption) (by assumption) (by assumption) (by assumption) (by assumption)).trans (fr_Mesh_copyFrom _ _ (by assumption) (by assumption) (by assumption) (by assumption) (by assumption) (by assumption) (by assumption) (by assumption) (by assumption) (by assumption) (by assumption) (by assumption)))))) (fun _ => (fr_Mesh_copyFrom _ _ (by assumption) (by assumption) (by assumption) (by assumption) (by assumption) (by assumption) (by assumption) (by assumption) (by assumption) (by assumption) (by assumption) (by assumption))))
              · rw [if_neg f7]
                try dsimp only
                first | done | exact rfl
set_option maxHeartbeats 400000 in
set_option maxRecDepth 20000 in
theorem c_Slots_isTrue (X : zXT) (h : zHp) (g : zLg) (statement : Int32) (hf0 : zfit h 15 0 8) : zDi X M_Slots_isTrue 5 [zR X 0, .int statement] h g (zI (zb ((o_Slots_isTrue h statement).1))) ((o_Slots_isTrue h statement).2) g := by
  have hf0_1 := hf0.1
  refine zDi_of "PeriodSlots" prog_1_method_25_code 5 (some .boolean) rfl (by decide) [zO X 0, zI statement, none, none, none] rfl (fun _ q => q) (Nat.le_of_ble_eq_true rfl) ?_
  intro Γ Q C hQ
  refine zr_iload_n C d_X6_isTrue_0 rfl ?_
  refine zr_bipush C (v := 100) d_X6_isTrue_1 (by decide) ?_
  refine zr_idiv C d_X6_isTrue_3 (by decide) ?_
  refine zr_bipush C (v := 10) d_X6_isTrue_4 (by decide) ?_
  refine zr_irem C d_X6_isTrue_6 (by decide) ?_
  refine zr_istore_n C [zO X 0, zI statement, zI (zrem (statement / 100) 10), none, none] d_X6_isTrue_7 (Nat.le_of_ble_eq_true rfl) rfl rfl ?_
  refine zr_iload_n C d_X6_isTrue_8 rfl ?_
  refine zr_bipush C (v := 10) d_X6_isTrue_9 (by decide) ?_
  refine zr_idiv C d_X6_isTrue_11 (by decide) ?_
  refine zr_bipush C (v := 10) d_X6_isTrue_12 (by decide) ?_
  refine zr_irem C d_X6_isTrue_14 (by decide) ?_
  refine zr_istore_n C [zO X 0, zI statement, zI (zrem (statement / 100) 10), zI (zrem (statement / 10) 10), none] d_X6_isTrue_15 (Nat.le_of_ble_eq_true rfl) rfl rfl ?_
  refine zr_iload_n C d_X6_isTrue_16 rfl ?_
  refine zr_bipush C (v := 10) d_X6_isTrue_17 (by decide) ?_
  refine zr_irem C d_X6_isTrue_19 (by decide) ?_
  refine zr_istore C [zO X 0, zI statement, zI (zrem (statement / 100) 10), zI (zrem (statement / 10) 10), zI (zrem statement 10)] d_X6_isTrue_20 (Nat.le_of_ble_eq_true rfl) rfl rfl ?_
  refine zr_iload_n C d_X6_isTrue_22 rfl ?_
  refine zr_sipush C (v := 1000) d_X6_isTrue_23 (by decide) ?_
  refine zr_idiv C d_X6_isTrue_26 (by decide) ?_
  by_cases c27_1 : (statement / 1000) = 1
  · refine zr_tabIn C 68 (off := 41) d_X6_isTrue_27 (by rw [c27_1]; decide) (by rw [c27_1]; decide) (by rw [c27_1]; rfl) (by decide) ?_
    refine zr_iload C d_X6_isTrue_68 rfl ?_
    suffices hJ70 : ∀ (y3 : Bool) (h4 : zHp), ((decide ((zrem statement 10) = 0)) && ((o_Slots_turnsDraft h (zrem (statement / 100) 10) (zrem (statement / 10) 10)).1)) = y3 → (if (zrem statement 10) = 0 then (if ((o_Slots_turnsDraft h (zrem (statement / 100) 10) (zrem (statement / 10) 10)).1) = true then ((o_Slots_turnsDraft h (zrem (statement / 100) 10) (zrem (statement / 10) 10)).2) else ((o_Slots_turnsDraft h (zrem (statement / 100) 10) (zrem (statement / 10) 10)).2)) else h) = h4 → zV X Γ Q 87 [none, none, none, none, none] [.int (zb y3)] h4 g by
      refine zr_if_ne C 86 d_X6_isTrue_70 (by decide) (fun c70 => ?_) (fun c70 => ?_)
      · refine zr_iconst C (v := 0) d_X6_isTrue_86 (by decide) ?_
        refine zr_lv [none, none, none, none, none] (by simp [zle]) ?_
        exact hJ70 false h (by simp [c70]) (((if_neg c70)))
      · refine zr_aload_n C d_X6_isTrue_73 rfl ?_
        refine zr_iload_n C d_X6_isTrue_74 rfl ?_
        refine zr_iload_n C d_X6_isTrue_75 rfl ?_
        refine zr_callVi (As := [.int (zrem (statement / 100) 10), .int (zrem (statement / 10) 10)]) (st := []) (c := 0) C (c_Slots_turnsDraft X h g (zrem (statement / 100) 10) (zrem (statement / 10) 10) hf0) k_Slots_turnsDraft m640 m642 m13 (by decide) (zC_Slots X _ _) rfl rfl (by decide) rfl (Nat.le_of_ble_eq_true rfl) d_X6_isTrue_76 ?_
        refine zr_vz (fun y1 ey1 => ?_)
        refine zr_h (fun h2 eh2 => ?_)
        refine zr_ifz_eq C 86 d_X6_isTrue_79 (by decide) (fun c79 => ?_) (fun c79 => ?_)
        · refine zr_iconst C (v := 0) d_X6_isTrue_86 (by decide) ?_
          refine zr_lv [none, none, none, none, none] (by simp [zle]) ?_
          exact hJ70 false h2 (by subst eh2 ey1; simp [c70, c79]) (by subst eh2 ey1; exact ((if_pos c70).trans ((if_neg (zbf c79)))))
        · refine zr_iconst C (v := 1) d_X6_isTrue_82 (by decide) ?_
          refine zr_goto C 87 d_X6_isTrue_83 (by decide) ?_
          refine zr_lv [none, none, none, none, none] (by simp [zle]) ?_
          exact hJ70 true h2 (by subst eh2 ey1; simp [c70, c79]) (by subst eh2 ey1; exact ((if_pos c70).trans ((if_pos c79))))
    intro y3 h4 ey3 eh4
    have eR : o_Slots_isTrue h statement = (y3, h4) := (by subst eh4 ey3; unfold o_Slots_isTrue; rw [if_pos c27_1])
    subst hQ
    exact zTQ_Zh eR (zr_iretz C (zb_01 _) d_X6_isTrue_87)
  · by_cases c27_2 : (statement / 1000) = 2
    · refine zr_tabIn C 88 (off := 61) d_X6_isTrue_27 (by rw [c27_2]; decide) (by rw [c27_2]; decide) (by rw [c27_2]; rfl) (by decide) ?_
      refine zr_iload C d_X6_isTrue_88 rfl ?_
      suffices hJ90 : ∀ (y8 : Bool) (h9 : zHp), ((decide ((zrem statement 10) = 0)) && ((o_Slots_laysDraft h (zrem (statement / 100) 10) (if (zrem (statement / 10) 10) = 9 then (-9) else (zrem (statement / 10) 10))).1)) = y8 → (if (zrem statement 10) = 0 then (if ((o_Slots_laysDraft h (zrem (statement / 100) 10) (if (zrem (statement / 10) 10) = 9 then (-9) else (zrem (statement / 10) 10))).1) = true then ((o_Slots_laysDraft h (zrem (statement / 100) 10) (if (zrem (statement / 10) 10) = 9 then (-9) else (zrem (statement / 10) 10))).2) else ((o_Slots_laysDraft h (zrem (statement / 100) 10) (if (zrem (statement / 10) 10) = 9 then (-9) else (zrem (statement / 10) 10))).2)) else h) = h9 → zV X Γ Q 118 [none, none, none, none, none] [.int (zb y8)] h9 g by
        refine zr_if_ne C 117 d_X6_isTrue_90 (by decide) (fun c90 => ?_) (fun c90 => ?_)
        · refine zr_iconst C (v := 0) d_X6_isTrue_117 (by decide) ?_
          refine zr_lv [none, none, none, none, none] (by simp [zle]) ?_
          exact hJ90 false h (by simp [c90]) (((if_neg c90)))
        · refine zr_aload_n C d_X6_isTrue_93 rfl ?_
          refine zr_iload_n C d_X6_isTrue_94 rfl ?_
          refine zr_iload_n C d_X6_isTrue_95 rfl ?_
          refine zr_bipush C (v := 9) d_X6_isTrue_96 (by decide) ?_
          suffices hJ98 : ∀ (y5 : Int32), (if (zrem (statement / 10) 10) = 9 then (-9) else (zrem (statement / 10) 10)) = y5 → zV X Γ Q 107 [none, none, none, none, none] [.int y5, .int (zrem (statement / 100) 10), zR X 0] h g by
            refine zr_icmp_ne C 106 d_X6_isTrue_98 (by decide) (fun c98 => ?_) (fun c98 => ?_)
            · refine zr_iload_n C d_X6_isTrue_106 rfl ?_
              refine zr_lv [none, none, none, none, none] (by simp [zle]) ?_
              exact hJ98 (zrem (statement / 10) 10) (((if_neg c98)))
            · refine zr_bipush C (v := (-9)) d_X6_isTrue_101 (by decide) ?_
              refine zr_goto C 107 d_X6_isTrue_103 (by decide) ?_
              refine zr_lv [none, none, none, none, none] (by simp [zle]) ?_
              exact hJ98 (-9) (((if_pos c98)))
          intro y5 ey5
          refine zr_callVi (As := [.int (zrem (statement / 100) 10), .int y5]) (st := []) (c := 0) C (c_Slots_laysDraft X h g (zrem (statement / 100) 10) y5 hf0) k_Slots_laysDraft m644 m646 m14 (by decide) (zC_Slots X _ _) rfl rfl (by decide) rfl (Nat.le_of_ble_eq_true rfl) d_X6_isTrue_107 ?_
          refine zr_vz (fun y6 ey6 => ?_)
          refine zr_h (fun h7 eh7 => ?_)
          refine zr_ifz_eq C 117 d_X6_isTrue_110 (by decide) (fun c110 => ?_) (fun c110 => ?_)
          · refine zr_iconst C (v := 0) d_X6_isTrue_117 (by decide) ?_
            exact hJ90 false h7 (by subst eh7 ey6 ey5; simp [c90, c110]) (by subst eh7 ey6 ey5; exact ((if_pos c90).trans ((if_neg (zbf c110)))))
          · refine zr_iconst C (v := 1) d_X6_isTrue_113 (by decide) ?_
            refine zr_goto C 118 d_X6_isTrue_114 (by decide) ?_
            exact hJ90 true h7 (by subst eh7 ey6 ey5; simp [c90, c110]) (by subst eh7 ey6 ey5; exact ((if_pos c90).trans ((if_pos c110))))
      intro y8 h9 ey8 eh9
      have eR : o_Slots_isTrue h statement = (y8, h9) := (by subst eh9 ey8; unfold o_Slots_isTrue; rw [if_neg c27_1, if_pos c27_2])
      subst hQ
      exact zTQ_Zh eR (zr_iretz C (zb_01 _) d_X6_isTrue_118)
    · by_cases c27_3 : (statement / 1000) = 3
      · refine zr_tabIn C 119 (off := 92) d_X6_isTrue_27 (by rw [c27_3]; decide) (by rw [c27_3]; decide) (by rw [c27_3]; rfl) (by decide) ?_
        refine zr_iload C d_X6_isTrue_119 rfl ?_
        suffices hJ121 : ∀ (y12 : Bool) (h13 : zHp), ((decide ((zrem statement 10) = 0)) && ((o_Slots_shiftsDraft h (zrem (statement / 100) 10) (zrem (statement / 10) 10)).1)) = y12 → (if (zrem statement 10) = 0 then (if ((o_Slots_shiftsDraft h (zrem (statement / 100) 10) (zrem (statement / 10) 10)).1) = true then ((o_Slots_shiftsDraft h (zrem (statement / 100) 10) (zrem (statement / 10) 10)).2) else ((o_Slots_shiftsDraft h (zrem (statement / 100) 10) (zrem (statement / 10) 10)).2)) else h) = h13 → zV X Γ Q 138 [none, none, none, none, none] [.int (zb y12)] h13 g by
          refine zr_if_ne C 137 d_X6_isTrue_121 (by decide) (fun c121 => ?_) (fun c121 => ?_)
          · refine zr_iconst C (v := 0) d_X6_isTrue_137 (by decide) ?_
            refine zr_lv [none, none, none, none, none] (by simp [zle]) ?_
            exact hJ121 false h (by simp [c121]) (((if_neg c121)))
          · refine zr_aload_n C d_X6_isTrue_124 rfl ?_
            refine zr_iload_n C d_X6_isTrue_125 rfl ?_
            refine zr_iload_n C d_X6_isTrue_126 rfl ?_
            refine zr_callVi (As := [.int (zrem (statement / 100) 10), .int (zrem (statement / 10) 10)]) (st := []) (c := 0) C (c_Slots_shiftsDraft X h g (zrem (statement / 100) 10) (zrem (statement / 10) 10) hf0) k_Slots_shiftsDraft m648 m650 m15 (by decide) (zC_Slots X _ _) rfl rfl (by decide) rfl (Nat.le_of_ble_eq_true rfl) d_X6_isTrue_127 ?_
            refine zr_vz (fun y10 ey10 => ?_)
            refine zr_h (fun h11 eh11 => ?_)
            refine zr_ifz_eq C 137 d_X6_isTrue_130 (by decide) (fun c130 => ?_) (fun c130 => ?_)
            · refine zr_iconst C (v := 0) d_X6_isTrue_137 (by decide) ?_
              refine zr_lv [none, none, none, none, none] (by simp [zle]) ?_
              exact hJ121 false h11 (by subst eh11 ey10; simp [c121, c130]) (by subst eh11 ey10; exact ((if_pos c121).trans ((if_neg (zbf c130)))))
            · refine zr_iconst C (v := 1) d_X6_isTrue_133 (by decide) ?_
              refine zr_goto C 138 d_X6_isTrue_134 (by decide) ?_
              refine zr_lv [none, none, none, none, none] (by simp [zle]) ?_
              exact hJ121 true h11 (by subst eh11 ey10; simp [c121, c130]) (by subst eh11 ey10; exact ((if_pos c121).trans ((if_pos c130))))
        intro y12 h13 ey12 eh13
        have eR : o_Slots_isTrue h statement = (y12, h13) := (by subst eh13 ey12; unfold o_Slots_isTrue; rw [if_neg c27_1, if_neg c27_2, if_pos c27_3])
        subst hQ
        exact zTQ_Zh eR (zr_iretz C (zb_01 _) d_X6_isTrue_138)
      · by_cases c27_4 : (statement / 1000) = 4
        · refine zr_tabIn C 139 (off := 112) d_X6_isTrue_27 (by rw [c27_4]; decide) (by rw [c27_4]; decide) (by rw [c27_4]; rfl) (by decide) ?_
          refine zr_iload_n C d_X6_isTrue_139 rfl ?_
          suffices hJ140 : ∀ (y14 : Bool), ((decide ((zrem (statement / 100) 10) = 0)) && (decide ((o_Mesh_conflicts h 15) = ((10 * (zrem (statement / 10) 10)) + (zrem statement 10))))) = y14 → zV X Γ Q 165 [none, none, none, none, none] [.int (zb y14)] h g by
            refine zr_if_ne C 164 d_X6_isTrue_140 (by decide) (fun c140 => ?_) (fun c140 => ?_)
            · refine zr_iconst C (v := 0) d_X6_isTrue_164 (by decide) ?_
              refine zr_lv [none, none, none, none, none] (by simp [zle]) ?_
              exact hJ140 false (by simp [c140])
            · refine zr_aload_n C d_X6_isTrue_143 rfl ?_
              refine gf_Slots_2 C m229 d_X6_isTrue_144 ?_
              refine zr_callVi (As := []) (st := []) (c := 15) C (c_Mesh_conflicts X h g 15 (by decide) hf0) k_Mesh_conflicts m398 m399 m400 (by decide) (zC_Mesh (by decide) X _ _) rfl rfl (by decide) rfl (Nat.le_of_ble_eq_true rfl) d_X6_isTrue_147 ?_
              refine zr_bipush C (v := 10) d_X6_isTrue_150 (by decide) ?_
              refine zr_iload_n C d_X6_isTrue_152 rfl ?_
              refine zr_imul C d_X6_isTrue_153 ?_
              refine zr_iload C d_X6_isTrue_154 rfl ?_
              refine zr_iadd C d_X6_isTrue_156 ?_
              refine zr_icmp_ne C 164 d_X6_isTrue_157 (by decide) (fun c157 => ?_) (fun c157 => ?_)
              · refine zr_iconst C (v := 0) d_X6_isTrue_164 (by decide) ?_
                refine zr_lv [none, none, none, none, none] (by simp [zle]) ?_
                exact hJ140 false (by simp [c140, c157])
              · refine zr_iconst C (v := 1) d_X6_isTrue_160 (by decide) ?_
                refine zr_goto C 165 d_X6_isTrue_161 (by decide) ?_
                refine zr_lv [none, none, none, none, none] (by simp [zle]) ?_
                exact hJ140 true (by simp [c140, c157])
          intro y14 ey14
          have eR : o_Slots_isTrue h statement = (y14, h) := (by subst ey14; unfold o_Slots_isTrue; rw [if_neg c27_1, if_neg c27_2, if_neg c27_3, if_pos c27_4])
          subst hQ
          exact zTQ_Zh eR (zr_iretz C (zb_01 _) d_X6_isTrue_165)
        · by_cases c27_5 : (statement / 1000) = 5
          · refine zr_tabIn C 166 (off := 139) d_X6_isTrue_27 (by rw [c27_5]; decide) (by rw [c27_5]; decide) (by rw [c27_5]; rfl) (by decide) ?_
            refine zr_iload_n C d_X6_isTrue_166 rfl ?_
            suffices hJ167 : ∀ (y17 : Bool) (h18 : zHp), ((decide ((zrem (statement / 100) 10) = 0)) && ((decide ((zrem (statement / 10) 10) = 0)) && ((decide ((zrem statement 10) = 0)) && ((o_Slots_advancesDraft h).1)))) = y17 → (if (zrem (statement / 100) 10) = 0 then (if (zrem (statement / 10) 10) = 0 then (if (zrem statement 10) = 0 then (if ((o_Slots_advancesDraft h).1) = true then ((o_Slots_advancesDraft h).2) else ((o_Slots_advancesDraft h).2)) else h) else h) else h) = h18 → zV X Γ Q 191 [none, none, none, none, none] [.int (zb y17)] h18 g by
              refine zr_if_ne C 190 d_X6_isTrue_167 (by decide) (fun c167 => ?_) (fun c167 => ?_)
              · refine zr_iconst C (v := 0) d_X6_isTrue_190 (by decide) ?_
                refine zr_lv [none, none, none, none, none] (by simp [zle]) ?_
                exact hJ167 false h (by simp [c167]) (((if_neg c167)))
              · refine zr_iload_n C d_X6_isTrue_170 rfl ?_
                refine zr_if_ne C 190 d_X6_isTrue_171 (by decide) (fun c171 => ?_) (fun c171 => ?_)
                · refine zr_iconst C (v := 0) d_X6_isTrue_190 (by decide) ?_
                  refine zr_lv [none, none, none, none, none] (by simp [zle]) ?_
                  exact hJ167 false h (by simp [c167, c171]) (((if_pos c167).trans ((if_neg c171))))
                · refine zr_iload C d_X6_isTrue_174 rfl ?_
                  refine zr_if_ne C 190 d_X6_isTrue_176 (by decide) (fun c176 => ?_) (fun c176 => ?_)
                  · refine zr_iconst C (v := 0) d_X6_isTrue_190 (by decide) ?_
                    refine zr_lv [none, none, none, none, none] (by simp [zle]) ?_
                    exact hJ167 false h (by simp [c167, c171, c176]) (((if_pos c167).trans ((if_pos c171).trans ((if_neg c176)))))
                  · refine zr_aload_n C d_X6_isTrue_179 rfl ?_
                    refine zr_callVi (As := []) (st := []) (c := 0) C (c_Slots_advancesDraft X h g hf0) k_Slots_advancesDraft m652 m654 m16 (by decide) (zC_Slots X _ _) rfl rfl (by decide) rfl (Nat.le_of_ble_eq_true rfl) d_X6_isTrue_180 ?_
                    refine zr_vz (fun y15 ey15 => ?_)
                    refine zr_h (fun h16 eh16 => ?_)
                    refine zr_ifz_eq C 190 d_X6_isTrue_183 (by decide) (fun c183 => ?_) (fun c183 => ?_)
                    · refine zr_iconst C (v := 0) d_X6_isTrue_190 (by decide) ?_
                      refine zr_lv [none, none, none, none, none] (by simp [zle]) ?_
                      exact hJ167 false h16 (by subst eh16 ey15; simp [c167, c171, c176, c183]) (by subst eh16 ey15; exact ((if_pos c167).trans ((if_pos c171).trans ((if_pos c176).trans ((if_neg (zbf c183)))))))
                    · refine zr_iconst C (v := 1) d_X6_isTrue_186 (by decide) ?_
                      refine zr_goto C 191 d_X6_isTrue_187 (by decide) ?_
                      refine zr_lv [none, none, none, none, none] (by simp [zle]) ?_
                      exact hJ167 true h16 (by subst eh16 ey15; simp [c167, c171, c176, c183]) (by subst eh16 ey15; exact ((if_pos c167).trans ((if_pos c171).trans ((if_pos c176).trans ((if_pos c183))))))
            intro y17 h18 ey17 eh18
            have eR : o_Slots_isTrue h statement = (y17, h18) := (by subst eh18 ey17; unfold o_Slots_isTrue; rw [if_neg c27_1, if_neg c27_2, if_neg c27_3, if_neg c27_4, if_pos c27_5])
            subst hQ
            exact zTQ_Zh eR (zr_iretz C (zb_01 _) d_X6_isTrue_191)
          · by_cases c27_6 : (statement / 1000) = 6
            · refine zr_tabIn C 192 (off := 165) d_X6_isTrue_27 (by rw [c27_6]; decide) (by rw [c27_6]; decide) (by rw [c27_6]; rfl) (by decide) ?_
              refine zr_iload_n C d_X6_isTrue_192 rfl ?_
              suffices hJ193 : ∀ (y21 : Bool), ((decide ((zrem (statement / 10) 10) = 0)) && (!(decide (1 < (zrem statement 10))) && ((o_Mesh_exists h 15 (zrem (statement / 100) 10)) && (decide ((zb (o_Slots_has (o_Mesh_unsettledSet h 15) (zrem (statement / 100) 10))) = (zb (decide ((zrem statement 10) = 1)))))))) = y21 → zV X Γ Q 243 [none, none, none, none, none] [.int (zb y21)] h g by
                refine zr_if_ne C 242 d_X6_isTrue_193 (by decide) (fun c193 => ?_) (fun c193 => ?_)
                · refine zr_iconst C (v := 0) d_X6_isTrue_242 (by decide) ?_
                  refine zr_lv [none, none, none, none, none] (by simp [zle]) ?_
                  exact hJ193 false (by simp [c193])
                · refine zr_iload C d_X6_isTrue_196 rfl ?_
                  refine zr_iconst C (v := 1) d_X6_isTrue_198 (by decide) ?_
                  refine zr_icmp_gt C 242 d_X6_isTrue_199 (by decide) (fun c199 => ?_) (fun c199 => ?_)
                  · refine zr_iconst C (v := 0) d_X6_isTrue_242 (by decide) ?_
                    refine zr_lv [none, none, none, none, none] (by simp [zle]) ?_
                    exact hJ193 false (by simp [c193, c199])
                  · refine zr_aload_n C d_X6_isTrue_202 rfl ?_
                    refine gf_Slots_2 C m229 d_X6_isTrue_203 ?_
                    refine zr_iload_n C d_X6_isTrue_206 rfl ?_
                    refine zr_callVi (As := [.int (zrem (statement / 100) 10)]) (st := []) (c := 15) C (c_Mesh_exists X h g 15 (zrem (statement / 100) 10) (by decide)) k_Mesh_exists m446 m359 m360 (by decide) (zC_Mesh (by decide) X _ _) rfl rfl (by decide) rfl (Nat.le_of_ble_eq_true rfl) d_X6_isTrue_207 ?_
                    refine zr_ifz_eq C 242 d_X6_isTrue_210 (by decide) (fun c210 => ?_) (fun c210 => ?_)
                    · refine zr_iconst C (v := 0) d_X6_isTrue_242 (by decide) ?_
                      refine zr_lv [none, none, none, none, none] (by simp [zle]) ?_
                      exact hJ193 false (by simp [c193, c199, c210])
                    · have ex19 := zex c210
                      have ex19_2 := ex19.2
                      have ex19_b := (hf0).1
                      refine zr_aload_n C d_X6_isTrue_213 rfl ?_
                      refine gf_Slots_2 C m229 d_X6_isTrue_214 ?_
                      refine zr_callVi (As := []) (st := []) (c := 15) C (c_Mesh_unsettledSet X h g 15 (by decide) hf0) k_Mesh_unsettledSet m402 m403 m404 (by decide) (zC_Mesh (by decide) X _ _) rfl rfl (by decide) rfl (Nat.le_of_ble_eq_true rfl) d_X6_isTrue_217 ?_
                      refine zr_iload_n C d_X6_isTrue_220 rfl ?_
                      refine zr_callSi (As := [.int (o_Mesh_unsettledSet h 15), .int (zrem (statement / 100) 10)]) (st := []) C (c_Slots_has X h g (o_Mesh_unsettledSet h 15) (zrem (statement / 100) 10)) k_Slots_has m491 m322 rfl (by decide) rfl (Nat.le_of_ble_eq_true rfl) d_X6_isTrue_221 ?_
                      refine zr_iload C d_X6_isTrue_224 rfl ?_
                      refine zr_iconst C (v := 1) d_X6_isTrue_226 (by decide) ?_
                      suffices hJ227 : ∀ (y20 : Bool), (decide ((zrem statement 10) = 1)) = y20 → zV X Γ Q 235 [none, none, none, none, none] [.int (zb y20), .int (zb (o_Slots_has (o_Mesh_unsettledSet h 15) (zrem (statement / 100) 10)))] h g by
                        refine zr_icmp_ne C 234 d_X6_isTrue_227 (by decide) (fun c227 => ?_) (fun c227 => ?_)
                        · refine zr_iconst C (v := 0) d_X6_isTrue_234 (by decide) ?_
                          refine zr_lv [none, none, none, none, none] (by simp [zle]) ?_
                          exact hJ227 false (by simp [c227])
                        · refine zr_iconst C (v := 1) d_X6_isTrue_230 (by decide) ?_
                          refine zr_goto C 235 d_X6_isTrue_231 (by decide) ?_
                          refine zr_lv [none, none, none, none, none] (by simp [zle]) ?_
                          exact hJ227 true (by simp [c227])
                      intro y20 ey20
                      refine zr_icmp_ne C 242 d_X6_isTrue_235 (by decide) (fun c235 => ?_) (fun c235 => ?_)
                      · refine zr_iconst C (v := 0) d_X6_isTrue_242 (by decide) ?_
                        exact hJ193 false (by subst ey20; simp [c193, c199, c210, c235])
                      · refine zr_iconst C (v := 1) d_X6_isTrue_238 (by decide) ?_
                        refine zr_goto C 243 d_X6_isTrue_239 (by decide) ?_
                        exact hJ193 true (by subst ey20; simp [c193, c199, c210, c235])
              intro y21 ey21
              have eR : o_Slots_isTrue h statement = (y21, h) := (by subst ey21; unfold o_Slots_isTrue; rw [if_neg c27_1, if_neg c27_2, if_neg c27_3, if_neg c27_4, if_neg c27_5, if_pos c27_6])
              subst hQ
              exact zTQ_Zh eR (zr_iretz C (zb_01 _) d_X6_isTrue_243)
            · by_cases c27_7 : (statement / 1000) = 7
              · refine zr_tabIn C 244 (off := 217) d_X6_isTrue_27 (by rw [c27_7]; decide) (by rw [c27_7]; decide) (by rw [c27_7]; rfl) (by decide) ?_
                refine zr_aload_n C d_X6_isTrue_244 rfl ?_
                refine gf_Slots_3 C m230 d_X6_isTrue_245 ?_
                refine zr_aload_n C d_X6_isTrue_248 rfl ?_
                refine gf_Slots_2 C m229 d_X6_isTrue_249 ?_
                refine zr_callVv (As := [zR X 15]) (st := []) (c := 27) C (c_Mesh_copyFrom X h g 27 15 (by decide) (by decide)) k_Mesh_copyFrom m375 m376 m377 (by decide) (zC_Mesh (by decide) X _ _) rfl rfl (by decide) rfl (Nat.le_of_ble_eq_true rfl) d_X6_isTrue_252 ?_
                refine zr_h (fun h22 eh22 => ?_)
                have hph22 : zfit h22 27 0 8 := by rw [← eh22]; exact pf_copyFrom hf0
                have hph22_1 := hph22.1
                refine zr_iload_n C d_X6_isTrue_255 rfl ?_
                suffices hJ256 : ∀ (y25 : Bool) (h26 : zHp), ((decide ((zrem (statement / 100) 10) = 0)) && (decide (((o_Mesh_settle h22 27).1) = ((10 * (zrem (statement / 10) 10)) + (zrem statement 10))))) = y25 → (if (zrem (statement / 100) 10) = 0 then (if ((o_Mesh_settle h22 27).1) = ((10 * (zrem (statement / 10) 10)) + (zrem statement 10)) then ((o_Mesh_settle h22 27).2) else ((o_Mesh_settle h22 27).2)) else h22) = h26 → zV X Γ Q 281 [none, none, none, none, none] [.int (zb y25)] h26 g by
                  refine zr_if_ne C 280 d_X6_isTrue_256 (by decide) (fun c256 => ?_) (fun c256 => ?_)
                  · refine zr_iconst C (v := 0) d_X6_isTrue_280 (by decide) ?_
                    refine zr_lv [none, none, none, none, none] (by simp [zle]) ?_
                    exact hJ256 false h22 (by simp [c256]) (((if_neg c256)))
                  · refine zr_aload_n C d_X6_isTrue_259 rfl ?_
                    refine gf_Slots_3 C m230 d_X6_isTrue_260 ?_
                    refine zr_callVi (As := []) (st := []) (c := 27) C (c_Mesh_settle X h22 g 27 (by decide) hph22) k_Mesh_settle m536 m537 m538 (by decide) (zC_Mesh (by decide) X _ _) rfl rfl (by decide) rfl (Nat.le_of_ble_eq_true rfl) d_X6_isTrue_263 ?_
                    refine zr_vi (fun y23 ey23 => ?_)
                    refine zr_h (fun h24 eh24 => ?_)
                    refine zr_bipush C (v := 10) d_X6_isTrue_266 (by decide) ?_
                    refine zr_iload_n C d_X6_isTrue_268 rfl ?_
                    refine zr_imul C d_X6_isTrue_269 ?_
                    refine zr_iload C d_X6_isTrue_270 rfl ?_
                    refine zr_iadd C d_X6_isTrue_272 ?_
                    refine zr_icmp_ne C 280 d_X6_isTrue_273 (by decide) (fun c273 => ?_) (fun c273 => ?_)
                    · refine zr_iconst C (v := 0) d_X6_isTrue_280 (by decide) ?_
                      refine zr_lv [none, none, none, none, none] (by simp [zle]) ?_
                      exact hJ256 false h24 (by subst eh24 ey23; simp [c256, c273]) (by subst eh24 ey23; exact ((if_pos c256).trans ((if_neg c273))))
                    · refine zr_iconst C (v := 1) d_X6_isTrue_276 (by decide) ?_
                      refine zr_goto C 281 d_X6_isTrue_277 (by decide) ?_
                      refine zr_lv [none, none, none, none, none] (by simp [zle]) ?_
                      exact hJ256 true h24 (by subst eh24 ey23; simp [c256, c273]) (by subst eh24 ey23; exact ((if_pos c256).trans ((if_pos c273))))
                intro y25 h26 ey25 eh26
                have eR : o_Slots_isTrue h statement = (y25, h26) := (by subst eh26 ey25 eh22; unfold o_Slots_isTrue; rw [if_neg c27_1, if_neg c27_2, if_neg c27_3, if_neg c27_4, if_neg c27_5, if_neg c27_6, if_pos c27_7])
                subst hQ
                exact zTQ_Zh eR (zr_iretz C (zb_01 _) d_X6_isTrue_281)
              · have w27_1 : ((statement / 1000) : Int32).toInt ≠ 1 := zne_toInt c27_1 (by decide)
                have w27_2 : ((statement / 1000) : Int32).toInt ≠ 2 := zne_toInt c27_2 (by decide)
                have w27_3 : ((statement / 1000) : Int32).toInt ≠ 3 := zne_toInt c27_3 (by decide)
                have w27_4 : ((statement / 1000) : Int32).toInt ≠ 4 := zne_toInt c27_4 (by decide)
                have w27_5 : ((statement / 1000) : Int32).toInt ≠ 5 := zne_toInt c27_5 (by decide)
                have w27_6 : ((statement / 1000) : Int32).toInt ≠ 6 := zne_toInt c27_6 (by decide)
                have w27_7 : ((statement / 1000) : Int32).toInt ≠ 7 := zne_toInt c27_7 (by decide)
                refine zr_tabOut C 282 d_X6_isTrue_27 (by omega) (by decide) ?_
                refine zr_iconst C (v := 0) d_X6_isTrue_282 (by decide) ?_
                have eR : o_Slots_isTrue h statement = (false, h) := (by unfold o_Slots_isTrue; rw [if_neg c27_1, if_neg c27_2, if_neg c27_3, if_neg c27_4, if_neg c27_5, if_neg c27_6, if_neg c27_7])
                subst hQ
                exact zTQ_Zh eR (zr_iretz C (Or.inl rfl) d_X6_isTrue_283)
theorem d_X6_judge_0 : decode prog_1_method_24_code 0 = .ok (.iload_n 1, 1) := by decide +kernel
theorem d_X6_judge_1 : decode prog_1_method_24_code 1 = .ok (.iconst 1, 1) := by decide +kernel
theorem d_X6_judge_2 : decode prog_1_method_24_code 2 = .ok (.if_icmp .lt 14, 3) := by decide +kernel
theorem d_X6_judge_5 : decode prog_1_method_24_code 5 = .ok (.iload_n 1, 1) := by decide +kernel
theorem d_X6_judge_6 : decode prog_1_method_24_code 6 = .ok (.iconst 4, 1) := by decide +kernel
theorem d_X6_judge_7 : decode prog_1_method_24_code 7 = .ok (.if_icmp .gt 9, 3) := by decide +kernel
theorem d_X6_judge_10 : decode prog_1_method_24_code 10 = .ok (.lload_n 2, 1) := by decide +kernel
theorem d_X6_judge_11 : decode prog_1_method_24_code 11 = .ok (.lconst 0, 1) := by decide +kernel
theorem d_X6_judge_12 : decode prog_1_method_24_code 12 = .ok (.lcmp, 1) := by decide +kernel
theorem d_X6_judge_13 : decode prog_1_method_24_code 13 = .ok (.ifCond .ge 6, 3) := by decide +kernel
theorem d_X6_judge_16 : decode prog_1_method_24_code 16 = .ok (.bipush (-2), 2) := by decide +kernel
theorem d_X6_judge_18 : decode prog_1_method_24_code 18 = .ok (.ireturn, 1) := by decide +kernel
theorem d_X6_judge_19 : decode prog_1_method_24_code 19 = .ok (.lload_n 2, 1) := by decide +kernel
theorem d_X6_judge_20 : decode prog_1_method_24_code 20 = .ok (.lstore 4, 2) := by decide +kernel
theorem d_X6_judge_22 : decode prog_1_method_24_code 22 = .ok (.iload_n 1, 1) := by decide +kernel
theorem d_X6_judge_23 : decode prog_1_method_24_code 23 = .ok (.iconst 1, 1) := by decide +kernel
theorem d_X6_judge_24 : decode prog_1_method_24_code 24 = .ok (.isub, 1) := by decide +kernel
theorem d_X6_judge_25 : decode prog_1_method_24_code 25 = .ok (.istore 6, 2) := by decide +kernel
theorem d_X6_judge_27 : decode prog_1_method_24_code 27 = .ok (.iload 6, 2) := by decide +kernel
theorem d_X6_judge_29 : decode prog_1_method_24_code 29 = .ok (.ifCond .lt 31, 3) := by decide +kernel
theorem d_X6_judge_32 : decode prog_1_method_24_code 32 = .ok (.aload_n 0, 1) := by decide +kernel
theorem d_X6_judge_33 : decode prog_1_method_24_code 33 = .ok (.getfield 59, 3) := by decide +kernel
theorem d_X6_judge_36 : decode prog_1_method_24_code 36 = .ok (.iload 6, 2) := by decide +kernel
theorem d_X6_judge_38 : decode prog_1_method_24_code 38 = .ok (.lload 4, 2) := by decide +kernel
theorem d_X6_judge_40 : decode prog_1_method_24_code 40 = .ok (.ldc2_w 232, 3) := by decide +kernel
theorem d_X6_judge_43 : decode prog_1_method_24_code 43 = .ok (.lrem, 1) := by decide +kernel
theorem d_X6_judge_44 : decode prog_1_method_24_code 44 = .ok (.l2i, 1) := by decide +kernel
theorem d_X6_judge_45 : decode prog_1_method_24_code 45 = .ok (.iastore, 1) := by decide +kernel
theorem d_X6_judge_46 : decode prog_1_method_24_code 46 = .ok (.lload 4, 2) := by decide +kernel
theorem d_X6_judge_48 : decode prog_1_method_24_code 48 = .ok (.ldc2_w 232, 3) := by decide +kernel
theorem d_X6_judge_51 : decode prog_1_method_24_code 51 = .ok (.ldiv, 1) := by decide +kernel
theorem d_X6_judge_52 : decode prog_1_method_24_code 52 = .ok (.lstore 4, 2) := by decide +kernel
theorem d_X6_judge_54 : decode prog_1_method_24_code 54 = .ok (.iinc 6 (-1), 3) := by decide +kernel
theorem d_X6_judge_57 : decode prog_1_method_24_code 57 = .ok (.goto (-30), 3) := by decide +kernel
theorem d_X6_judge_60 : decode prog_1_method_24_code 60 = .ok (.lload 4, 2) := by decide +kernel
theorem d_X6_judge_62 : decode prog_1_method_24_code 62 = .ok (.lconst 0, 1) := by decide +kernel
theorem d_X6_judge_63 : decode prog_1_method_24_code 63 = .ok (.lcmp, 1) := by decide +kernel
theorem d_X6_judge_64 : decode prog_1_method_24_code 64 = .ok (.ifCond .eq 6, 3) := by decide +kernel
theorem d_X6_judge_67 : decode prog_1_method_24_code 67 = .ok (.bipush (-2), 2) := by decide +kernel
theorem d_X6_judge_69 : decode prog_1_method_24_code 69 = .ok (.ireturn, 1) := by decide +kernel
theorem d_X6_judge_70 : decode prog_1_method_24_code 70 = .ok (.aload_n 0, 1) := by decide +kernel
theorem d_X6_judge_71 : decode prog_1_method_24_code 71 = .ok (.getfield 23, 3) := by decide +kernel
theorem d_X6_judge_74 : decode prog_1_method_24_code 74 = .ok (.aload_n 0, 1) := by decide +kernel
theorem d_X6_judge_75 : decode prog_1_method_24_code 75 = .ok (.getfield 19, 3) := by decide +kernel
theorem d_X6_judge_78 : decode prog_1_method_24_code 78 = .ok (.invokevirtual 78, 3) := by decide +kernel
theorem d_X6_judge_81 : decode prog_1_method_24_code 81 = .ok (.iconst 0, 1) := by decide +kernel
theorem d_X6_judge_82 : decode prog_1_method_24_code 82 = .ok (.istore 6, 2) := by decide +kernel
theorem d_X6_judge_84 : decode prog_1_method_24_code 84 = .ok (.iload 6, 2) := by decide +kernel
theorem d_X6_judge_86 : decode prog_1_method_24_code 86 = .ok (.iload_n 1, 1) := by decide +kernel
theorem d_X6_judge_87 : decode prog_1_method_24_code 87 = .ok (.if_icmp .ge 26, 3) := by decide +kernel
theorem d_X6_judge_90 : decode prog_1_method_24_code 90 = .ok (.aload_n 0, 1) := by decide +kernel
theorem d_X6_judge_91 : decode prog_1_method_24_code 91 = .ok (.aload_n 0, 1) := by decide +kernel
theorem d_X6_judge_92 : decode prog_1_method_24_code 92 = .ok (.getfield 59, 3) := by decide +kernel
theorem d_X6_judge_95 : decode prog_1_method_24_code 95 = .ok (.iload 6, 2) := by decide +kernel
theorem d_X6_judge_97 : decode prog_1_method_24_code 97 = .ok (.iaload, 1) := by decide +kernel
theorem d_X6_judge_98 : decode prog_1_method_24_code 98 = .ok (.invokevirtual 234, 3) := by decide +kernel
theorem d_X6_judge_101 : decode prog_1_method_24_code 101 = .ok (.ifCond .ne 6, 3) := by decide +kernel
theorem d_X6_judge_104 : decode prog_1_method_24_code 104 = .ok (.iload 6, 2) := by decide +kernel
theorem d_X6_judge_106 : decode prog_1_method_24_code 106 = .ok (.ireturn, 1) := by decide +kernel
theorem d_X6_judge_107 : decode prog_1_method_24_code 107 = .ok (.iinc 6 1, 3) := by decide +kernel
theorem d_X6_judge_110 : decode prog_1_method_24_code 110 = .ok (.goto (-26), 3) := by decide +kernel
theorem d_X6_judge_113 : decode prog_1_method_24_code 113 = .ok (.bipush (-9), 2) := by decide +kernel
theorem d_X6_judge_115 : decode prog_1_method_24_code 115 = .ok (.ireturn, 1) := by decide +kernel
abbrev M_Slots_judge : zMT := (⟨"PeriodSlots", "judge", "(IJ)I"⟩, prog_1_method_24_code, 7, (some .int))
theorem k_Slots_judge : zcall M_Slots_judge 2 := ⟨zU_in (i := 634) (by decide +kernel) rfl, m54, ⟨by decide, by decide, by decide +kernel⟩, by decide⟩
def o_Slots_judge (h : zHp) (n : Int32) (row : Int64) : Int32 × zHp :=
  (if n < 1 then ((-2), h) else (if 4 < n then ((-2), h) else (if 0 ≤ (lg_cmp row 0) then (if (lg_cmp (zrep (fun (i27_4 : Nat) (s27_4 : Int64 × zHp) => ((s27_4.1 / 10000), (zup s27_4.2 50 (((zcn n) - 1) - i27_4) (Int64.toInt32 (zlrem s27_4.1 10000))))) (row, h) (((zcn n) - 1) + 1)).1 0) = 0 then (Sum.elim (fun r84_7 => ((-9), r84_7)) (fun q84_7 => q84_7) (zrex (fun (i84_7 : Nat) (s84_7 : zHp) => ((if ((o_Slots_isTrue s84_7 ((zrep (fun (i27_4 : Nat) (s27_4 : Int64 × zHp) => ((s27_4.1 / 10000), (zup s27_4.2 50 (((zcn n) - 1) - i27_4) (Int64.toInt32 (zlrem s27_4.1 10000))))) (row, h) (((zcn n) - 1) + 1)).2 50 i84_7)).1) = true then .inl ((o_Slots_isTrue s84_7 ((zrep (fun (i27_4 : Nat) (s27_4 : Int64 × zHp) => ((s27_4.1 / 10000), (zup s27_4.2 50 (((zcn n) - 1) - i27_4) (Int64.toInt32 (zlrem s27_4.1 10000))))) (row, h) (((zcn n) - 1) + 1)).2 50 i84_7)).2) else .inr ((nI i84_7), ((o_Slots_isTrue s84_7 ((zrep (fun (i27_4 : Nat) (s27_4 : Int64 × zHp) => ((s27_4.1 / 10000), (zup s27_4.2 50 (((zcn n) - 1) - i27_4) (Int64.toInt32 (zlrem s27_4.1 10000))))) (row, h) (((zcn n) - 1) + 1)).2 50 i84_7)).2))) : (zHp) ⊕ (Int32 × zHp))) (o_Mesh_copyFrom (zrep (fun (i27_4 : Nat) (s27_4 : Int64 × zHp) => ((s27_4.1 / 10000), (zup s27_4.2 50 (((zcn n) - 1) - i27_4) (Int64.toInt32 (zlrem s27_4.1 10000))))) (row, h) (((zcn n) - 1) + 1)).2 15 3) (zcn n))) else ((-2), (zrep (fun (i27_4 : Nat) (s27_4 : Int64 × zHp) => ((s27_4.1 / 10000), (zup s27_4.2 50 (((zcn n) - 1) - i27_4) (Int64.toInt32 (zlrem s27_4.1 10000))))) (row, h) (((zcn n) - 1) + 1)).2)) else ((-2), h))))
theorem fr_Slots_judge {h : zHp} {n : Int32} {row : Int64} (c k : Nat) (q0 : ¬ (c = 15 ∧ k = 1)) (q1 : c ≠ 17) (q2 : c ≠ 18) (q3 : c ≠ 19) (q4 : c ≠ 21) (q5 : c ≠ 22) (q6 : c ≠ 23) (q7 : c ≠ 24) (q8 : c ≠ 25) (q9 : c ≠ 26) (q10 : ¬ (c = 27 ∧ k = 0)) (q11 : ¬ (c = 27 ∧ k = 1)) (q12 : ¬ (c = 27 ∧ k = 2)) (q13 : c ≠ 28) (q14 : c ≠ 29) (q15 : c ≠ 30) (q16 : c ≠ 31) (q17 : c ≠ 32) (q18 : c ≠ 33) (q19 : c ≠ 34) (q20 : c ≠ 35) (q21 : c ≠ 36) (q22 : c ≠ 37) (q23 : c ≠ 38) (q24 : ¬ (c = 15 ∧ k = 0)) (q25 : ¬ (c = 15 ∧ k = 2)) (q26 : c ≠ 16) (q27 : c ≠ 20) (q28 : c ≠ 50) : (o_Slots_judge h n row).2 c k = h c k := by
  unfold o_Slots_judge
  by_cases f1 : n < 1
  · rw [if_pos f1]
    try dsimp only
    first | done | exact rfl
  · rw [if_neg f1]
    by_cases f2 : 4 < n
    · rw [if_pos f2]
      try dsimp only
      first | done | exact rfl
    · rw [if_neg f2]
      by_cases f3 : 0 ≤ (lg_cmp row 0)
      · rw [if_pos f3]
        by_cases f4 : (lg_cmp (zrep (fun (i27_4 : Nat) (s27_4 : Int64 × zHp) => ((s27_4.1 / 10000), (zup s27_4.2 50 (((zcn n) - 1) - i27_4) (Int64.toInt32 (zlrem s27_4.1 10000))))) (row, h) (((zcn n) - 1) + 1)).1 0) = 0
        · rw [if_pos f4]
          have hI27_4 := zrep_inv (f := (fun (i27_4 : Nat) (s27_4 : Int64 × zHp) => ((s27_4.1 / 10000), (zup s27_4.2 50 (((zcn n) - 1) - i27_4) (Int64.toInt32 (zlrem s27_4.1 10000)))))) (a := (row, h)) (fun _ s27_4 => ∀ c k : Nat, ¬ (c = 15 ∧ k = 1) → c ≠ 17 → c ≠ 18 → c ≠ 19 → c ≠ 21 → c ≠ 22 → c ≠ 23 → c ≠ 24 → c ≠ 25 → c ≠ 26 → ¬ (c = 27 ∧ k = 0) → ¬ (c = 27 ∧ k = 1) → ¬ (c = 27 ∧ k = 2) → c ≠ 28 → c ≠ 29 → c ≠ 30 → c ≠ 31 → c ≠ 32 → c ≠ 33 → c ≠ 34 → c ≠ 35 → c ≠ 36 → c ≠ 37 → c ≠ 38 → ¬ (c = 15 ∧ k = 0) → ¬ (c = 15 ∧ k = 2) → c ≠ 16 → c ≠ 20 → c ≠ 50 → s27_4.2 c k = h c k) (((zcn n) - 1) + 1) (fun _ _ _ _ _ _ _ _ _ _ _ _ _ _ _ _ _ _ _ _ _ _ _ _ _ _ _ _ _ _ _ => (by dsimp only)) (fun i27_4 s27_4 hi27_4 hI27_4 => (fun c k q0 q1 q2 q3 q4 q5 q6 q7 q8 q9 q10 q11 q12 q13 q14 q15 q16 q17 q18 q19 q20 q21 q22 q23 q24 q25 q26 q27 q28 => (by (try dsimp only); exact ((zup_fr (Or.inl (by assumption))).trans (hI27_4 _ _ (by assumption) (by assumption) (by assumption) (by assumption) (by assumption) (by assumption) (by assumption) (by assumption) (by assumption) (by assumption) (by assumption) (by assumption) (by assumption) (by assumption) (by assumption) (by assumption) (by assumption) (by assumption) (by assumption) (by assumption) (by assumption) (by assumption) (by assumption) (by assumption) (by assumption) (by assumption) (by assumption) (by assumption) (by assumption))))))
          have hX := zrex_inv (f := (fun (i84_7 : Nat) (s84_7 : zHp) => ((if ((o_Slots_isTrue s84_7 ((zrep (fun (i27_4 : Nat) (s27_4 : Int64 × zHp) => ((s27_4.1 / 10000), (zup s27_4.2 50 (((zcn n) - 1) - i27_4) (Int64.toInt32 (zlrem s27_4.1 10000))))) (row, h) (((zcn n) - 1) + 1)).2 50 i84_7)).1) = true then .inl ((o_Slots_isTrue s84_7 ((zrep (fun (i27_4 : Nat) (s27_4 : Int64 × zHp) => ((s27_4.1 / 10000), (zup s27_4.2 50 (((zcn n) - 1) - i27_4) (Int64.toInt32 (zlrem s27_4.1 10000))))) (row, h) (((zcn n) - 1) + 1)).2 50 i84_7)).2) else .inr ((nI i84_7), ((o_Slots_isTrue s84_7 ((zrep (fun (i27_4 : Nat) (s27_4 : Int64 × zHp) => ((s27_4.1 / 10000), (zup s27_4.2 50 (((zcn n) - 1) - i27_4) (Int64.toInt32 (zlrem s27_4.1 10000))))) (row, h) (((zcn n) - 1) + 1)).2 50 i84_7)).2))) : (zHp) ⊕ (Int32 × zHp)))) (a := (o_Mesh_copyFrom (zrep (fun (i27_4 : Nat) (s27_4 : Int64 × zHp) => ((s27_4.1 / 10000), (zup s27_4.2 50 (((zcn n) - 1) - i27_4) (Int64.toInt32 (zlrem s27_4.1 10000))))) (row, h) (((zcn n) - 1) + 1)).2 15 3)) (fun _ s84_7 => ∀ c k : Nat, ¬ (c = 15 ∧ k = 1) → c ≠ 17 → c ≠ 18 → c ≠ 19 → c ≠ 21 → c ≠ 22 → c ≠ 23 → c ≠ 24 → c ≠ 25 → c ≠ 26 → ¬ (c = 27 ∧ k = 0) → ¬ (c = 27 ∧ k = 1) → ¬ (c = 27 ∧ k = 2) → c ≠ 28 → c ≠ 29 → c ≠ 30 → c ≠ 31 → c ≠ 32 → c ≠ 33 → c ≠ 34 → c ≠ 35 → c ≠ 36 → c ≠ 37 → c ≠ 38 → s84_7 c k = (o_Mesh_copyFrom (zrep (fun (i27_4 : Nat) (s27_4 : Int64 × zHp) => ((s27_4.1 / 10000), (zup s27_4.2 50 (((zcn n) - 1) - i27_4) (Int64.toInt32 (zlrem s27_4.1 10000))))) (row, h) (((zcn n) - 1) + 1)).2 15 3) c k) (fun q84_7 => ∀ c k : Nat, ¬ (c = 15 ∧ k = 1) → c ≠ 17 → c ≠ 18 → c ≠ 19 → c ≠ 21 → c ≠ 22 → c ≠ 23 → c ≠ 24 → c ≠ 25 → c ≠ 26 → ¬ (c = 27 ∧ k = 0) → ¬ (c = 27 ∧ k = 1) → ¬ (c = 27 ∧ k = 2) → c ≠ 28 → c ≠ 29 → c ≠ 30 → c ≠ 31 → c ≠ 32 → c ≠ 33 → c ≠ 34 → c ≠ 35 → c ≠ 36 → c ≠ 37 → c ≠ 38 → q84_7.2 c k = (o_Mesh_copyFrom (zrep (fun (i27_4 : Nat) (s27_4 : Int64 × zHp) => ((s27_4.1 / 10000), (zup s27_4.2 50 (((zcn n) - 1) - i27_4) (Int64.toInt32 (zlrem s27_4.1 10000))))) (row, h) (((zcn n) - 1) + 1)).2 15 3) c k) (zcn n) (fun _ _ _ _ _ _ _ _ _ _ _ _ _ _ _ _ _ _ _ _ _ _ _ _ _ _ => rfl) (fun i84_7 s84_7 hi84_7 hI84_7 => ⟨(by intro s2 hs; (try dsimp only at hs); by_cases cc : ((o_Slots_isTrue s84_7 ((zrep (fun (i27_4 : Nat) (s27_4 : Int64 × zHp) => ((s27_4.1 / 10000), (zup s27_4.2 50 (((zcn n) - 1) - i27_4) (Int64.toInt32 (zlrem s27_4.1 10000))))) (row, h) (((zcn n) - 1) + 1)).2 50 i84_7)).1) = true; (rw [if_pos cc] at hs; cases hs; exact fun c k q0 q1 q2 q3 q4 q5 q6 q7 q8 q9 q10 q11 q12 q13 q14 q15 q16 q17 q18 q19 q20 q21 q22 q23 => (by (try dsimp only); exact ((fr_Slots_isTrue _ _ (by assumption) (by assumption) (by assumption) (by assumption) (by assumption) (by assumption) (by assumption) (by assumption) (by assumption) (by assumption) (by assumption) (by assumption) (by assumption) (by assumption) (by assumption) (by assumption) (by assumption) (by assumption) (by assumption) (by assumption) (by assumption) (by assumption) (by assumption) (by assumption)).trans (hI84_7 _ _ (by assumption) (by assumption) (by assumption) (by assumption) (by assumption) (by assumption) (by assumption) (by assumption) (by assumption) (by assumption) (by assumption) (by assumption) (by assumption) (by assumption) (by assumption) (by assumption) (by assumption) (by assumption) (by assumption) (by assumption) (by assumption) (by assumption) (by assumption) (by assumption))))); (rw [if_neg cc] at hs; cases hs)), (by intro r hs; (try dsimp only at hs); by_cases cc : ((o_Slots_isTrue s84_7 ((zrep (fun (i27_4 : Nat) (s27_4 : Int64 × zHp) => ((s27_4.1 / 10000), (zup s27_4.2 50 (((zcn n) - 1) - i27_4) (Int64.toInt32 (zlrem s27_4.1 10000))))) (row, h) (((zcn n) - 1) + 1)).2 50 i84_7)).1) = true; (rw [if_pos cc] at hs; cases hs); (rw [if_neg cc] at hs; cases hs; exact fun c k q0 q1 q2 q3 q4 q5 q6 q7 q8 q9 q10 q11 q12 q13 q14 q15 q16 q17 q18 q19 q20 q21 q22 q23 => (by (try dsimp only); exact ((fr_Slots_isTrue _ _ (by assumption) (by assumption) (by assumption) (by assumption) (by assumption) (by assumption) (by assumption) (by assumption) (by assumption) (by assumption) (by assumption) (by assumption) (by assumption) (by assumption) (by assumption) (by assumption) (by assumption) (by assumption) (by assumption) (by assumption) (by assumption) (by assumption) (by assumption) (by assumption)).trans (hI84_7 _ _ (by assumption) (by assumption) (by assumption) (by assumption) (by assumption) (by assumption) (by assumption) (by assumption) (by assumption) (by assumption) (by assumption) (by assumption) (by assumption) (by assumption) (by assumption) (by assumption) (by assumption) (by assumption) (by assumption) (by assumption) (by assumption) (by assumption) (by assumption) (by assumption))))))⟩)
          cases hz : (zrex (fun (i84_7 : Nat) (s84_7 : zHp) => ((if ((o_Slots_isTrue s84_7 ((zrep (fun (i27_4 : Nat) (s27_4 : Int64 × zHp) => ((s27_4.1 / 10000), (zup s27_4.2 50 (((zcn n) - 1) - i27_4) (Int64.toInt32 (zlrem s27_4.1 10000))))) (row, h) (((zcn n) - 1) + 1)).2 50 i84_7)).1) = true then .inl ((o_Slots_isTrue s84_7 ((zrep (fun (i27_4 : Nat) (s27_4 : Int64 × zHp) => ((s27_4.1 / 10000), (zup s27_4.2 50 (((zcn n) - 1) - i27_4) (Int64.toInt32 (zlrem s27_4.1 10000))))) (row, h) (((zcn n) - 1) + 1)).2 50 i84_7)).2) else .inr ((nI i84_7), ((o_Slots_isTrue s84_7 ((zrep (fun (i27_4 : Nat) (s27_4 : Int64 × zHp) => ((s27_4.1 / 10000), (zup s27_4.2 50 (((zcn n) - 1) - i27_4) (Int64.toInt32 (zlrem s27_4.1 10000))))) (row, h) (((zcn n) - 1) + 1)).2 50 i84_7)).2))) : (zHp) ⊕ (Int32 × zHp))) (o_Mesh_copyFrom (zrep (fun (i27_4 : Nat) (s27_4 : Int64 × zHp) => ((s27_4.1 / 10000), (zup s27_4.2 50 (((zcn n) - 1) - i27_4) (Int64.toInt32 (zlrem s27_4.1 10000))))) (row, h) (((zcn n) - 1) + 1)).2 15 3) (zcn n)) with
          | inl r84_7 =>
            have hI84_7 := hX.1 r84_7 hz
            simp only [Sum.elim_inl]
            have hI27_4 := zrep_inv (f := (fun (i27_4 : Nat) (s27_4 : Int64 × zHp) => ((s27_4.1 / 10000), (zup s27_4.2 50 (((zcn n) - 1) - i27_4) (Int64.toInt32 (zlrem s27_4.1 10000)))))) (a := (row, h)) (fun _ s27_4 => ∀ c k : Nat, ¬ (c = 15 ∧ k = 1) → c ≠ 17 → c ≠ 18 → c ≠ 19 → c ≠ 21 → c ≠ 22 → c ≠ 23 → c ≠ 24 → c ≠ 25 → c ≠ 26 → ¬ (c = 27 ∧ k = 0) → ¬ (c = 27 ∧ k = 1) → ¬ (c = 27 ∧ k = 2) → c ≠ 28 → c ≠ 29 → c ≠ 30 → c ≠ 31 → c ≠ 32 → c ≠ 33 → c ≠ 34 → c ≠ 35 → c ≠ 36 → c ≠ 37 → c ≠ 38 → ¬ (c = 15 ∧ k = 0) → ¬ (c = 15 ∧ k = 2) → c ≠ 16 → c ≠ 20 → c ≠ 50 → s27_4.2 c k = h c k) (((zcn n) - 1) + 1) (fun _ _ _ _ _ _ _ _ _ _ _ _ _ _ _ _ _ _ _ _ _ _ _ _ _ _ _ _ _ _ _ => (by dsimp only)) (fun i27_4 s27_4 hi27_4 hI27_4 => (fun c k q0 q1 q2 q3 q4 q5 q6 q7 q8 q9 q10 q11 q12 q13 q14 q15 q16 q17 q18 q19 q20 q21 q22 q23 q24 q25 q26 q27 q28 => (by (try dsimp only); exact ((zup_fr (Or.inl (by assumption))).trans (hI27_4 _ _ (by assumption) (by assumption) (by assumption) (by assumption) (by assumption) (by assumption) (by assumption) (by assumption) (by assumption) (by assumption) (by assumption) (by assumption) (by assumption) (by assumption) (by assumption) (by assumption) (by assumption) (by assumption) (by assumption) (by assumption) (by assumption) (by assumption) (by assumption) (by assumption) (by assumption) (by assumption) (by assumption) (by assumption) (by assumption))))))
            try dsimp only
            first | done | exact ((hI84_7 _ _ (by assumption) (by assumption) (by assumption) (by assumption) (by assumption) (by assumption) (by assumption) (by assumption) (by assumption) (by assumption) (by assumption) (by assumption) (by assumption) (by assumption) (by assumption) (by assumption) (by assumption) (by assumption) (by assumption) (by assumption) (by assumption) (by assumption) (by assumption) (by assumption)).trans ((fr_Mesh_copyFrom _ _ (by assumption) (by assumption) (by assumption) (by assumption) (by assumption) (by assumption) (by assumption) (by assumption) (by assumption) (by assumption) (by assumption) (by assumption)).trans (hI27_4 _ _ (by assumption) (by assumption) (by assumption) (by assumption) (by assumption) (by assumption) (by assumption) (by assumption) (by assumption) (by assumption) (by assumption) (by assumption) (by assumption) (by assumption) (by assumption) (by assumption) (by assumption) (by assumption) (by assumption) (by assumption) (by assumption) (by assumption) (by assumption) (by assumption) (by assumption) (by assumption) (by assumption) (by assumption) (by assumption))))
          | inr q84_7 =>
            exact (hX.2 q84_7 hz c k (by assumption) (by assumption) (by assumption) (by assumption) (by assumption) (by assumption) (by assumption) (by assumption) (by assumption) (by assumption) (by assumption) (by assumption) (by assumption) (by assumption) (by assumption) (by assumption) (by assumption) (by assumption) (by assumption) (by assumption) (by assumption) (by assumption) (by assumption) (by assumption)).trans ((fr_Mesh_copyFrom _ _ (by assumption) (by assumption) (by assumption) (by assumption) (by assumption) (by assumption) (by assumption) (by assumption) (by assumption) (by assumption) (by assumption) (by assumption)).trans (hI27_4 _ _ (by assumption) (by assumption) (by assumption) (by assumption) (by assumption) (by assumption) (by assumption) (by assumption) (by assumption) (by assumption) (by assumption) (by assumption) (by assumption) (by assumption) (by assumption) (by assumption) (by assumption) (by assumption) (by assumption) (by assumption) (by assumption) (by assumption) (by assumption) (by assumption) (by assumption) (by assumption) (by assumption) (by assumption) (by assumption)))
        · rw [if_neg f4]
          have hI27_4 := zrep_inv (f := (fun (i27_4 : Nat) (s27_4 : Int64 × zHp) => ((s27_4.1 / 10000), (zup s27_4.2 50 (((zcn n) - 1) - i27_4) (Int64.toInt32 (zlrem s27_4.1 10000)))))) (a := (row, h)) (fun _ s27_4 => ∀ c k : Nat, ¬ (c = 15 ∧ k = 1) → c ≠ 17 → c ≠ 18 → c ≠ 19 → c ≠ 21 → c ≠ 22 → c ≠ 23 → c ≠ 24 → c ≠ 25 → c ≠ 26 → ¬ (c = 27 ∧ k = 0) → ¬ (c = 27 ∧ k = 1) → ¬ (c = 27 ∧ k = 2) → c ≠ 28 → c ≠ 29 → c ≠ 30 → c ≠ 31 → c ≠ 32 → c ≠ 33 → c ≠ 34 → c ≠ 35 → c ≠ 36 → c ≠ 37 → c ≠ 38 → ¬ (c = 15 ∧ k = 0) → ¬ (c = 15 ∧ k = 2) → c ≠ 16 → c ≠ 20 → c ≠ 50 → s27_4.2 c k = h c k) (((zcn n) - 1) + 1) (fun _ _ _ _ _ _ _ _ _ _ _ _ _ _ _ _ _ _ _ _ _ _ _ _ _ _ _ _ _ _ _ => (by dsimp only)) (fun i27_4 s27_4 hi27_4 hI27_4 => (fun c k q0 q1 q2 q3 q4 q5 q6 q7 q8 q9 q10 q11 q12 q13 q14 q15 q16 q17 q18 q19 q20 q21 q22 q23 q24 q25 q26 q27 q28 => (by (try dsimp only); exact ((zup_fr (Or.inl (by assumption))).trans (hI27_4 _ _ (by assumption) (by assumption) (by assumption) (by assumption) (by assumption) (by assumption) (by assumption) (by assumption) (by assumption) (by assumption) (by assumption) (by assumption) (by assumption) (by assumption) (by assumption) (by assumption) (by assumption) (by assumption) (by assumption) (by assumption) (by assumption) (by assumption) (by assumption) (by assumption) (by assumption) (by assumption) (by assumption) (by assumption) (by assumption))))))
          try dsimp only
          first | done | exact (hI27_4 _ _ (by assumption) (by assumption) (by assumption) (by assumption) (by assumption) (by assumption) (by assumption) (by assumption) (by assumption) (by assumption) (by assumption) (by assumption) (by assumption) (by assumption) (by assumption) (by assumption) (by assumption) (by assumption) (by assumption) (by assumption) (by assumption) (by assumption) (by assumption) (by assumption) (by assumption) (by assumption) (by assumption) (by assumption) (by assumption))
      · rw [if_neg f3]
        try dsimp only
        first | done | exact rfl
set_option maxHeartbeats 400000 in
set_option maxRecDepth 20000 in
theorem c_Slots_judge (X : zXT) (h : zHp) (g : zLg) (n : Int32) (row : Int64) (hf0 : zfit h 3 0 8) : zDi X M_Slots_judge 6 [zR X 0, .int n, .long row] h g (zI ((o_Slots_judge h n row).1)) ((o_Slots_judge h n row).2) g := by
  have hf0_1 := hf0.1
  refine zDi_of "PeriodSlots" prog_1_method_24_code 7 (some .int) rfl (by decide) [zO X 0, zI n, zL row, none, none, none, none] rfl (fun _ q => q) (Nat.le_of_ble_eq_true rfl) ?_
  intro Γ Q C hQ
  refine zr_iload_n C d_X6_judge_0 rfl ?_
  refine zr_iconst C (v := 1) d_X6_judge_1 (by decide) ?_
  refine zr_icmp_lt C 16 d_X6_judge_2 (by decide) (fun c2 => ?_) (fun c2 => ?_)
  · refine zr_bipush C (v := (-2)) d_X6_judge_16 (by decide) ?_
    have eR : o_Slots_judge h n row = ((-2), h) := (by unfold o_Slots_judge; rw [if_pos c2])
    subst hQ
    exact zTQ_Ih eR (zr_ireti C d_X6_judge_18)
  · have ex1 := zge1 c2
    have ex1_2 := ex1.2
    refine zr_iload_n C d_X6_judge_5 rfl ?_
    refine zr_iconst C (v := 4) d_X6_judge_6 (by decide) ?_
    refine zr_icmp_gt C 16 d_X6_judge_7 (by decide) (fun c7 => ?_) (fun c7 => ?_)
    · have en2 := zn_gt (a := zcn n) (b := 4) (zix ex1.1) rfl c7 (zcn_small _) (by decide)
      refine zr_bipush C (v := (-2)) d_X6_judge_16 (by decide) ?_
      have eR : o_Slots_judge h n row = ((-2), h) := (by unfold o_Slots_judge; rw [if_neg c2, if_pos c7])
      subst hQ
      exact zTQ_Ih eR (zr_ireti C d_X6_judge_18)
    · have en3 := zn_ngt (a := zcn n) (b := 4) (zix ex1.1) rfl c7 (zcn_small _) (by decide)
      refine zr_lload_n C d_X6_judge_10 rfl ?_
      refine zr_lconst C (v := 0) d_X6_judge_11 (by decide) ?_
      refine zr_lcmp C d_X6_judge_12 ?_
      refine zr_if_ge C 19 d_X6_judge_13 (by decide) (fun c13 => ?_) (fun c13 => ?_)
      · refine zr_lload_n C d_X6_judge_19 rfl ?_
        refine zr_lstore C [zO X 0, zI n, zL row, none, zL row, none, none] d_X6_judge_20 (Nat.le_of_ble_eq_true rfl) rfl rfl ?_
        refine zr_iload_n C d_X6_judge_22 rfl ?_
        refine zr_iconst C (v := 1) d_X6_judge_23 (by decide) ?_
        refine zr_isub C d_X6_judge_24 ?_
        refine zr_istore C [zO X 0, zI n, zL row, none, zL row, none, zI (n - 1)] d_X6_judge_25 (Nat.le_of_ble_eq_true rfl) rfl rfl ?_
        refine zr_loc [zO X 0, zI n, zL row, none, zL row, none, zI (nI ((zcn n) - 1) - nI 0)] 6 (zdn_0 (zn_sub (zix ex1.1) rfl (by omega))) rfl rfl ?_
        refine zr_lv [zO X 0, zI n, none, none, zL row, none, zI (nI ((zcn n) - 1) - nI 0)] (by simp [zle]) ?_
        refine zfor (f := (fun (i27_4 : Nat) (s27_4 : Int64 × zHp) => ((s27_4.1 / 10000), (zup s27_4.2 50 (((zcn n) - 1) - i27_4) (Int64.toInt32 (zlrem s27_4.1 10000)))))) (a := (row, h)) (fun i27_4 s27_4 => zV X Γ Q 27 [zO X 0, zI n, none, none, zL s27_4.1, none, zI (nI ((zcn n) - 1) - nI i27_4)] [] s27_4.2 g) (fun _ s27_4 => ∀ c k : Nat, ¬ (c = 15 ∧ k = 1) → c ≠ 17 → c ≠ 18 → c ≠ 19 → c ≠ 21 → c ≠ 22 → c ≠ 23 → c ≠ 24 → c ≠ 25 → c ≠ 26 → ¬ (c = 27 ∧ k = 0) → ¬ (c = 27 ∧ k = 1) → ¬ (c = 27 ∧ k = 2) → c ≠ 28 → c ≠ 29 → c ≠ 30 → c ≠ 31 → c ≠ 32 → c ≠ 33 → c ≠ 34 → c ≠ 35 → c ≠ 36 → c ≠ 37 → c ≠ 38 → ¬ (c = 15 ∧ k = 0) → ¬ (c = 15 ∧ k = 2) → c ≠ 16 → c ≠ 20 → c ≠ 50 → s27_4.2 c k = h c k) (((zcn n) - 1) + 1) (fun _ _ _ _ _ _ _ _ _ _ _ _ _ _ _ _ _ _ _ _ _ _ _ _ _ _ _ _ _ _ _ => (by dsimp only)) (fun i27_4 s27_4 hi27_4 hI27_4 => ⟨(fun c k q0 q1 q2 q3 q4 q5 q6 q7 q8 q9 q10 q11 q12 q13 q14 q15 q16 q17 q18 q19 q20 q21 q22 q23 q24 q25 q26 q27 q28 => (by (try dsimp only); exact ((zup_fr (Or.inl (by assumption))).trans (hI27_4 _ _ (by assumption) (by assumption) (by assumption) (by assumption) (by assumption) (by assumption) (by assumption) (by assumption) (by assumption) (by assumption) (by assumption) (by assumption) (by assumption) (by assumption) (by assumption) (by assumption) (by assumption) (by assumption) (by assumption) (by assumption) (by assumption) (by assumption) (by assumption) (by assumption) (by assumption) (by assumption) (by assumption) (by assumption) (by assumption))))), fun hk27_4 => ?_⟩) (fun r27_4 er27_4 hI27_4 => ?_)
        · refine zr_iload C d_X6_judge_27 rfl ?_
          refine zr_if_lt C 60 d_X6_judge_29 (by decide) (fun c => absurd c (zdn_no (by omega) (by omega))) (fun _ => ?_)
          refine zr_aload_n C d_X6_judge_32 rfl ?_
          refine gf_Slots_8 C m235 d_X6_judge_33 ?_
          refine zr_iload C d_X6_judge_36 rfl ?_
          refine zr_lload C d_X6_judge_38 rfl ?_
          refine zr_ldc2 C (v := 10000) m635 d_X6_judge_40 ?_
          refine zr_lrem C d_X6_judge_43 (by decide) ?_
          refine zr_l2i C d_X6_judge_44 ?_
          refine zr_iast C za_50 (((zcn n) - 1) - i27_4) (zn_sub rfl rfl (by omega)) (by omega) (by decide) d_X6_judge_45 ?_
          refine zr_h (fun h5 eh5 => ?_)
          refine zr_lload C d_X6_judge_46 rfl ?_
          refine zr_ldc2 C (v := 10000) m635 d_X6_judge_48 ?_
          refine zr_ldiv C d_X6_judge_51 (by decide) ?_
          refine zr_lstore C [zO X 0, zI n, none, none, zL (s27_4.1 / 10000), none, zI (nI ((zcn n) - 1) - nI i27_4)] d_X6_judge_52 (Nat.le_of_ble_eq_true rfl) rfl rfl ?_
          refine zr_iinc C [zO X 0, zI n, none, none, zL (s27_4.1 / 10000), none, zI (nI ((zcn n) - 1) - nI (i27_4 + 1))] (v := (nI ((zcn n) - 1) - nI (i27_4 + 1))) d_X6_judge_54 rfl (zdn_step _ _) (Nat.le_of_ble_eq_true rfl) rfl rfl ?_
          refine zr_goto C 27 d_X6_judge_57 (by decide) ?_
          exact hk27_4 ((s27_4.1 / 10000), h5) (by subst eh5; exact rfl)
        refine zr_iload C d_X6_judge_27 rfl ?_
        refine zr_if_lt C 60 d_X6_judge_29 (by decide) (fun _ => ?_) (fun c => absurd (zdn_yes (by omega)) c)
        refine zr_lload C d_X6_judge_60 rfl ?_
        refine zr_lconst C (v := 0) d_X6_judge_62 (by decide) ?_
        refine zr_lcmp C d_X6_judge_63 ?_
        refine zr_if_eq C 70 d_X6_judge_64 (by decide) (fun c64 => ?_) (fun c64 => ?_)
        · refine zr_aload_n C d_X6_judge_70 rfl ?_
          refine gf_Slots_2 C m229 d_X6_judge_71 ?_
          refine zr_aload_n C d_X6_judge_74 rfl ?_
          refine gf_Slots_1 C m228 d_X6_judge_75 ?_
          refine zr_callVv (As := [zR X 3]) (st := []) (c := 15) C (c_Mesh_copyFrom X r27_4.2 g 15 3 (by decide) (by decide)) k_Mesh_copyFrom m375 m376 m377 (by decide) (zC_Mesh (by decide) X _ _) rfl rfl (by decide) rfl (Nat.le_of_ble_eq_true rfl) d_X6_judge_78 ?_
          refine zr_h (fun h6 eh6 => ?_)
          have hph6 : zfit h6 15 0 8 := by rw [← eh6]; exact pf_copyFrom (zfit_fr (hI27_4 _ _ (by omega) (by omega) (by omega) (by omega) (by omega) (by omega) (by omega) (by omega) (by omega) (by omega) (by omega) (by omega) (by omega) (by omega) (by omega) (by omega) (by omega) (by omega) (by omega) (by omega) (by omega) (by omega) (by omega) (by omega) (by omega) (by omega) (by omega) (by omega) (by omega)) hf0)
          have hph6_1 := hph6.1
          refine zr_iconst C (v := 0) d_X6_judge_81 (by decide) ?_
          refine zr_istore C [zO X 0, zI n, none, none, zL r27_4.1, none, zI 0] d_X6_judge_82 (Nat.le_of_ble_eq_true rfl) rfl rfl ?_
          refine zr_lv [zO X 0, zI n, none, none, none, none, zI 0] (by simp [zle]) ?_
          refine zforx (f := (fun (i84_7 : Nat) (s84_7 : zHp) => ((if ((o_Slots_isTrue s84_7 (r27_4.2 50 i84_7)).1) = true then .inl ((o_Slots_isTrue s84_7 (r27_4.2 50 i84_7)).2) else .inr ((nI i84_7), ((o_Slots_isTrue s84_7 (r27_4.2 50 i84_7)).2))) : (zHp) ⊕ (Int32 × zHp)))) (a := h6) (fun i84_7 s84_7 => zV X Γ Q 84 [zO X 0, zI n, none, none, none, none, zI (nI i84_7)] [] s84_7 g) (fun _ s84_7 => ∀ c k : Nat, ¬ (c = 15 ∧ k = 1) → c ≠ 17 → c ≠ 18 → c ≠ 19 → c ≠ 21 → c ≠ 22 → c ≠ 23 → c ≠ 24 → c ≠ 25 → c ≠ 26 → ¬ (c = 27 ∧ k = 0) → ¬ (c = 27 ∧ k = 1) → ¬ (c = 27 ∧ k = 2) → c ≠ 28 → c ≠ 29 → c ≠ 30 → c ≠ 31 → c ≠ 32 → c ≠ 33 → c ≠ 34 → c ≠ 35 → c ≠ 36 → c ≠ 37 → c ≠ 38 → s84_7 c k = h6 c k) (zcn n) (fun _ _ _ _ _ _ _ _ _ _ _ _ _ _ _ _ _ _ _ _ _ _ _ _ _ _ => rfl) (fun i84_7 s84_7 hi84_7 hI84_7 => ⟨(by intro s2 hs; (try dsimp only at hs); by_cases cc : ((o_Slots_isTrue s84_7 (r27_4.2 50 i84_7)).1) = true; (rw [if_pos cc] at hs; cases hs; exact fun c k q0 q1 q2 q3 q4 q5 q6 q7 q8 q9 q10 q11 q12 q13 q14 q15 q16 q17 q18 q19 q20 q21 q22 q23 => (by (try dsimp only); exact ((fr_Slots_isTrue _ _ (by assumption) (by assumption) (by assumption) (by assumption) (by assumption) (by assumption) (by assumption) (by assumption) (by assumption) (by assumption) (by assumption) (by assumption) (by assumption) (by assumption) (by assumption) (by assumption) (by assumption) (by assumption) (by assumption) (by assumption) (by assumption) (by assumption) (by assumption) (by assumption)).trans (hI84_7 _ _ (by assumption) (by assumption) (by assumption) (by assumption) (by assumption) (by assumption) (by assumption) (by assumption) (by assumption) (by assumption) (by assumption) (by assumption) (by assumption) (by assumption) (by assumption) (by assumption) (by assumption) (by assumption) (by assumption) (by assumption) (by assumption) (by assumption) (by assumption) (by assumption))))); (rw [if_neg cc] at hs; cases hs)), fun hk84_7 hx84_7 => ?_⟩) (fun r84_7 er84_7 hI84_7 => ?_)
          · refine zr_iload C d_X6_judge_84 rfl ?_
            refine zr_iload_n C d_X6_judge_86 rfl ?_
            refine zr_icmp_ge C 113 d_X6_judge_87 (by decide) (fun c => absurd c (zge_no rfl (by omega))) (fun _ => ?_)
            refine zr_aload_n C d_X6_judge_90 rfl ?_
            refine zr_aload_n C d_X6_judge_91 rfl ?_
            refine gf_Slots_8 C m235 d_X6_judge_92 ?_
            refine zr_iload C d_X6_judge_95 rfl ?_
            refine zr_iald C za_50 (i84_7) rfl (by omega) (by decide) d_X6_judge_97 ?_
            refine zr_top ((hI84_7 _ _ (by omega) (by omega) (by omega) (by omega) (by omega) (by omega) (by omega) (by omega) (by omega) (by omega) (by omega) (by omega) (by omega) (by omega) (by omega) (by omega) (by omega) (by omega) (by omega) (by omega) (by omega) (by omega) (by omega) (by omega)).trans ((congrFun (congrFun eh6.symm _) _).trans (fr_Mesh_copyFrom _ _ (by omega) (by omega) (by omega) (by omega) (by omega) (by omega) (by omega) (by omega) (by omega) (by omega) (by omega) (by omega)))) ?_
            refine zr_callVi (As := [.int (r27_4.2 50 i84_7)]) (st := []) (c := 0) C (c_Slots_isTrue X s84_7 g (r27_4.2 50 i84_7) (zfit_fr (hI84_7 _ _ (by omega) (by omega) (by omega) (by omega) (by omega) (by omega) (by omega) (by omega) (by omega) (by omega) (by omega) (by omega) (by omega) (by omega) (by omega) (by omega) (by omega) (by omega) (by omega) (by omega) (by omega) (by omega) (by omega) (by omega)) hph6)) k_Slots_isTrue m636 m638 m12 (by decide) (zC_Slots X _ _) rfl rfl (by decide) rfl (Nat.le_of_ble_eq_true rfl) d_X6_judge_98 ?_
            refine zr_vz (fun y8 ey8 => ?_)
            refine zr_h (fun h9 eh9 => ?_)
            refine zr_ifz_ne C 107 d_X6_judge_101 (by decide) (fun c101 => ?_) (fun c101 => ?_)
            · refine zr_iinc C [zO X 0, zI n, none, none, none, none, zI (nI (i84_7 + 1))] (v := (nI (i84_7 + 1))) d_X6_judge_107 rfl (zn_add rfl rfl) (Nat.le_of_ble_eq_true rfl) rfl rfl ?_
              refine zr_goto C 84 d_X6_judge_110 (by decide) ?_
              exact hk84_7 h9 (by subst eh9 ey8; exact ((if_pos c101)))
            · refine zr_iload C d_X6_judge_104 rfl ?_
              have hr84_7 := hx84_7 (((nI i84_7), h9)) (by subst eh9 ey8; exact ((if_neg (zbf c101))))
              have eR : o_Slots_judge h n row = ((nI i84_7), h9) := (by subst eh9 ey8 eh6 er27_4; unfold o_Slots_judge; exact ((if_neg c2).trans ((if_neg c7).trans ((if_pos c13).trans ((if_pos c64).trans ((congrArg (Sum.elim _ _) hr84_7)))))))
              subst hQ
              exact zTQ_Ih eR (zr_ireti C d_X6_judge_106)
          refine zr_iload C d_X6_judge_84 rfl ?_
          refine zr_iload_n C d_X6_judge_86 rfl ?_
          refine zr_icmp_ge C 113 d_X6_judge_87 (by decide) (fun _ => ?_) (fun c => absurd (zge_yes rfl (by omega) (by have := zcn_small n; omega)) c)
          refine zr_bipush C (v := (-9)) d_X6_judge_113 (by decide) ?_
          have eR : o_Slots_judge h n row = ((-9), r84_7) := (by subst eh6 er27_4; unfold o_Slots_judge; exact ((if_neg c2).trans ((if_neg c7).trans ((if_pos c13).trans ((if_pos c64).trans ((congrArg (Sum.elim _ _) er84_7)))))))
          subst hQ
          exact zTQ_Ih eR (zr_ireti C d_X6_judge_115)
        · refine zr_bipush C (v := (-2)) d_X6_judge_67 (by decide) ?_
          have eR : o_Slots_judge h n row = ((-2), r27_4.2) := (by subst er27_4; unfold o_Slots_judge; rw [if_neg c2, if_neg c7, if_pos c13, if_neg c64])
          subst hQ
          exact zTQ_Ih eR (zr_ireti C d_X6_judge_69)
      · refine zr_bipush C (v := (-2)) d_X6_judge_16 (by decide) ?_
        have eR : o_Slots_judge h n row = ((-2), h) := (by unfold o_Slots_judge; rw [if_neg c2, if_neg c7, if_neg c13])
        subst hQ
        exact zTQ_Ih eR (zr_ireti C d_X6_judge_18)
theorem d_X6_see_0 : decode prog_1_method_30_code 0 = .ok (.aload_n 0, 1) := by decide +kernel
theorem d_X6_see_1 : decode prog_1_method_30_code 1 = .ok (.getfield 19, 3) := by decide +kernel
theorem d_X6_see_4 : decode prog_1_method_30_code 4 = .ok (.iload_n 1, 1) := by decide +kernel
theorem d_X6_see_5 : decode prog_1_method_30_code 5 = .ok (.invokevirtual 118, 3) := by decide +kernel
theorem d_X6_see_8 : decode prog_1_method_30_code 8 = .ok (.ifCond .ne 5, 3) := by decide +kernel
theorem d_X6_see_11 : decode prog_1_method_30_code 11 = .ok (.iconst (-1), 1) := by decide +kernel
theorem d_X6_see_12 : decode prog_1_method_30_code 12 = .ok (.ireturn, 1) := by decide +kernel
theorem d_X6_see_13 : decode prog_1_method_30_code 13 = .ok (.iload_n 2, 1) := by decide +kernel
theorem d_X6_see_14 : decode prog_1_method_30_code 14 = .ok (.ifCond .lt 18, 3) := by decide +kernel
theorem d_X6_see_17 : decode prog_1_method_30_code 17 = .ok (.iload_n 2, 1) := by decide +kernel
theorem d_X6_see_18 : decode prog_1_method_30_code 18 = .ok (.bipush 8, 2) := by decide +kernel
theorem d_X6_see_20 : decode prog_1_method_30_code 20 = .ok (.if_icmp .ge 12, 3) := by decide +kernel
theorem d_X6_see_23 : decode prog_1_method_30_code 23 = .ok (.iload_n 3, 1) := by decide +kernel
theorem d_X6_see_24 : decode prog_1_method_30_code 24 = .ok (.ifCond .lt 8, 3) := by decide +kernel
theorem d_X6_see_27 : decode prog_1_method_30_code 27 = .ok (.iload_n 3, 1) := by decide +kernel
theorem d_X6_see_28 : decode prog_1_method_30_code 28 = .ok (.iconst 2, 1) := by decide +kernel
theorem d_X6_see_29 : decode prog_1_method_30_code 29 = .ok (.if_icmp .le 6, 3) := by decide +kernel
theorem d_X6_see_32 : decode prog_1_method_30_code 32 = .ok (.bipush (-2), 2) := by decide +kernel
theorem d_X6_see_34 : decode prog_1_method_30_code 34 = .ok (.ireturn, 1) := by decide +kernel
theorem d_X6_see_35 : decode prog_1_method_30_code 35 = .ok (.aload_n 0, 1) := by decide +kernel
theorem d_X6_see_36 : decode prog_1_method_30_code 36 = .ok (.getfield 55, 3) := by decide +kernel
theorem d_X6_see_39 : decode prog_1_method_30_code 39 = .ok (.getfield 117, 3) := by decide +kernel
theorem d_X6_see_42 : decode prog_1_method_30_code 42 = .ok (.bipush 6, 2) := by decide +kernel
theorem d_X6_see_44 : decode prog_1_method_30_code 44 = .ok (.if_icmp .lt 6, 3) := by decide +kernel
theorem d_X6_see_47 : decode prog_1_method_30_code 47 = .ok (.bipush (-4), 2) := by decide +kernel
theorem d_X6_see_49 : decode prog_1_method_30_code 49 = .ok (.ireturn, 1) := by decide +kernel
theorem d_X6_see_50 : decode prog_1_method_30_code 50 = .ok (.aload_n 0, 1) := by decide +kernel
theorem d_X6_see_51 : decode prog_1_method_30_code 51 = .ok (.getfield 55, 3) := by decide +kernel
theorem d_X6_see_54 : decode prog_1_method_30_code 54 = .ok (.iload_n 1, 1) := by decide +kernel
theorem d_X6_see_55 : decode prog_1_method_30_code 55 = .ok (.iload_n 2, 1) := by decide +kernel
theorem d_X6_see_56 : decode prog_1_method_30_code 56 = .ok (.iload_n 3, 1) := by decide +kernel
theorem d_X6_see_57 : decode prog_1_method_30_code 57 = .ok (.invokevirtual 249, 3) := by decide +kernel
theorem d_X6_see_60 : decode prog_1_method_30_code 60 = .ok (.aload_n 0, 1) := by decide +kernel
theorem d_X6_see_61 : decode prog_1_method_30_code 61 = .ok (.getfield 55, 3) := by decide +kernel
theorem d_X6_see_64 : decode prog_1_method_30_code 64 = .ok (.getfield 117, 3) := by decide +kernel
theorem d_X6_see_67 : decode prog_1_method_30_code 67 = .ok (.ireturn, 1) := by decide +kernel
abbrev M_Slots_see : zMT := (⟨"PeriodSlots", "see", "(III)I"⟩, prog_1_method_30_code, 4, (some .int))
theorem k_Slots_see : zcall M_Slots_see 3 := ⟨zU_in (i := 659) (by decide +kernel) rfl, m54, ⟨by decide, by decide, by decide +kernel⟩, by decide⟩
def o_Slots_see (h : zHp) (station : Int32) (tick : Int32) (was : Int32) : Int32 × zHp :=
  (if (o_Mesh_exists h 3 station) = true then (if tick < 0 then ((-2), h) else (if 8 ≤ tick then ((-2), h) else (if was < 0 then ((-2), h) else (if was ≤ 2 then (if (h 46 0) < 6 then (((o_Obs_add h station tick was) 46 0), (o_Obs_add h station tick was)) else ((-4), h)) else ((-2), h))))) else ((-1), h))
theorem fr_Slots_see {h : zHp} {station : Int32} {tick : Int32} {was : Int32} (c k : Nat) (q0 : c ≠ 47) (q1 : c ≠ 48) (q2 : c ≠ 49) (q3 : ¬ (c = 46 ∧ k = 0)) : (o_Slots_see h station tick was).2 c k = h c k := by
  unfold o_Slots_see
  by_cases f1 : (o_Mesh_exists h 3 station) = true
  · rw [if_pos f1]
    by_cases f2 : tick < 0
    · rw [if_pos f2]
      try dsimp only
      first | done | exact rfl
    · rw [if_neg f2]
      by_cases f3 : 8 ≤ tick
      · rw [if_pos f3]
        try dsimp only
        first | done | exact rfl
      · rw [if_neg f3]
        by_cases f4 : was < 0
        · rw [if_pos f4]
          try dsimp only
          first | done | exact rfl
        · rw [if_neg f4]
          by_cases f5 : was ≤ 2
          · rw [if_pos f5]
            by_cases f6 : (h 46 0) < 6
            · rw [if_pos f6]
              try dsimp only
              first | done | exact (fr_Obs_add _ _ (by assumption) (by assumption) (by assumption) (by assumption))
            · rw [if_neg f6]
              try dsimp only
              first | done | exact rfl
          · rw [if_neg f5]
            try dsimp only
            first | done | exact rfl
  · rw [if_neg f1]
    try dsimp only
    first | done | exact rfl
set_option maxHeartbeats 400000 in
set_option maxRecDepth 20000 in
theorem c_Slots_see (X : zXT) (h : zHp) (g : zLg) (station : Int32) (tick : Int32) (was : Int32) (hf0 : zfit h 3 0 8) (hf1 : zfit h 46 0 6) : zDi X M_Slots_see 1 [zR X 0, .int station, .int tick, .int was] h g (zI ((o_Slots_see h station tick was).1)) ((o_Slots_see h station tick was).2) g := by
  have hf0_1 := hf0.1
  have hf1_1 := hf1.1
  refine zDi_of "PeriodSlots" prog_1_method_30_code 4 (some .int) rfl (by decide) [zO X 0, zI station, zI tick, zI was] rfl (fun _ q => q) (Nat.le_of_ble_eq_true rfl) ?_
  intro Γ Q C hQ
  refine zr_aload_n C d_X6_see_0 rfl ?_
  refine gf_Slots_1 C m228 d_X6_see_1 ?_
  refine zr_iload_n C d_X6_see_4 rfl ?_
  refine zr_callVi (As := [.int station]) (st := []) (c := 3) C (c_Mesh_exists X h g 3 station (by decide)) k_Mesh_exists m446 m359 m360 (by decide) (zC_Mesh (by decide) X _ _) rfl rfl (by decide) rfl (Nat.le_of_ble_eq_true rfl) d_X6_see_5 ?_
  refine zr_ifz_ne C 13 d_X6_see_8 (by decide) (fun c8 => ?_) (fun c8 => ?_)
  · have ex1 := zex c8
    have ex1_2 := ex1.2
    have ex1_b := (hf0).1
    refine zr_iload_n C d_X6_see_13 rfl ?_
    refine zr_if_lt C 32 d_X6_see_14 (by decide) (fun c14 => ?_) (fun c14 => ?_)
    · refine zr_bipush C (v := (-2)) d_X6_see_32 (by decide) ?_
      have eR : o_Slots_see h station tick was = ((-2), h) := (by unfold o_Slots_see; rw [if_pos c8, if_pos c14])
      subst hQ
      exact zTQ_Ih eR (zr_ireti C d_X6_see_34)
    · refine zr_iload_n C d_X6_see_17 rfl ?_
      refine zr_bipush C (v := 8) d_X6_see_18 (by decide) ?_
      refine zr_icmp_ge C 32 d_X6_see_20 (by decide) (fun c20 => ?_) (fun c20 => ?_)
      · have en2 := zn_ge (a := zcn tick) (b := 8) (zix c14) rfl c20 (zcn_small _) (by decide)
        refine zr_bipush C (v := (-2)) d_X6_see_32 (by decide) ?_
        have eR : o_Slots_see h station tick was = ((-2), h) := (by unfold o_Slots_see; rw [if_pos c8, if_neg c14, if_pos c20])
        subst hQ
        exact zTQ_Ih eR (zr_ireti C d_X6_see_34)
      · have en3 := zn_nge (a := zcn tick) (b := 8) (zix c14) rfl c20 (zcn_small _) (by decide)
        refine zr_iload_n C d_X6_see_23 rfl ?_
        refine zr_if_lt C 32 d_X6_see_24 (by decide) (fun c24 => ?_) (fun c24 => ?_)
        · refine zr_bipush C (v := (-2)) d_X6_see_32 (by decide) ?_
          have eR : o_Slots_see h station tick was = ((-2), h) := (by unfold o_Slots_see; rw [if_pos c8, if_neg c14, if_neg c20, if_pos c24])
          subst hQ
          exact zTQ_Ih eR (zr_ireti C d_X6_see_34)
        · refine zr_iload_n C d_X6_see_27 rfl ?_
          refine zr_iconst C (v := 2) d_X6_see_28 (by decide) ?_
          refine zr_icmp_le C 35 d_X6_see_29 (by decide) (fun c29 => ?_) (fun c29 => ?_)
          · have en4 := zn_le (a := zcn was) (b := 2) (zix c24) rfl c29 (zcn_small _) (by decide)
            refine zr_aload_n C d_X6_see_35 rfl ?_
            refine gf_Slots_7 C m234 d_X6_see_36 ?_
            refine gf_Obs_3 C m217 d_X6_see_39 ?_
            refine zr_bipush C (v := 6) d_X6_see_42 (by decide) ?_
            refine zr_icmp_lt C 50 d_X6_see_44 (by decide) (fun c44 => ?_) (fun c44 => ?_)
            · have en5 := zn_lt (a := zcn (h 46 0)) (b := 6) hf1.2 rfl c44 (zcn_small _) (by decide)
              refine zr_aload_n C d_X6_see_50 rfl ?_
              refine gf_Slots_7 C m234 d_X6_see_51 ?_
              refine zr_iload_n C d_X6_see_54 rfl ?_
              refine zr_iload_n C d_X6_see_55 rfl ?_
              refine zr_iload_n C d_X6_see_56 rfl ?_
              refine zr_callVv (As := [.int station, .int tick, .int was]) (st := []) (c := 46) C (c_Obs_add X h g station tick was hf1) k_Obs_add m660 m661 m662 (by decide) (zC_Obs X _ _) rfl rfl (by decide) rfl (Nat.le_of_ble_eq_true rfl) d_X6_see_57 ?_
              refine zr_h (fun h6 eh6 => ?_)
              refine zr_aload_n C d_X6_see_60 rfl ?_
              refine gf_Slots_7 C m234 d_X6_see_61 ?_
              refine gf_Obs_3 C m217 d_X6_see_64 ?_
              have eR : o_Slots_see h station tick was = ((h6 46 0), h6) := (by subst eh6; unfold o_Slots_see; rw [if_pos c8, if_neg c14, if_neg c20, if_neg c24, if_pos c29, if_pos c44])
              subst hQ
              exact zTQ_Ih eR (zr_ireti C d_X6_see_67)
            · have en7 := zn_nlt (a := zcn (h 46 0)) (b := 6) hf1.2 rfl c44 (zcn_small _) (by decide)
              refine zr_bipush C (v := (-4)) d_X6_see_47 (by decide) ?_
              have eR : o_Slots_see h station tick was = ((-4), h) := (by unfold o_Slots_see; rw [if_pos c8, if_neg c14, if_neg c20, if_neg c24, if_pos c29, if_neg c44])
              subst hQ
              exact zTQ_Ih eR (zr_ireti C d_X6_see_49)
          · have en8 := zn_nle (a := zcn was) (b := 2) (zix c24) rfl c29 (zcn_small _) (by decide)
            refine zr_bipush C (v := (-2)) d_X6_see_32 (by decide) ?_
            have eR : o_Slots_see h station tick was = ((-2), h) := (by unfold o_Slots_see; rw [if_pos c8, if_neg c14, if_neg c20, if_neg c24, if_neg c29])
            subst hQ
            exact zTQ_Ih eR (zr_ireti C d_X6_see_34)
  · refine zr_iconst C (v := (-1)) d_X6_see_11 (by decide) ?_
    have eR : o_Slots_see h station tick was = ((-1), h) := (by unfold o_Slots_see; rw [if_neg (zbf c8)])
    subst hQ
    exact zTQ_Ih eR (zr_ireti C d_X6_see_12)
theorem d_X6_unsee_0 : decode prog_1_method_31_code 0 = .ok (.aload_n 0, 1) := by decide +kernel
theorem d_X6_unsee_1 : decode prog_1_method_31_code 1 = .ok (.getfield 55, 3) := by decide +kernel
theorem d_X6_unsee_4 : decode prog_1_method_31_code 4 = .ok (.getfield 117, 3) := by decide +kernel
theorem d_X6_unsee_7 : decode prog_1_method_31_code 7 = .ok (.istore_n 1, 1) := by decide +kernel
theorem d_X6_unsee_8 : decode prog_1_method_31_code 8 = .ok (.aload_n 0, 1) := by decide +kernel
theorem d_X6_unsee_9 : decode prog_1_method_31_code 9 = .ok (.getfield 55, 3) := by decide +kernel
theorem d_X6_unsee_12 : decode prog_1_method_31_code 12 = .ok (.iconst 0, 1) := by decide +kernel
theorem d_X6_unsee_13 : decode prog_1_method_31_code 13 = .ok (.putfield 117, 3) := by decide +kernel
theorem d_X6_unsee_16 : decode prog_1_method_31_code 16 = .ok (.iload_n 1, 1) := by decide +kernel
theorem d_X6_unsee_17 : decode prog_1_method_31_code 17 = .ok (.ireturn, 1) := by decide +kernel
abbrev M_Slots_unsee : zMT := (⟨"PeriodSlots", "unsee", "()I"⟩, prog_1_method_31_code, 2, (some .int))
theorem k_Slots_unsee : zcall M_Slots_unsee 0 := ⟨zU_in (i := 667) (by decide +kernel) rfl, m54, ⟨by decide, by decide, by decide +kernel⟩, by decide⟩
def o_Slots_unsee (h : zHp) : Int32 × zHp :=
  ((h 46 0), (zup h 46 0 0))
theorem fr_Slots_unsee {h : zHp} (c k : Nat) (q0 : ¬ (c = 46 ∧ k = 0)) : (o_Slots_unsee h).2 c k = h c k := by
  unfold o_Slots_unsee
  try dsimp only
  first | done | exact (zup_fr (by omega))
set_option maxHeartbeats 400000 in
set_option maxRecDepth 20000 in
theorem c_Slots_unsee (X : zXT) (h : zHp) (g : zLg)  : zDi X M_Slots_unsee 0 [zR X 0] h g (zI ((o_Slots_unsee h).1)) ((o_Slots_unsee h).2) g := by
  refine zDi_of "PeriodSlots" prog_1_method_31_code 2 (some .int) rfl (by decide) [zO X 0, none] rfl (fun _ q => q) (Nat.le_of_ble_eq_true rfl) ?_
  intro Γ Q C hQ
  refine zr_aload_n C d_X6_unsee_0 rfl ?_
  refine gf_Slots_7 C m234 d_X6_unsee_1 ?_
  refine gf_Obs_3 C m217 d_X6_unsee_4 ?_
  refine zr_istore_n C [zO X 0, zI (h 46 0)] d_X6_unsee_7 (Nat.le_of_ble_eq_true rfl) rfl rfl ?_
  refine zr_aload_n C d_X6_unsee_8 rfl ?_
  refine gf_Slots_7 C m234 d_X6_unsee_9 ?_
  refine zr_iconst C (v := 0) d_X6_unsee_12 (by decide) ?_
  refine pf_Obs_3 C m217 d_X6_unsee_13 ?_
  refine zr_h (fun h1 eh1 => ?_)
  refine zr_iload_n C d_X6_unsee_16 rfl ?_
  have eR : o_Slots_unsee h = ((h 46 0), h1) := (by subst eh1; unfold o_Slots_unsee; exact rfl)
  subst hQ
  exact zTQ_Ih eR (zr_ireti C d_X6_unsee_17)
theorem d_X6_which_0 : decode prog_1_method_32_code 0 = .ok (.aload_n 0, 1) := by decide +kernel
theorem d_X6_which_1 : decode prog_1_method_32_code 1 = .ok (.getfield 19, 3) := by decide +kernel
theorem d_X6_which_4 : decode prog_1_method_32_code 4 = .ok (.iload_n 1, 1) := by decide +kernel
theorem d_X6_which_5 : decode prog_1_method_32_code 5 = .ok (.invokevirtual 118, 3) := by decide +kernel
theorem d_X6_which_8 : decode prog_1_method_32_code 8 = .ok (.ifCond .ne 5, 3) := by decide +kernel
theorem d_X6_which_11 : decode prog_1_method_32_code 11 = .ok (.iconst (-1), 1) := by decide +kernel
theorem d_X6_which_12 : decode prog_1_method_32_code 12 = .ok (.ireturn, 1) := by decide +kernel
theorem d_X6_which_13 : decode prog_1_method_32_code 13 = .ok (.aload_n 0, 1) := by decide +kernel
theorem d_X6_which_14 : decode prog_1_method_32_code 14 = .ok (.getfield 26, 3) := by decide +kernel
theorem d_X6_which_17 : decode prog_1_method_32_code 17 = .ok (.aload_n 0, 1) := by decide +kernel
theorem d_X6_which_18 : decode prog_1_method_32_code 18 = .ok (.getfield 19, 3) := by decide +kernel
theorem d_X6_which_21 : decode prog_1_method_32_code 21 = .ok (.invokevirtual 78, 3) := by decide +kernel
theorem d_X6_which_24 : decode prog_1_method_32_code 24 = .ok (.iconst 0, 1) := by decide +kernel
theorem d_X6_which_25 : decode prog_1_method_32_code 25 = .ok (.istore_n 2, 1) := by decide +kernel
theorem d_X6_which_26 : decode prog_1_method_32_code 26 = .ok (.iconst 0, 1) := by decide +kernel
theorem d_X6_which_27 : decode prog_1_method_32_code 27 = .ok (.istore_n 3, 1) := by decide +kernel
theorem d_X6_which_28 : decode prog_1_method_32_code 28 = .ok (.iload_n 3, 1) := by decide +kernel
theorem d_X6_which_29 : decode prog_1_method_32_code 29 = .ok (.aload_n 0, 1) := by decide +kernel
theorem d_X6_which_30 : decode prog_1_method_32_code 30 = .ok (.getfield 19, 3) := by decide +kernel
theorem d_X6_which_33 : decode prog_1_method_32_code 33 = .ok (.getfield 122, 3) := by decide +kernel
theorem d_X6_which_36 : decode prog_1_method_32_code 36 = .ok (.iload_n 1, 1) := by decide +kernel
theorem d_X6_which_37 : decode prog_1_method_32_code 37 = .ok (.iaload, 1) := by decide +kernel
theorem d_X6_which_38 : decode prog_1_method_32_code 38 = .ok (.if_icmp .ge 38, 3) := by decide +kernel
theorem d_X6_which_41 : decode prog_1_method_32_code 41 = .ok (.aload_n 0, 1) := by decide +kernel
theorem d_X6_which_42 : decode prog_1_method_32_code 42 = .ok (.getfield 26, 3) := by decide +kernel
theorem d_X6_which_45 : decode prog_1_method_32_code 45 = .ok (.iload_n 1, 1) := by decide +kernel
theorem d_X6_which_46 : decode prog_1_method_32_code 46 = .ok (.iload_n 3, 1) := by decide +kernel
theorem d_X6_which_47 : decode prog_1_method_32_code 47 = .ok (.invokevirtual 179, 3) := by decide +kernel
theorem d_X6_which_50 : decode prog_1_method_32_code 50 = .ok (.aload_n 0, 1) := by decide +kernel
theorem d_X6_which_51 : decode prog_1_method_32_code 51 = .ok (.getfield 55, 3) := by decide +kernel
theorem d_X6_which_54 : decode prog_1_method_32_code 54 = .ok (.aload_n 0, 1) := by decide +kernel
theorem d_X6_which_55 : decode prog_1_method_32_code 55 = .ok (.getfield 26, 3) := by decide +kernel
theorem d_X6_which_58 : decode prog_1_method_32_code 58 = .ok (.invokevirtual 253, 3) := by decide +kernel
theorem d_X6_which_61 : decode prog_1_method_32_code 61 = .ok (.ifCond .eq 9, 3) := by decide +kernel
theorem d_X6_which_64 : decode prog_1_method_32_code 64 = .ok (.iload_n 2, 1) := by decide +kernel
theorem d_X6_which_65 : decode prog_1_method_32_code 65 = .ok (.iconst 1, 1) := by decide +kernel
theorem d_X6_which_66 : decode prog_1_method_32_code 66 = .ok (.iload_n 3, 1) := by decide +kernel
theorem d_X6_which_67 : decode prog_1_method_32_code 67 = .ok (.ishl, 1) := by decide +kernel
theorem d_X6_which_68 : decode prog_1_method_32_code 68 = .ok (.ior, 1) := by decide +kernel
theorem d_X6_which_69 : decode prog_1_method_32_code 69 = .ok (.istore_n 2, 1) := by decide +kernel
theorem d_X6_which_70 : decode prog_1_method_32_code 70 = .ok (.iinc 3 1, 3) := by decide +kernel
theorem d_X6_which_73 : decode prog_1_method_32_code 73 = .ok (.goto (-45), 3) := by decide +kernel
theorem d_X6_which_76 : decode prog_1_method_32_code 76 = .ok (.iload_n 2, 1) := by decide +kernel
theorem d_X6_which_77 : decode prog_1_method_32_code 77 = .ok (.ireturn, 1) := by decide +kernel
abbrev M_Slots_which : zMT := (⟨"PeriodSlots", "which", "(I)I"⟩, prog_1_method_32_code, 4, (some .int))
theorem k_Slots_which : zcall M_Slots_which 1 := ⟨zU_in (i := 671) (by decide +kernel) rfl, m54, ⟨by decide, by decide, by decide +kernel⟩, by decide⟩
def o_Slots_which (h : zHp) (station : Int32) : Int32 × zHp :=
  (if (o_Mesh_exists h 3 station) = true then ((zrep (fun (i28_3 : Nat) (s28_3 : Int32 × zHp) => ((if (o_Obs_agreeWith (o_Mesh_place s28_3.2 27 (zcn station) (nI i28_3)) 27) = true then (s28_3.1 ||| (zshl 1 (nI i28_3))) else s28_3.1), (o_Mesh_place s28_3.2 27 (zcn station) (nI i28_3)))) (0, (o_Mesh_copyFrom h 27 3)) (zcn (h 4 (zcn station)))).1, (zrep (fun (i28_3 : Nat) (s28_3 : Int32 × zHp) => ((if (o_Obs_agreeWith (o_Mesh_place s28_3.2 27 (zcn station) (nI i28_3)) 27) = true then (s28_3.1 ||| (zshl 1 (nI i28_3))) else s28_3.1), (o_Mesh_place s28_3.2 27 (zcn station) (nI i28_3)))) (0, (o_Mesh_copyFrom h 27 3)) (zcn (h 4 (zcn station)))).2) else ((-1), h))
theorem fr_Slots_which {h : zHp} {station : Int32} (c k : Nat) (q0 : ¬ (c = 27 ∧ k = 0)) (q1 : ¬ (c = 27 ∧ k = 1)) (q2 : ¬ (c = 27 ∧ k = 2)) (q3 : c ≠ 28) (q4 : c ≠ 29) (q5 : c ≠ 30) (q6 : c ≠ 31) (q7 : c ≠ 32) (q8 : c ≠ 33) (q9 : c ≠ 34) (q10 : c ≠ 35) (q11 : c ≠ 36) (q12 : c ≠ 37) (q13 : c ≠ 38) : (o_Slots_which h station).2 c k = h c k := by
  unfold o_Slots_which
  by_cases f1 : (o_Mesh_exists h 3 station) = true
  · rw [if_pos f1]
    have hI28_3 := zrep_inv (f := (fun (i28_3 : Nat) (s28_3 : Int32 × zHp) => ((if (o_Obs_agreeWith (o_Mesh_place s28_3.2 27 (zcn station) (nI i28_3)) 27) = true then (s28_3.1 ||| (zshl 1 (nI i28_3))) else s28_3.1), (o_Mesh_place s28_3.2 27 (zcn station) (nI i28_3))))) (a := (0, (o_Mesh_copyFrom h 27 3))) (fun _ s28_3 => ∀ c k : Nat, c ≠ 30 → c ≠ 31 → c ≠ 36 → c ≠ 37 → s28_3.2 c k = (o_Mesh_copyFrom h 27 3) c k) (zcn (h 4 (zcn station))) (fun _ _ _ _ _ _ => (by dsimp only)) (fun i28_3 s28_3 hi28_3 hI28_3 => (fun c k q0 q1 q2 q3 => (by (try dsimp only); exact ((fr_Mesh_place _ _ (by assumption) (by assumption) (by assumption) (by assumption)).trans (hI28_3 _ _ (by assumption) (by assumption) (by assumption) (by assumption))))))
    try dsimp only
    first | done | exact ((hI28_3 _ _ (by assumption) (by assumption) (by assumption) (by assumption)).trans (fr_Mesh_copyFrom _ _ (by assumption) (by assumption) (by assumption) (by assumption) (by assumption) (by assumption) (by assumption) (by assumption) (by assumption) (by assumption) (by assumption) (by assumption)))
  · rw [if_neg f1]
    try dsimp only
    first | done | exact rfl
set_option maxHeartbeats 400000 in
set_option maxRecDepth 20000 in
theorem c_Slots_which (X : zXT) (h : zHp) (g : zLg) (station : Int32) (hf0 : zfit h 3 0 8) (hf1 : zfit h 46 0 6) : zDi X M_Slots_which 4 [zR X 0, .int station] h g (zI ((o_Slots_which h station).1)) ((o_Slots_which h station).2) g := by
  have hf0_1 := hf0.1
  have hf1_1 := hf1.1
  refine zDi_of "PeriodSlots" prog_1_method_32_code 4 (some .int) rfl (by decide) [zO X 0, zI station, none, none] rfl (fun _ q => q) (Nat.le_of_ble_eq_true rfl) ?_
  intro Γ Q C hQ
  refine zr_aload_n C d_X6_which_0 rfl ?_
  refine gf_Slots_1 C m228 d_X6_which_1 ?_
  refine zr_iload_n C d_X6_which_4 rfl ?_
  refine zr_callVi (As := [.int station]) (st := []) (c := 3) C (c_Mesh_exists X h g 3 station (by decide)) k_Mesh_exists m446 m359 m360 (by decide) (zC_Mesh (by decide) X _ _) rfl rfl (by decide) rfl (Nat.le_of_ble_eq_true rfl) d_X6_which_5 ?_
  refine zr_ifz_ne C 13 d_X6_which_8 (by decide) (fun c8 => ?_) (fun c8 => ?_)
  · have ex1 := zex c8
    have ex1_2 := ex1.2
    have ex1_b := (hf0).1
    refine zr_aload_n C d_X6_which_13 rfl ?_
    refine gf_Slots_3 C m230 d_X6_which_14 ?_
    refine zr_aload_n C d_X6_which_17 rfl ?_
    refine gf_Slots_1 C m228 d_X6_which_18 ?_
    refine zr_callVv (As := [zR X 3]) (st := []) (c := 27) C (c_Mesh_copyFrom X h g 27 3 (by decide) (by decide)) k_Mesh_copyFrom m375 m376 m377 (by decide) (zC_Mesh (by decide) X _ _) rfl rfl (by decide) rfl (Nat.le_of_ble_eq_true rfl) d_X6_which_21 ?_
    refine zr_h (fun h2 eh2 => ?_)
    have hph2 : zfit h2 27 0 8 := by rw [← eh2]; exact pf_copyFrom hf0
    have hph2_1 := hph2.1
    refine zr_iconst C (v := 0) d_X6_which_24 (by decide) ?_
    refine zr_istore_n C [zO X 0, zI station, zI 0, none] d_X6_which_25 (Nat.le_of_ble_eq_true rfl) rfl rfl ?_
    refine zr_iconst C (v := 0) d_X6_which_26 (by decide) ?_
    refine zr_istore_n C [zO X 0, zI station, zI 0, zI 0] d_X6_which_27 (Nat.le_of_ble_eq_true rfl) rfl rfl ?_
    refine zfor (f := (fun (i28_3 : Nat) (s28_3 : Int32 × zHp) => ((if (o_Obs_agreeWith (o_Mesh_place s28_3.2 27 (zcn station) (nI i28_3)) 27) = true then (s28_3.1 ||| (zshl 1 (nI i28_3))) else s28_3.1), (o_Mesh_place s28_3.2 27 (zcn station) (nI i28_3))))) (a := (0, h2)) (fun i28_3 s28_3 => zV X Γ Q 28 [zO X 0, zI station, zI s28_3.1, zI (nI i28_3)] [] s28_3.2 g) (fun _ s28_3 => ∀ c k : Nat, c ≠ 30 → c ≠ 31 → c ≠ 36 → c ≠ 37 → s28_3.2 c k = h2 c k) (zcn (h 4 (zcn station))) (fun _ _ _ _ _ _ => (by dsimp only)) (fun i28_3 s28_3 hi28_3 hI28_3 => ⟨(fun c k q0 q1 q2 q3 => (by (try dsimp only); exact ((fr_Mesh_place _ _ (by assumption) (by assumption) (by assumption) (by assumption)).trans (hI28_3 _ _ (by assumption) (by assumption) (by assumption) (by assumption))))), fun hk28_3 => ?_⟩) (fun r28_3 er28_3 hI28_3 => ?_)
    · refine zr_iload_n C d_X6_which_28 rfl ?_
      refine zr_aload_n C d_X6_which_29 rfl ?_
      refine gf_Slots_1 C m228 d_X6_which_30 ?_
      refine gf_Mesh_3 C (by decide) m106 d_X6_which_33 ?_
      refine zr_iload_n C d_X6_which_36 rfl ?_
      refine zr_iald C za_4 (zcn station) (zix ex1.1) (by omega) (by decide) d_X6_which_37 ?_
      refine zr_top ((hI28_3 _ _ (by omega) (by omega) (by omega) (by omega)).trans ((congrFun (congrFun eh2.symm _) _).trans (fr_Mesh_copyFrom _ _ (by omega) (by omega) (by omega) (by omega) (by omega) (by omega) (by omega) (by omega) (by omega) (by omega) (by omega) (by omega)))) ?_
      refine zr_icmp_ge C 76 d_X6_which_38 (by decide) (fun c => absurd c (zge_no rfl (by omega))) (fun _ => ?_)
      refine zr_aload_n C d_X6_which_41 rfl ?_
      refine gf_Slots_3 C m230 d_X6_which_42 ?_
      refine zr_iload_n C d_X6_which_45 rfl ?_
      refine zr_iload_n C d_X6_which_46 rfl ?_
      refine zr_callVv (As := [.int station, .int (nI i28_3)]) (st := []) (c := 27) C (c_Mesh_place X s28_3.2 g 27 (zcn station) (nI i28_3) (zix ex1.1) (by decide) (zfit_fr (hI28_3 _ _ (by omega) (by omega) (by omega) (by omega)) hph2) (by omega)) k_Mesh_place m500 m501 m502 (by decide) (zC_Mesh (by decide) X _ _) rfl rfl (by decide) rfl (Nat.le_of_ble_eq_true rfl) d_X6_which_47 ?_
      refine zr_h (fun h4 eh4 => ?_)
      refine zr_aload_n C d_X6_which_50 rfl ?_
      refine gf_Slots_7 C m234 d_X6_which_51 ?_
      refine zr_aload_n C d_X6_which_54 rfl ?_
      refine gf_Slots_3 C m230 d_X6_which_55 ?_
      refine zr_callVi (As := [zR X 27]) (st := []) (c := 46) C (c_Obs_agreeWith X h4 g 27 (by decide) (zfit_fr ((congrFun (congrFun eh4.symm _) _).trans ((fr_Mesh_place _ _ (by omega) (by omega) (by omega) (by omega)).trans ((hI28_3 _ _ (by omega) (by omega) (by omega) (by omega)).trans ((congrFun (congrFun eh2.symm _) _).trans (fr_Mesh_copyFrom _ _ (by omega) (by omega) (by omega) (by omega) (by omega) (by omega) (by omega) (by omega) (by omega) (by omega) (by omega) (by omega)))))) hf1) (zfit_fr ((congrFun (congrFun eh4.symm _) _).trans ((fr_Mesh_place _ _ (by omega) (by omega) (by omega) (by omega)).trans (hI28_3 _ _ (by omega) (by omega) (by omega) (by omega)))) hph2)) k_Obs_agreeWith m672 m673 m674 (by decide) (zC_Obs X _ _) rfl rfl (by decide) rfl (Nat.le_of_ble_eq_true rfl) d_X6_which_58 ?_
      suffices hJ61 : ∀ (y5 : Int32), (if (o_Obs_agreeWith h4 27) = true then (s28_3.1 ||| (zshl 1 (nI i28_3))) else s28_3.1) = y5 → zV X Γ Q 70 [zO X 0, zI station, zI y5, zI (nI i28_3)] [] h4 g by
        refine zr_ifz_eq C 70 d_X6_which_61 (by decide) (fun c61 => ?_) (fun c61 => ?_)
        · exact hJ61 s28_3.1 (((if_neg (zbf c61))))
        · refine zr_iload_n C d_X6_which_64 rfl ?_
          refine zr_iconst C (v := 1) d_X6_which_65 (by decide) ?_
          refine zr_iload_n C d_X6_which_66 rfl ?_
          refine zr_ishl C d_X6_which_67 ?_
          refine zr_ior C d_X6_which_68 ?_
          refine zr_istore_n C [zO X 0, zI station, zI (s28_3.1 ||| (zshl 1 (nI i28_3))), zI (nI i28_3)] d_X6_which_69 (Nat.le_of_ble_eq_true rfl) rfl rfl ?_
          exact hJ61 (s28_3.1 ||| (zshl 1 (nI i28_3))) (((if_pos c61)))
      intro y5 ey5
      refine zr_iinc C [zO X 0, zI station, zI y5, zI (nI (i28_3 + 1))] (v := (nI (i28_3 + 1))) d_X6_which_70 rfl (zn_add rfl rfl) (Nat.le_of_ble_eq_true rfl) rfl rfl ?_
      refine zr_goto C 28 d_X6_which_73 (by decide) ?_
      exact hk28_3 (y5, h4) (by subst ey5 eh4; exact rfl)
    refine zr_iload_n C d_X6_which_28 rfl ?_
    refine zr_aload_n C d_X6_which_29 rfl ?_
    refine gf_Slots_1 C m228 d_X6_which_30 ?_
    refine gf_Mesh_3 C (by decide) m106 d_X6_which_33 ?_
    refine zr_iload_n C d_X6_which_36 rfl ?_
    refine zr_iald C za_4 (zcn station) (zix ex1.1) (by omega) (by decide) d_X6_which_37 ?_
    refine zr_top ((hI28_3 _ _ (by omega) (by omega) (by omega) (by omega)).trans ((congrFun (congrFun eh2.symm _) _).trans (fr_Mesh_copyFrom _ _ (by omega) (by omega) (by omega) (by omega) (by omega) (by omega) (by omega) (by omega) (by omega) (by omega) (by omega) (by omega)))) ?_
    refine zr_icmp_ge C 76 d_X6_which_38 (by decide) (fun _ => ?_) (fun c => absurd (zge_yes rfl (by omega) (by have := zcn_small (h 4 (zcn station)); omega)) c)
    refine zr_iload_n C d_X6_which_76 rfl ?_
    have eR : o_Slots_which h station = (r28_3.1, r28_3.2) := (by subst er28_3 eh2; unfold o_Slots_which; rw [if_pos c8])
    subst hQ
    exact zTQ_Ih eR (zr_ireti C d_X6_which_77)
  · refine zr_iconst C (v := (-1)) d_X6_which_11 (by decide) ?_
    have eR : o_Slots_which h station = ((-1), h) := (by unfold o_Slots_which; rw [if_neg (zbf c8)])
    subst hQ
    exact zTQ_Ih eR (zr_ireti C d_X6_which_12)
theorem d_X6_placedIfOnly_0 : decode prog_1_method_36_code 0 = .ok (.aload_n 0, 1) := by decide +kernel
theorem d_X6_placedIfOnly_1 : decode prog_1_method_36_code 1 = .ok (.getfield 26, 3) := by decide +kernel
theorem d_X6_placedIfOnly_4 : decode prog_1_method_36_code 4 = .ok (.aload_n 0, 1) := by decide +kernel
theorem d_X6_placedIfOnly_5 : decode prog_1_method_36_code 5 = .ok (.getfield 19, 3) := by decide +kernel
theorem d_X6_placedIfOnly_8 : decode prog_1_method_36_code 8 = .ok (.invokevirtual 78, 3) := by decide +kernel
theorem d_X6_placedIfOnly_11 : decode prog_1_method_36_code 11 = .ok (.aload_n 0, 1) := by decide +kernel
theorem d_X6_placedIfOnly_12 : decode prog_1_method_36_code 12 = .ok (.getfield 26, 3) := by decide +kernel
theorem d_X6_placedIfOnly_15 : decode prog_1_method_36_code 15 = .ok (.iload_n 1, 1) := by decide +kernel
theorem d_X6_placedIfOnly_16 : decode prog_1_method_36_code 16 = .ok (.invokevirtual 272, 3) := by decide +kernel
theorem d_X6_placedIfOnly_19 : decode prog_1_method_36_code 19 = .ok (.aload_n 0, 1) := by decide +kernel
theorem d_X6_placedIfOnly_20 : decode prog_1_method_36_code 20 = .ok (.getfield 26, 3) := by decide +kernel
theorem d_X6_placedIfOnly_23 : decode prog_1_method_36_code 23 = .ok (.invokevirtual 200, 3) := by decide +kernel
theorem d_X6_placedIfOnly_26 : decode prog_1_method_36_code 26 = .ok (.pop, 1) := by decide +kernel
theorem d_X6_placedIfOnly_27 : decode prog_1_method_36_code 27 = .ok (.aload_n 0, 1) := by decide +kernel
theorem d_X6_placedIfOnly_28 : decode prog_1_method_36_code 28 = .ok (.getfield 26, 3) := by decide +kernel
theorem d_X6_placedIfOnly_31 : decode prog_1_method_36_code 31 = .ok (.invokevirtual 104, 3) := by decide +kernel
theorem d_X6_placedIfOnly_34 : decode prog_1_method_36_code 34 = .ok (.iload_n 1, 1) := by decide +kernel
theorem d_X6_placedIfOnly_35 : decode prog_1_method_36_code 35 = .ok (.iand, 1) := by decide +kernel
theorem d_X6_placedIfOnly_36 : decode prog_1_method_36_code 36 = .ok (.invokestatic 159, 3) := by decide +kernel
theorem d_X6_placedIfOnly_39 : decode prog_1_method_36_code 39 = .ok (.ireturn, 1) := by decide +kernel
abbrev M_Slots_placedIfOnly : zMT := (⟨"PeriodSlots", "placedIfOnly", "(I)I"⟩, prog_1_method_36_code, 2, (some .int))
theorem k_Slots_placedIfOnly : zcall M_Slots_placedIfOnly 1 := ⟨zU_in (i := 697) (by decide +kernel) rfl, m54, ⟨by decide, by decide, by decide +kernel⟩, by decide⟩
def o_Slots_placedIfOnly (h : zHp) (on : Int32) : Int32 × zHp :=
  ((o_Int_bitCount ((o_Mesh_placedSet ((o_Mesh_settle (o_Mesh_startWithOnly (o_Mesh_copyFrom h 27 3) 27 on) 27).2) 27) &&& on)), ((o_Mesh_settle (o_Mesh_startWithOnly (o_Mesh_copyFrom h 27 3) 27 on) 27).2))
theorem fr_Slots_placedIfOnly {h : zHp} {on : Int32} (c k : Nat) (q0 : ¬ (c = 27 ∧ k = 0)) (q1 : ¬ (c = 27 ∧ k = 1)) (q2 : ¬ (c = 27 ∧ k = 2)) (q3 : c ≠ 28) (q4 : c ≠ 29) (q5 : c ≠ 30) (q6 : c ≠ 31) (q7 : c ≠ 32) (q8 : c ≠ 33) (q9 : c ≠ 34) (q10 : c ≠ 35) (q11 : c ≠ 36) (q12 : c ≠ 37) (q13 : c ≠ 38) : (o_Slots_placedIfOnly h on).2 c k = h c k := by
  unfold o_Slots_placedIfOnly
  try dsimp only
  first | done | exact ((fr_Mesh_settle _ _ (by assumption) (by assumption) (by assumption) (by assumption) (by assumption) (by assumption) (by assumption) (by assumption) (by assumption)).trans ((fr_Mesh_startWithOnly _ _ (by assumption) (by assumption) (by assumption) (by assumption) (by assumption) (by assumption) (by assumption) (by assumption) (by assumption)).trans (fr_Mesh_copyFrom _ _ (by assumption) (by assumption) (by assumption) (by assumption) (by assumption) (by assumption) (by assumption) (by assumption) (by assumption) (by assumption) (by assumption) (by assumption))))
set_option maxHeartbeats 400000 in
set_option maxRecDepth 20000 in
theorem c_Slots_placedIfOnly (X : zXT) (h : zHp) (g : zLg) (on : Int32) (hf0 : zfit h 3 0 8) : zDi X M_Slots_placedIfOnly 5 [zR X 0, .int on] h g (zI ((o_Slots_placedIfOnly h on).1)) ((o_Slots_placedIfOnly h on).2) g := by
  have hf0_1 := hf0.1
  refine zDi_of "PeriodSlots" prog_1_method_36_code 2 (some .int) rfl (by decide) [zO X 0, zI on] rfl (fun _ q => q) (Nat.le_of_ble_eq_true rfl) ?_
  intro Γ Q C hQ
  refine zr_aload_n C d_X6_placedIfOnly_0 rfl ?_
  refine gf_Slots_3 C m230 d_X6_placedIfOnly_1 ?_
  refine zr_aload_n C d_X6_placedIfOnly_4 rfl ?_
  refine gf_Slots_1 C m228 d_X6_placedIfOnly_5 ?_
  refine zr_callVv (As := [zR X 3]) (st := []) (c := 27) C (c_Mesh_copyFrom X h g 27 3 (by decide) (by decide)) k_Mesh_copyFrom m375 m376 m377 (by decide) (zC_Mesh (by decide) X _ _) rfl rfl (by decide) rfl (Nat.le_of_ble_eq_true rfl) d_X6_placedIfOnly_8 ?_
  refine zr_h (fun h1 eh1 => ?_)
  have hph1 : zfit h1 27 0 8 := by rw [← eh1]; exact pf_copyFrom hf0
  have hph1_1 := hph1.1
  refine zr_aload_n C d_X6_placedIfOnly_11 rfl ?_
  refine gf_Slots_3 C m230 d_X6_placedIfOnly_12 ?_
  refine zr_iload_n C d_X6_placedIfOnly_15 rfl ?_
  refine zr_callVv (As := [.int on]) (st := []) (c := 27) C (c_Mesh_startWithOnly X h1 g 27 on (by decide) hph1) k_Mesh_startWithOnly m698 m699 m700 (by decide) (zC_Mesh (by decide) X _ _) rfl rfl (by decide) rfl (Nat.le_of_ble_eq_true rfl) d_X6_placedIfOnly_16 ?_
  refine zr_h (fun h2 eh2 => ?_)
  refine zr_aload_n C d_X6_placedIfOnly_19 rfl ?_
  refine gf_Slots_3 C m230 d_X6_placedIfOnly_20 ?_
  refine zr_callVi (As := []) (st := []) (c := 27) C (c_Mesh_settle X h2 g 27 (by decide) (zfit_fr ((congrFun (congrFun eh2.symm _) _).trans (fr_Mesh_startWithOnly _ _ (by omega) (by omega) (by omega) (by omega) (by omega) (by omega) (by omega) (by omega) (by omega))) hph1)) k_Mesh_settle m536 m537 m538 (by decide) (zC_Mesh (by decide) X _ _) rfl rfl (by decide) rfl (Nat.le_of_ble_eq_true rfl) d_X6_placedIfOnly_23 ?_
  refine zr_vi (fun y3 ey3 => ?_)
  refine zr_h (fun h4 eh4 => ?_)
  refine zr_pop C d_X6_placedIfOnly_26 rfl ?_
  refine zr_aload_n C d_X6_placedIfOnly_27 rfl ?_
  refine gf_Slots_3 C m230 d_X6_placedIfOnly_28 ?_
  refine zr_callVi (As := []) (st := []) (c := 27) C (c_Mesh_placedSet X h4 g 27 (by decide) (zfit_fr ((congrFun (congrFun eh4.symm _) _).trans ((fr_Mesh_settle _ _ (by omega) (by omega) (by omega) (by omega) (by omega) (by omega) (by omega) (by omega) (by omega)).trans ((congrFun (congrFun eh2.symm _) _).trans (fr_Mesh_startWithOnly _ _ (by omega) (by omega) (by omega) (by omega) (by omega) (by omega) (by omega) (by omega) (by omega))))) hph1)) k_Mesh_placedSet m410 m411 m412 (by decide) (zC_Mesh (by decide) X _ _) rfl rfl (by decide) rfl (Nat.le_of_ble_eq_true rfl) d_X6_placedIfOnly_31 ?_
  refine zr_iload_n C d_X6_placedIfOnly_34 rfl ?_
  refine zr_iand C d_X6_placedIfOnly_35 ?_
  refine zr_callSi (As := [.int ((o_Mesh_placedSet h4 27) &&& on)]) (st := []) C (c_Int_bitCount X h4 g ((o_Mesh_placedSet h4 27) &&& on)) k_Int_bitCount m480 m349 rfl (by decide) rfl (Nat.le_of_ble_eq_true rfl) d_X6_placedIfOnly_36 ?_
  have eR : o_Slots_placedIfOnly h on = ((o_Int_bitCount ((o_Mesh_placedSet h4 27) &&& on)), h4) := (by subst eh4 ey3 eh2 eh1; unfold o_Slots_placedIfOnly; exact rfl)
  subst hQ
  exact zTQ_Ih eR (zr_ireti C d_X6_placedIfOnly_39)
theorem zbcj (x : Int32) : ∃ j : Nat, j < 64 ∧ o_Int_bitCount x = nI j := by
  unfold o_Int_bitCount
  exact pk_andE _ 6 rfl
theorem zbc0 (x : Int32) : zcn (o_Int_bitCount x) < 2147483646 := by
  obtain ⟨j, hj, e⟩ := zbcj x
  rw [e, zcn_nI (by omega)]
  omega
theorem zsubN {a b : Nat} (ha : a < 64) (hb : b < 64) : zcn (nI a - nI b) < 2147483646 := by
  have h1 : zcn (nI a - nI b) = (nI a - nI b).toInt.toNat := rfl
  rw [h1, pk_sub_toInt (by omega) (by omega)]
  omega
theorem zbc1 (x : Int32) : zcn (o_Int_bitCount x - 1) < 2147483646 := by
  obtain ⟨j, hj, e⟩ := zbcj x
  rw [e]
  exact zsubN (b := 1) hj (by decide)
theorem zbc2 {h : zHp} (f : zfit h 3 0 8) (x : Int32) : zcn (h 3 0 - o_Int_bitCount x) < 2147483646 := by
  obtain ⟨j, hj, e⟩ := zbcj x
  have h1 := f.1
  rw [e, f.2]
  exact zsubN (by omega) hj
theorem zbc3 {h : zHp} (f : zfit h 3 0 8) (x : Int32) : zcn (h 3 0 - 1 - o_Int_bitCount x) < 2147483646 := by
  obtain ⟨j, hj, e⟩ := zbcj x
  have h1 := f.1
  have e2 : nI (zcn (h 3 0)) - 1 - nI j = nI (zcn (h 3 0)) - nI (1 + j) := by
    rw [← nI_add, Int32.sub_eq_add_neg, Int32.sub_eq_add_neg, Int32.sub_eq_add_neg, Int32.neg_add, Int32.sub_eq_add_neg, Int32.add_assoc]
    rfl
  rw [e, f.2, e2]
  by_cases hj : j = 63
  · subst hj
    have h2 : zcn (nI (zcn (h 3 0)) - nI (1 + 63)) = (nI (zcn (h 3 0)) - nI (1 + 63)).toInt.toNat := rfl
    rw [h2, pk_sub_toInt (by omega) (by omega)]
    omega
  · exact zsubN (by omega) (by omega)

theorem d_X6_ordersCounting_0 : decode prog_1_method_34_code 0 = .ok (.iload_n 2, 1) := by decide +kernel
theorem d_X6_ordersCounting_1 : decode prog_1_method_34_code 1 = .ok (.invokestatic 159, 3) := by decide +kernel
theorem d_X6_ordersCounting_4 : decode prog_1_method_34_code 4 = .ok (.istore_n 3, 1) := by decide +kernel
theorem d_X6_ordersCounting_5 : decode prog_1_method_34_code 5 = .ok (.iload_n 2, 1) := by decide +kernel
theorem d_X6_ordersCounting_6 : decode prog_1_method_34_code 6 = .ok (.iload_n 1, 1) := by decide +kernel
theorem d_X6_ordersCounting_7 : decode prog_1_method_34_code 7 = .ok (.invokestatic 172, 3) := by decide +kernel
theorem d_X6_ordersCounting_10 : decode prog_1_method_34_code 10 = .ok (.ifCond .eq 25, 3) := by decide +kernel
theorem d_X6_ordersCounting_13 : decode prog_1_method_34_code 13 = .ok (.iload_n 3, 1) := by decide +kernel
theorem d_X6_ordersCounting_14 : decode prog_1_method_34_code 14 = .ok (.iconst 1, 1) := by decide +kernel
theorem d_X6_ordersCounting_15 : decode prog_1_method_34_code 15 = .ok (.isub, 1) := by decide +kernel
theorem d_X6_ordersCounting_16 : decode prog_1_method_34_code 16 = .ok (.invokestatic 262, 3) := by decide +kernel
theorem d_X6_ordersCounting_19 : decode prog_1_method_34_code 19 = .ok (.aload_n 0, 1) := by decide +kernel
theorem d_X6_ordersCounting_20 : decode prog_1_method_34_code 20 = .ok (.getfield 19, 3) := by decide +kernel
theorem d_X6_ordersCounting_23 : decode prog_1_method_34_code 23 = .ok (.getfield 88, 3) := by decide +kernel
theorem d_X6_ordersCounting_26 : decode prog_1_method_34_code 26 = .ok (.iload_n 3, 1) := by decide +kernel
theorem d_X6_ordersCounting_27 : decode prog_1_method_34_code 27 = .ok (.isub, 1) := by decide +kernel
theorem d_X6_ordersCounting_28 : decode prog_1_method_34_code 28 = .ok (.invokestatic 262, 3) := by decide +kernel
theorem d_X6_ordersCounting_31 : decode prog_1_method_34_code 31 = .ok (.imul, 1) := by decide +kernel
theorem d_X6_ordersCounting_32 : decode prog_1_method_34_code 32 = .ok (.goto 23, 3) := by decide +kernel
theorem d_X6_ordersCounting_35 : decode prog_1_method_34_code 35 = .ok (.iload_n 3, 1) := by decide +kernel
theorem d_X6_ordersCounting_36 : decode prog_1_method_34_code 36 = .ok (.invokestatic 262, 3) := by decide +kernel
theorem d_X6_ordersCounting_39 : decode prog_1_method_34_code 39 = .ok (.ineg, 1) := by decide +kernel
theorem d_X6_ordersCounting_40 : decode prog_1_method_34_code 40 = .ok (.aload_n 0, 1) := by decide +kernel
theorem d_X6_ordersCounting_41 : decode prog_1_method_34_code 41 = .ok (.getfield 19, 3) := by decide +kernel
theorem d_X6_ordersCounting_44 : decode prog_1_method_34_code 44 = .ok (.getfield 88, 3) := by decide +kernel
theorem d_X6_ordersCounting_47 : decode prog_1_method_34_code 47 = .ok (.iconst 1, 1) := by decide +kernel
theorem d_X6_ordersCounting_48 : decode prog_1_method_34_code 48 = .ok (.isub, 1) := by decide +kernel
theorem d_X6_ordersCounting_49 : decode prog_1_method_34_code 49 = .ok (.iload_n 3, 1) := by decide +kernel
theorem d_X6_ordersCounting_50 : decode prog_1_method_34_code 50 = .ok (.isub, 1) := by decide +kernel
theorem d_X6_ordersCounting_51 : decode prog_1_method_34_code 51 = .ok (.invokestatic 262, 3) := by decide +kernel
theorem d_X6_ordersCounting_54 : decode prog_1_method_34_code 54 = .ok (.imul, 1) := by decide +kernel
theorem d_X6_ordersCounting_55 : decode prog_1_method_34_code 55 = .ok (.ireturn, 1) := by decide +kernel
abbrev M_Slots_ordersCounting : zMT := (⟨"PeriodSlots", "ordersCounting", "(II)I"⟩, prog_1_method_34_code, 4, (some .int))
theorem k_Slots_ordersCounting : zcall M_Slots_ordersCounting 2 := ⟨zU_in (i := 690) (by decide +kernel) rfl, m54, ⟨by decide, by decide, by decide +kernel⟩, by decide⟩
def o_Slots_ordersCounting (h : zHp) (station : Int32) (on : Int32) : Int32 :=
  (if (o_Slots_has on station) = true then ((o_Slots_factorial ((o_Int_bitCount on) - 1)) * (o_Slots_factorial ((h 3 0) - (o_Int_bitCount on)))) else ((0 - (o_Slots_factorial (o_Int_bitCount on))) * (o_Slots_factorial (((h 3 0) - 1) - (o_Int_bitCount on)))))
theorem rd_Slots_ordersCounting {h h2 : zHp} {station : Int32} {on : Int32} (e0 : h2 3 0 = h 3 0) : o_Slots_ordersCounting h2 station on = o_Slots_ordersCounting h station on := by
  unfold o_Slots_ordersCounting
  simp only [e0]

set_option maxHeartbeats 400000 in
set_option maxRecDepth 20000 in
theorem c_Slots_ordersCounting (X : zXT) (h : zHp) (g : zLg) (station : Int32) (on : Int32) (hf0 : zfit h 3 0 8) : zDi X M_Slots_ordersCounting 1 [zR X 0, .int station, .int on] h g (zI (o_Slots_ordersCounting h station on)) h g := by
  have hf0_1 := hf0.1
  refine zDi_of "PeriodSlots" prog_1_method_34_code 4 (some .int) rfl (by decide) [zO X 0, zI station, zI on, none] rfl (fun _ q => q) (Nat.le_of_ble_eq_true rfl) ?_
  intro Γ Q C hQ
  refine zr_iload_n C d_X6_ordersCounting_0 rfl ?_
  refine zr_callSi (As := [.int on]) (st := []) C (c_Int_bitCount X h g on) k_Int_bitCount m480 m349 rfl (by decide) rfl (Nat.le_of_ble_eq_true rfl) d_X6_ordersCounting_1 ?_
  refine zr_istore_n C [zO X 0, zI station, zI on, zI (o_Int_bitCount on)] d_X6_ordersCounting_4 (Nat.le_of_ble_eq_true rfl) rfl rfl ?_
  refine zr_iload_n C d_X6_ordersCounting_5 rfl ?_
  refine zr_iload_n C d_X6_ordersCounting_6 rfl ?_
  refine zr_callSi (As := [.int on, .int station]) (st := []) C (c_Slots_has X h g on station) k_Slots_has m491 m322 rfl (by decide) rfl (Nat.le_of_ble_eq_true rfl) d_X6_ordersCounting_7 ?_
  suffices hJ10 : ∀ (y1 : Int32), (if (o_Slots_has on station) = true then ((o_Slots_factorial ((o_Int_bitCount on) - 1)) * (o_Slots_factorial ((h 3 0) - (o_Int_bitCount on)))) else ((0 - (o_Slots_factorial (o_Int_bitCount on))) * (o_Slots_factorial (((h 3 0) - 1) - (o_Int_bitCount on))))) = y1 → zV X Γ Q 55 [none, none, none, none] [.int y1] h g by
    refine zr_ifz_eq C 35 d_X6_ordersCounting_10 (by decide) (fun c10 => ?_) (fun c10 => ?_)
    · refine zr_iload_n C d_X6_ordersCounting_35 rfl ?_
      refine zr_callSi (As := [.int (o_Int_bitCount on)]) (st := []) C (c_Slots_factorial X h g (o_Int_bitCount on) (by with_reducible first | exact zbc1 _ | exact zbc2 hf0 _ | exact zbc0 _ | exact zbc3 hf0 _)) k_Slots_factorial m691 m692 rfl (by decide) rfl (Nat.le_of_ble_eq_true rfl) d_X6_ordersCounting_36 ?_
      refine zr_ineg C d_X6_ordersCounting_39 ?_
      refine zr_aload_n C d_X6_ordersCounting_40 rfl ?_
      refine gf_Slots_1 C m228 d_X6_ordersCounting_41 ?_
      refine gf_Mesh_0 C (by decide) m98 d_X6_ordersCounting_44 ?_
      refine zr_iconst C (v := 1) d_X6_ordersCounting_47 (by decide) ?_
      refine zr_isub C d_X6_ordersCounting_48 ?_
      refine zr_iload_n C d_X6_ordersCounting_49 rfl ?_
      refine zr_isub C d_X6_ordersCounting_50 ?_
      refine zr_callSi (As := [.int (((h 3 0) - 1) - (o_Int_bitCount on))]) (st := [.int (0 - (o_Slots_factorial (o_Int_bitCount on)))]) C (c_Slots_factorial X h g (((h 3 0) - 1) - (o_Int_bitCount on)) (by with_reducible first | exact zbc1 _ | exact zbc2 hf0 _ | exact zbc0 _ | exact zbc3 hf0 _)) k_Slots_factorial m691 m692 rfl (by decide) rfl (Nat.le_of_ble_eq_true rfl) d_X6_ordersCounting_51 ?_
      refine zr_imul C d_X6_ordersCounting_54 ?_
      refine zr_lv [none, none, none, none] (by simp [zle]) ?_
      exact hJ10 ((0 - (o_Slots_factorial (o_Int_bitCount on))) * (o_Slots_factorial (((h 3 0) - 1) - (o_Int_bitCount on)))) (((if_neg (zbf c10))))
    · refine zr_iload_n C d_X6_ordersCounting_13 rfl ?_
      refine zr_iconst C (v := 1) d_X6_ordersCounting_14 (by decide) ?_
      refine zr_isub C d_X6_ordersCounting_15 ?_
      refine zr_callSi (As := [.int ((o_Int_bitCount on) - 1)]) (st := []) C (c_Slots_factorial X h g ((o_Int_bitCount on) - 1) (by with_reducible first | exact zbc1 _ | exact zbc2 hf0 _ | exact zbc0 _ | exact zbc3 hf0 _)) k_Slots_factorial m691 m692 rfl (by decide) rfl (Nat.le_of_ble_eq_true rfl) d_X6_ordersCounting_16 ?_
      refine zr_aload_n C d_X6_ordersCounting_19 rfl ?_
      refine gf_Slots_1 C m228 d_X6_ordersCounting_20 ?_
      refine gf_Mesh_0 C (by decide) m98 d_X6_ordersCounting_23 ?_
      refine zr_iload_n C d_X6_ordersCounting_26 rfl ?_
      refine zr_isub C d_X6_ordersCounting_27 ?_
      refine zr_callSi (As := [.int ((h 3 0) - (o_Int_bitCount on))]) (st := [.int (o_Slots_factorial ((o_Int_bitCount on) - 1))]) C (c_Slots_factorial X h g ((h 3 0) - (o_Int_bitCount on)) (by with_reducible first | exact zbc1 _ | exact zbc2 hf0 _ | exact zbc0 _ | exact zbc3 hf0 _)) k_Slots_factorial m691 m692 rfl (by decide) rfl (Nat.le_of_ble_eq_true rfl) d_X6_ordersCounting_28 ?_
      refine zr_imul C d_X6_ordersCounting_31 ?_
      refine zr_goto C 55 d_X6_ordersCounting_32 (by decide) ?_
      refine zr_lv [none, none, none, none] (by simp [zle]) ?_
      exact hJ10 ((o_Slots_factorial ((o_Int_bitCount on) - 1)) * (o_Slots_factorial ((h 3 0) - (o_Int_bitCount on)))) (((if_pos c10)))
  intro y1 ey1
  have eR : o_Slots_ordersCounting h station on = y1 := (by subst ey1; unfold o_Slots_ordersCounting; exact rfl)
  subst hQ
  rw [eR]
  exact zr_ireti C d_X6_ordersCounting_55
theorem d_X6_share_0 : decode prog_1_method_33_code 0 = .ok (.aload_n 0, 1) := by decide +kernel
theorem d_X6_share_1 : decode prog_1_method_33_code 1 = .ok (.getfield 19, 3) := by decide +kernel
theorem d_X6_share_4 : decode prog_1_method_33_code 4 = .ok (.iload_n 1, 1) := by decide +kernel
theorem d_X6_share_5 : decode prog_1_method_33_code 5 = .ok (.invokevirtual 118, 3) := by decide +kernel
theorem d_X6_share_8 : decode prog_1_method_33_code 8 = .ok (.ifCond .ne 5, 3) := by decide +kernel
theorem d_X6_share_11 : decode prog_1_method_33_code 11 = .ok (.iconst (-1), 1) := by decide +kernel
theorem d_X6_share_12 : decode prog_1_method_33_code 12 = .ok (.ireturn, 1) := by decide +kernel
theorem d_X6_share_13 : decode prog_1_method_33_code 13 = .ok (.iconst 0, 1) := by decide +kernel
theorem d_X6_share_14 : decode prog_1_method_33_code 14 = .ok (.istore_n 3, 1) := by decide +kernel
theorem d_X6_share_15 : decode prog_1_method_33_code 15 = .ok (.iconst 0, 1) := by decide +kernel
theorem d_X6_share_16 : decode prog_1_method_33_code 16 = .ok (.istore 4, 2) := by decide +kernel
theorem d_X6_share_18 : decode prog_1_method_33_code 18 = .ok (.iload 4, 2) := by decide +kernel
theorem d_X6_share_20 : decode prog_1_method_33_code 20 = .ok (.iconst 1, 1) := by decide +kernel
theorem d_X6_share_21 : decode prog_1_method_33_code 21 = .ok (.aload_n 0, 1) := by decide +kernel
theorem d_X6_share_22 : decode prog_1_method_33_code 22 = .ok (.getfield 19, 3) := by decide +kernel
theorem d_X6_share_25 : decode prog_1_method_33_code 25 = .ok (.getfield 88, 3) := by decide +kernel
theorem d_X6_share_28 : decode prog_1_method_33_code 28 = .ok (.ishl, 1) := by decide +kernel
theorem d_X6_share_29 : decode prog_1_method_33_code 29 = .ok (.if_icmp .ge 26, 3) := by decide +kernel
theorem d_X6_share_32 : decode prog_1_method_33_code 32 = .ok (.iload_n 3, 1) := by decide +kernel
theorem d_X6_share_33 : decode prog_1_method_33_code 33 = .ok (.aload_n 0, 1) := by decide +kernel
theorem d_X6_share_34 : decode prog_1_method_33_code 34 = .ok (.iload_n 1, 1) := by decide +kernel
theorem d_X6_share_35 : decode prog_1_method_33_code 35 = .ok (.iload 4, 2) := by decide +kernel
theorem d_X6_share_37 : decode prog_1_method_33_code 37 = .ok (.invokevirtual 256, 3) := by decide +kernel
theorem d_X6_share_40 : decode prog_1_method_33_code 40 = .ok (.aload_n 0, 1) := by decide +kernel
theorem d_X6_share_41 : decode prog_1_method_33_code 41 = .ok (.iload 4, 2) := by decide +kernel
theorem d_X6_share_43 : decode prog_1_method_33_code 43 = .ok (.invokevirtual 259, 3) := by decide +kernel
theorem d_X6_share_46 : decode prog_1_method_33_code 46 = .ok (.imul, 1) := by decide +kernel
theorem d_X6_share_47 : decode prog_1_method_33_code 47 = .ok (.iadd, 1) := by decide +kernel
theorem d_X6_share_48 : decode prog_1_method_33_code 48 = .ok (.istore_n 3, 1) := by decide +kernel
theorem d_X6_share_49 : decode prog_1_method_33_code 49 = .ok (.iinc 4 1, 3) := by decide +kernel
theorem d_X6_share_52 : decode prog_1_method_33_code 52 = .ok (.goto (-34), 3) := by decide +kernel
theorem d_X6_share_55 : decode prog_1_method_33_code 55 = .ok (.iload_n 3, 1) := by decide +kernel
theorem d_X6_share_56 : decode prog_1_method_33_code 56 = .ok (.aload_n 0, 1) := by decide +kernel
theorem d_X6_share_57 : decode prog_1_method_33_code 57 = .ok (.getfield 19, 3) := by decide +kernel
theorem d_X6_share_60 : decode prog_1_method_33_code 60 = .ok (.getfield 88, 3) := by decide +kernel
theorem d_X6_share_63 : decode prog_1_method_33_code 63 = .ok (.invokestatic 262, 3) := by decide +kernel
theorem d_X6_share_66 : decode prog_1_method_33_code 66 = .ok (.iload_n 2, 1) := by decide +kernel
theorem d_X6_share_67 : decode prog_1_method_33_code 67 = .ok (.invokestatic 265, 3) := by decide +kernel
theorem d_X6_share_70 : decode prog_1_method_33_code 70 = .ok (.ireturn, 1) := by decide +kernel
abbrev M_Slots_share : zMT := (⟨"PeriodSlots", "share", "(IZ)I"⟩, prog_1_method_33_code, 5, (some .int))
theorem k_Slots_share : zcall M_Slots_share 2 := ⟨zU_in (i := 686) (by decide +kernel) rfl, m54, ⟨by decide, by decide, by decide +kernel⟩, by decide⟩
def o_Slots_share (h : zHp) (station : Int32) (upper : Bool) : Int32 × zHp :=
  (if (o_Mesh_exists h 3 station) = true then ((o_Slots_partOfFraction (zrep (fun (i18_2 : Nat) (s18_2 : Int32 × zHp) => ((s18_2.1 + ((o_Slots_ordersCounting h station (nI i18_2)) * ((o_Slots_placedIfOnly s18_2.2 (nI i18_2)).1))), ((o_Slots_placedIfOnly s18_2.2 (nI i18_2)).2))) (0, h) (zcn (zshl 1 (h 3 0)))).1 (o_Slots_factorial (h 3 0)) upper), (zrep (fun (i18_2 : Nat) (s18_2 : Int32 × zHp) => ((s18_2.1 + ((o_Slots_ordersCounting h station (nI i18_2)) * ((o_Slots_placedIfOnly s18_2.2 (nI i18_2)).1))), ((o_Slots_placedIfOnly s18_2.2 (nI i18_2)).2))) (0, h) (zcn (zshl 1 (h 3 0)))).2) else ((-1), h))
theorem fr_Slots_share {h : zHp} {station : Int32} {upper : Bool} (c k : Nat) (q0 : ¬ (c = 27 ∧ k = 0)) (q1 : ¬ (c = 27 ∧ k = 1)) (q2 : ¬ (c = 27 ∧ k = 2)) (q3 : c ≠ 28) (q4 : c ≠ 29) (q5 : c ≠ 30) (q6 : c ≠ 31) (q7 : c ≠ 32) (q8 : c ≠ 33) (q9 : c ≠ 34) (q10 : c ≠ 35) (q11 : c ≠ 36) (q12 : c ≠ 37) (q13 : c ≠ 38) : (o_Slots_share h station upper).2 c k = h c k := by
  unfold o_Slots_share
  by_cases f1 : (o_Mesh_exists h 3 station) = true
  · rw [if_pos f1]
    have hI18_2 := zrep_inv (f := (fun (i18_2 : Nat) (s18_2 : Int32 × zHp) => ((s18_2.1 + ((o_Slots_ordersCounting h station (nI i18_2)) * ((o_Slots_placedIfOnly s18_2.2 (nI i18_2)).1))), ((o_Slots_placedIfOnly s18_2.2 (nI i18_2)).2)))) (a := (0, h)) (fun _ s18_2 => ∀ c k : Nat, ¬ (c = 27 ∧ k = 0) → ¬ (c = 27 ∧ k = 1) → ¬ (c = 27 ∧ k = 2) → c ≠ 28 → c ≠ 29 → c ≠ 30 → c ≠ 31 → c ≠ 32 → c ≠ 33 → c ≠ 34 → c ≠ 35 → c ≠ 36 → c ≠ 37 → c ≠ 38 → s18_2.2 c k = h c k) (zcn (zshl 1 (h 3 0))) (fun _ _ _ _ _ _ _ _ _ _ _ _ _ _ _ _ => (by dsimp only)) (fun i18_2 s18_2 hi18_2 hI18_2 => (fun c k q0 q1 q2 q3 q4 q5 q6 q7 q8 q9 q10 q11 q12 q13 => (by (try dsimp only); exact ((fr_Slots_placedIfOnly _ _ (by assumption) (by assumption) (by assumption) (by assumption) (by assumption) (by assumption) (by assumption) (by assumption) (by assumption) (by assumption) (by assumption) (by assumption) (by assumption) (by assumption)).trans (hI18_2 _ _ (by assumption) (by assumption) (by assumption) (by assumption) (by assumption) (by assumption) (by assumption) (by assumption) (by assumption) (by assumption) (by assumption) (by assumption) (by assumption) (by assumption))))))
    try dsimp only
    first | done | exact (hI18_2 _ _ (by assumption) (by assumption) (by assumption) (by assumption) (by assumption) (by assumption) (by assumption) (by assumption) (by assumption) (by assumption) (by assumption) (by assumption) (by assumption) (by assumption))
  · rw [if_neg f1]
    try dsimp only
    first | done | exact rfl
set_option maxHeartbeats 400000 in
set_option maxRecDepth 20000 in
theorem c_Slots_share (X : zXT) (h : zHp) (g : zLg) (station : Int32) (upper : Bool) (hf0 : zfit h 3 0 8) : zDi X M_Slots_share 6 [zR X 0, .int station, .int (zb upper)] h g (zI ((o_Slots_share h station upper).1)) ((o_Slots_share h station upper).2) g := by
  have hf0_1 := hf0.1
  refine zDi_of "PeriodSlots" prog_1_method_33_code 5 (some .int) rfl (by decide) [zO X 0, zI station, zI (zb upper), none, none] rfl (fun _ q => q) (Nat.le_of_ble_eq_true rfl) ?_
  intro Γ Q C hQ
  refine zr_aload_n C d_X6_share_0 rfl ?_
  refine gf_Slots_1 C m228 d_X6_share_1 ?_
  refine zr_iload_n C d_X6_share_4 rfl ?_
  refine zr_callVi (As := [.int station]) (st := []) (c := 3) C (c_Mesh_exists X h g 3 station (by decide)) k_Mesh_exists m446 m359 m360 (by decide) (zC_Mesh (by decide) X _ _) rfl rfl (by decide) rfl (Nat.le_of_ble_eq_true rfl) d_X6_share_5 ?_
  refine zr_ifz_ne C 13 d_X6_share_8 (by decide) (fun c8 => ?_) (fun c8 => ?_)
  · have ex1 := zex c8
    have ex1_2 := ex1.2
    have ex1_b := (hf0).1
    refine zr_iconst C (v := 0) d_X6_share_13 (by decide) ?_
    refine zr_istore_n C [zO X 0, zI station, zI (zb upper), zI 0, none] d_X6_share_14 (Nat.le_of_ble_eq_true rfl) rfl rfl ?_
    refine zr_iconst C (v := 0) d_X6_share_15 (by decide) ?_
    refine zr_istore C [zO X 0, zI station, zI (zb upper), zI 0, zI 0] d_X6_share_16 (Nat.le_of_ble_eq_true rfl) rfl rfl ?_
    refine zfor (f := (fun (i18_2 : Nat) (s18_2 : Int32 × zHp) => ((s18_2.1 + ((o_Slots_ordersCounting h station (nI i18_2)) * ((o_Slots_placedIfOnly s18_2.2 (nI i18_2)).1))), ((o_Slots_placedIfOnly s18_2.2 (nI i18_2)).2)))) (a := (0, h)) (fun i18_2 s18_2 => zV X Γ Q 18 [zO X 0, zI station, zI (zb upper), zI s18_2.1, zI (nI i18_2)] [] s18_2.2 g) (fun _ s18_2 => ∀ c k : Nat, ¬ (c = 27 ∧ k = 0) → ¬ (c = 27 ∧ k = 1) → ¬ (c = 27 ∧ k = 2) → c ≠ 28 → c ≠ 29 → c ≠ 30 → c ≠ 31 → c ≠ 32 → c ≠ 33 → c ≠ 34 → c ≠ 35 → c ≠ 36 → c ≠ 37 → c ≠ 38 → s18_2.2 c k = h c k) (zcn (zshl 1 (h 3 0))) (fun _ _ _ _ _ _ _ _ _ _ _ _ _ _ _ _ => (by dsimp only)) (fun i18_2 s18_2 hi18_2 hI18_2 => ⟨(fun c k q0 q1 q2 q3 q4 q5 q6 q7 q8 q9 q10 q11 q12 q13 => (by (try dsimp only); exact ((fr_Slots_placedIfOnly _ _ (by assumption) (by assumption) (by assumption) (by assumption) (by assumption) (by assumption) (by assumption) (by assumption) (by assumption) (by assumption) (by assumption) (by assumption) (by assumption) (by assumption)).trans (hI18_2 _ _ (by assumption) (by assumption) (by assumption) (by assumption) (by assumption) (by assumption) (by assumption) (by assumption) (by assumption) (by assumption) (by assumption) (by assumption) (by assumption) (by assumption))))), fun hk18_2 => ?_⟩) (fun r18_2 er18_2 hI18_2 => ?_)
    · refine zr_iload C d_X6_share_18 rfl ?_
      refine zr_iconst C (v := 1) d_X6_share_20 (by decide) ?_
      refine zr_aload_n C d_X6_share_21 rfl ?_
      refine gf_Slots_1 C m228 d_X6_share_22 ?_
      refine gf_Mesh_0 C (by decide) m98 d_X6_share_25 ?_
      refine zr_top (hI18_2 _ _ (by omega) (by omega) (by omega) (by omega) (by omega) (by omega) (by omega) (by omega) (by omega) (by omega) (by omega) (by omega) (by omega) (by omega)) ?_
      refine zr_ishl C d_X6_share_28 ?_
      refine zr_icmp_ge C 55 d_X6_share_29 (by decide) (fun c => absurd c (zge_no rfl (by omega))) (fun _ => ?_)
      refine zr_iload_n C d_X6_share_32 rfl ?_
      refine zr_aload_n C d_X6_share_33 rfl ?_
      refine zr_iload_n C d_X6_share_34 rfl ?_
      refine zr_iload C d_X6_share_35 rfl ?_
      refine zr_callVi (As := [.int station, .int (nI i18_2)]) (st := [.int s18_2.1]) (c := 0) C (c_Slots_ordersCounting X s18_2.2 g station (nI i18_2) (zfit_fr (hI18_2 _ _ (by omega) (by omega) (by omega) (by omega) (by omega) (by omega) (by omega) (by omega) (by omega) (by omega) (by omega) (by omega) (by omega) (by omega)) hf0)) k_Slots_ordersCounting m687 m689 m17 (by decide) (zC_Slots X _ _) rfl rfl (by decide) rfl (Nat.le_of_ble_eq_true rfl) d_X6_share_37 ?_
      refine zr_top (rd_Slots_ordersCounting (hI18_2 _ _ (by omega) (by omega) (by omega) (by omega) (by omega) (by omega) (by omega) (by omega) (by omega) (by omega) (by omega) (by omega) (by omega) (by omega))) ?_
      refine zr_aload_n C d_X6_share_40 rfl ?_
      refine zr_iload C d_X6_share_41 rfl ?_
      refine zr_callVi (As := [.int (nI i18_2)]) (st := [.int (o_Slots_ordersCounting h station (nI i18_2)), .int s18_2.1]) (c := 0) C (c_Slots_placedIfOnly X s18_2.2 g (nI i18_2) (zfit_fr (hI18_2 _ _ (by omega) (by omega) (by omega) (by omega) (by omega) (by omega) (by omega) (by omega) (by omega) (by omega) (by omega) (by omega) (by omega) (by omega)) hf0)) k_Slots_placedIfOnly m694 m696 m18 (by decide) (zC_Slots X _ _) rfl rfl (by decide) rfl (Nat.le_of_ble_eq_true rfl) d_X6_share_43 ?_
      refine zr_vi (fun y3 ey3 => ?_)
      refine zr_h (fun h4 eh4 => ?_)
      refine zr_imul C d_X6_share_46 ?_
      refine zr_iadd C d_X6_share_47 ?_
      refine zr_istore_n C [zO X 0, zI station, zI (zb upper), zI (s18_2.1 + ((o_Slots_ordersCounting h station (nI i18_2)) * y3)), zI (nI i18_2)] d_X6_share_48 (Nat.le_of_ble_eq_true rfl) rfl rfl ?_
      refine zr_iinc C [zO X 0, zI station, zI (zb upper), zI (s18_2.1 + ((o_Slots_ordersCounting h station (nI i18_2)) * y3)), zI (nI (i18_2 + 1))] (v := (nI (i18_2 + 1))) d_X6_share_49 rfl (zn_add rfl rfl) (Nat.le_of_ble_eq_true rfl) rfl rfl ?_
      refine zr_goto C 18 d_X6_share_52 (by decide) ?_
      exact hk18_2 ((s18_2.1 + ((o_Slots_ordersCounting h station (nI i18_2)) * y3)), h4) (by subst eh4 ey3; exact rfl)
    refine zr_iload C d_X6_share_18 rfl ?_
    refine zr_iconst C (v := 1) d_X6_share_20 (by decide) ?_
    refine zr_aload_n C d_X6_share_21 rfl ?_
    refine gf_Slots_1 C m228 d_X6_share_22 ?_
    refine gf_Mesh_0 C (by decide) m98 d_X6_share_25 ?_
    refine zr_top (hI18_2 _ _ (by omega) (by omega) (by omega) (by omega) (by omega) (by omega) (by omega) (by omega) (by omega) (by omega) (by omega) (by omega) (by omega) (by omega)) ?_
    refine zr_ishl C d_X6_share_28 ?_
    refine zr_icmp_ge C 55 d_X6_share_29 (by decide) (fun _ => ?_) (fun c => absurd (zge_yes rfl (by omega) (by have := zcn_small (zshl 1 (h 3 0)); omega)) c)
    refine zr_iload_n C d_X6_share_55 rfl ?_
    refine zr_aload_n C d_X6_share_56 rfl ?_
    refine gf_Slots_1 C m228 d_X6_share_57 ?_
    refine gf_Mesh_0 C (by decide) m98 d_X6_share_60 ?_
    refine zr_top (hI18_2 _ _ (by omega) (by omega) (by omega) (by omega) (by omega) (by omega) (by omega) (by omega) (by omega) (by omega) (by omega) (by omega) (by omega) (by omega)) ?_
    refine zr_callSi (As := [.int (h 3 0)]) (st := [.int r18_2.1]) C (c_Slots_factorial X r18_2.2 g (h 3 0) (by have := ((zfit_fr (hI18_2 _ _ (by omega) (by omega) (by omega) (by omega) (by omega) (by omega) (by omega) (by omega) (by omega) (by omega) (by omega) (by omega) (by omega) (by omega)) hf0)).1; omega)) k_Slots_factorial m691 m692 rfl (by decide) rfl (Nat.le_of_ble_eq_true rfl) d_X6_share_63 ?_
    refine zr_iload_n C d_X6_share_66 rfl ?_
    refine zr_callSi (As := [.int r18_2.1, .int (o_Slots_factorial (h 3 0)), .int (zb upper)]) (st := []) C (c_Slots_partOfFraction X r18_2.2 g r18_2.1 (o_Slots_factorial (h 3 0)) upper) k_Slots_partOfFraction m702 m703 rfl (by decide) rfl (Nat.le_of_ble_eq_true rfl) d_X6_share_67 ?_
    have eR : o_Slots_share h station upper = ((o_Slots_partOfFraction r18_2.1 (o_Slots_factorial (h 3 0)) upper), r18_2.2) := (by subst er18_2; unfold o_Slots_share; rw [if_pos c8])
    subst hQ
    exact zTQ_Ih eR (zr_ireti C d_X6_share_70)
  · refine zr_iconst C (v := (-1)) d_X6_share_11 (by decide) ?_
    have eR : o_Slots_share h station upper = ((-1), h) := (by unfold o_Slots_share; rw [if_neg (zbf c8)])
    subst hQ
    exact zTQ_Ih eR (zr_ireti C d_X6_share_12)
theorem d_X6_off_0 : decode prog_1_method_35_code 0 = .ok (.iload_n 1, 1) := by decide +kernel
theorem d_X6_off_1 : decode prog_1_method_35_code 1 = .ok (.ifCond .lt 9, 3) := by decide +kernel
theorem d_X6_off_4 : decode prog_1_method_35_code 4 = .ok (.iload_n 1, 1) := by decide +kernel
theorem d_X6_off_5 : decode prog_1_method_35_code 5 = .ok (.bipush 10, 2) := by decide +kernel
theorem d_X6_off_7 : decode prog_1_method_35_code 7 = .ok (.if_icmp .le 6, 3) := by decide +kernel
theorem d_X6_off_10 : decode prog_1_method_35_code 10 = .ok (.bipush (-2), 2) := by decide +kernel
theorem d_X6_off_12 : decode prog_1_method_35_code 12 = .ok (.ireturn, 1) := by decide +kernel
theorem d_X6_off_13 : decode prog_1_method_35_code 13 = .ok (.iconst 0, 1) := by decide +kernel
theorem d_X6_off_14 : decode prog_1_method_35_code 14 = .ok (.istore_n 3, 1) := by decide +kernel
theorem d_X6_off_15 : decode prog_1_method_35_code 15 = .ok (.iconst 0, 1) := by decide +kernel
theorem d_X6_off_16 : decode prog_1_method_35_code 16 = .ok (.istore 4, 2) := by decide +kernel
theorem d_X6_off_18 : decode prog_1_method_35_code 18 = .ok (.iload 4, 2) := by decide +kernel
theorem d_X6_off_20 : decode prog_1_method_35_code 20 = .ok (.iconst 1, 1) := by decide +kernel
theorem d_X6_off_21 : decode prog_1_method_35_code 21 = .ok (.aload_n 0, 1) := by decide +kernel
theorem d_X6_off_22 : decode prog_1_method_35_code 22 = .ok (.getfield 19, 3) := by decide +kernel
theorem d_X6_off_25 : decode prog_1_method_35_code 25 = .ok (.getfield 88, 3) := by decide +kernel
theorem d_X6_off_28 : decode prog_1_method_35_code 28 = .ok (.ishl, 1) := by decide +kernel
theorem d_X6_off_29 : decode prog_1_method_35_code 29 = .ok (.if_icmp .ge 54, 3) := by decide +kernel
theorem d_X6_off_32 : decode prog_1_method_35_code 32 = .ok (.iload 4, 2) := by decide +kernel
theorem d_X6_off_34 : decode prog_1_method_35_code 34 = .ok (.invokestatic 159, 3) := by decide +kernel
theorem d_X6_off_37 : decode prog_1_method_35_code 37 = .ok (.istore 5, 2) := by decide +kernel
theorem d_X6_off_39 : decode prog_1_method_35_code 39 = .ok (.aload_n 0, 1) := by decide +kernel
theorem d_X6_off_40 : decode prog_1_method_35_code 40 = .ok (.iload 4, 2) := by decide +kernel
theorem d_X6_off_42 : decode prog_1_method_35_code 42 = .ok (.invokevirtual 259, 3) := by decide +kernel
theorem d_X6_off_45 : decode prog_1_method_35_code 45 = .ok (.iload 5, 2) := by decide +kernel
theorem d_X6_off_47 : decode prog_1_method_35_code 47 = .ok (.if_icmp .ne 30, 3) := by decide +kernel
theorem d_X6_off_50 : decode prog_1_method_35_code 50 = .ok (.iload_n 3, 1) := by decide +kernel
theorem d_X6_off_51 : decode prog_1_method_35_code 51 = .ok (.bipush 10, 2) := by decide +kernel
theorem d_X6_off_53 : decode prog_1_method_35_code 53 = .ok (.iload_n 1, 1) := by decide +kernel
theorem d_X6_off_54 : decode prog_1_method_35_code 54 = .ok (.isub, 1) := by decide +kernel
theorem d_X6_off_55 : decode prog_1_method_35_code 55 = .ok (.iload 5, 2) := by decide +kernel
theorem d_X6_off_57 : decode prog_1_method_35_code 57 = .ok (.invokestatic 269, 3) := by decide +kernel
theorem d_X6_off_60 : decode prog_1_method_35_code 60 = .ok (.iload_n 1, 1) := by decide +kernel
theorem d_X6_off_61 : decode prog_1_method_35_code 61 = .ok (.aload_n 0, 1) := by decide +kernel
theorem d_X6_off_62 : decode prog_1_method_35_code 62 = .ok (.getfield 19, 3) := by decide +kernel
theorem d_X6_off_65 : decode prog_1_method_35_code 65 = .ok (.getfield 88, 3) := by decide +kernel
theorem d_X6_off_68 : decode prog_1_method_35_code 68 = .ok (.iload 5, 2) := by decide +kernel
theorem d_X6_off_70 : decode prog_1_method_35_code 70 = .ok (.isub, 1) := by decide +kernel
theorem d_X6_off_71 : decode prog_1_method_35_code 71 = .ok (.invokestatic 269, 3) := by decide +kernel
theorem d_X6_off_74 : decode prog_1_method_35_code 74 = .ok (.imul, 1) := by decide +kernel
theorem d_X6_off_75 : decode prog_1_method_35_code 75 = .ok (.iadd, 1) := by decide +kernel
theorem d_X6_off_76 : decode prog_1_method_35_code 76 = .ok (.istore_n 3, 1) := by decide +kernel
theorem d_X6_off_77 : decode prog_1_method_35_code 77 = .ok (.iinc 4 1, 3) := by decide +kernel
theorem d_X6_off_80 : decode prog_1_method_35_code 80 = .ok (.goto (-62), 3) := by decide +kernel
theorem d_X6_off_83 : decode prog_1_method_35_code 83 = .ok (.iload_n 3, 1) := by decide +kernel
theorem d_X6_off_84 : decode prog_1_method_35_code 84 = .ok (.bipush 10, 2) := by decide +kernel
theorem d_X6_off_86 : decode prog_1_method_35_code 86 = .ok (.aload_n 0, 1) := by decide +kernel
theorem d_X6_off_87 : decode prog_1_method_35_code 87 = .ok (.getfield 19, 3) := by decide +kernel
theorem d_X6_off_90 : decode prog_1_method_35_code 90 = .ok (.getfield 88, 3) := by decide +kernel
theorem d_X6_off_93 : decode prog_1_method_35_code 93 = .ok (.invokestatic 269, 3) := by decide +kernel
theorem d_X6_off_96 : decode prog_1_method_35_code 96 = .ok (.iload_n 2, 1) := by decide +kernel
theorem d_X6_off_97 : decode prog_1_method_35_code 97 = .ok (.invokestatic 265, 3) := by decide +kernel
theorem d_X6_off_100 : decode prog_1_method_35_code 100 = .ok (.ireturn, 1) := by decide +kernel
abbrev M_Slots_off : zMT := (⟨"PeriodSlots", "off", "(IZ)I"⟩, prog_1_method_35_code, 6, (some .int))
theorem k_Slots_off : zcall M_Slots_off 2 := ⟨zU_in (i := 714) (by decide +kernel) rfl, m54, ⟨by decide, by decide, by decide +kernel⟩, by decide⟩
def o_Slots_off (h : zHp) (x : Int32) (upper : Bool) : Int32 × zHp :=
  (if x < 0 then ((-2), h) else (if x ≤ 10 then ((o_Slots_partOfFraction (zrep (fun (i18_2 : Nat) (s18_2 : Int32 × zHp) => ((if ((o_Slots_placedIfOnly s18_2.2 (nI i18_2)).1) = (o_Int_bitCount (nI i18_2)) then (s18_2.1 + ((o_Slots_power (10 - x) (o_Int_bitCount (nI i18_2))) * (o_Slots_power x ((h 3 0) - (o_Int_bitCount (nI i18_2)))))) else s18_2.1), ((o_Slots_placedIfOnly s18_2.2 (nI i18_2)).2))) (0, h) (zcn (zshl 1 (h 3 0)))).1 (o_Slots_power 10 (h 3 0)) upper), (zrep (fun (i18_2 : Nat) (s18_2 : Int32 × zHp) => ((if ((o_Slots_placedIfOnly s18_2.2 (nI i18_2)).1) = (o_Int_bitCount (nI i18_2)) then (s18_2.1 + ((o_Slots_power (10 - x) (o_Int_bitCount (nI i18_2))) * (o_Slots_power x ((h 3 0) - (o_Int_bitCount (nI i18_2)))))) else s18_2.1), ((o_Slots_placedIfOnly s18_2.2 (nI i18_2)).2))) (0, h) (zcn (zshl 1 (h 3 0)))).2) else ((-2), h)))
theorem fr_Slots_off {h : zHp} {x : Int32} {upper : Bool} (c k : Nat) (q0 : ¬ (c = 27 ∧ k = 0)) (q1 : ¬ (c = 27 ∧ k = 1)) (q2 : ¬ (c = 27 ∧ k = 2)) (q3 : c ≠ 28) (q4 : c ≠ 29) (q5 : c ≠ 30) (q6 : c ≠ 31) (q7 : c ≠ 32) (q8 : c ≠ 33) (q9 : c ≠ 34) (q10 : c ≠ 35) (q11 : c ≠ 36) (q12 : c ≠ 37) (q13 : c ≠ 38) : (o_Slots_off h x upper).2 c k = h c k := by
  unfold o_Slots_off
  by_cases f1 : x < 0
  · rw [if_pos f1]
    try dsimp only
    first | done | exact rfl
  · rw [if_neg f1]
    by_cases f2 : x ≤ 10
    · rw [if_pos f2]
      have hI18_2 := zrep_inv (f := (fun (i18_2 : Nat) (s18_2 : Int32 × zHp) => ((if ((o_Slots_placedIfOnly s18_2.2 (nI i18_2)).1) = (o_Int_bitCount (nI i18_2)) then (s18_2.1 + ((o_Slots_power (10 - x) (o_Int_bitCount (nI i18_2))) * (o_Slots_power x ((h 3 0) - (o_Int_bitCount (nI i18_2)))))) else s18_2.1), ((o_Slots_placedIfOnly s18_2.2 (nI i18_2)).2)))) (a := (0, h)) (fun _ s18_2 => ∀ c k : Nat, ¬ (c = 27 ∧ k = 0) → ¬ (c = 27 ∧ k = 1) → ¬ (c = 27 ∧ k = 2) → c ≠ 28 → c ≠ 29 → c ≠ 30 → c ≠ 31 → c ≠ 32 → c ≠ 33 → c ≠ 34 → c ≠ 35 → c ≠ 36 → c ≠ 37 → c ≠ 38 → s18_2.2 c k = h c k) (zcn (zshl 1 (h 3 0))) (fun _ _ _ _ _ _ _ _ _ _ _ _ _ _ _ _ => (by dsimp only)) (fun i18_2 s18_2 hi18_2 hI18_2 => (fun c k q0 q1 q2 q3 q4 q5 q6 q7 q8 q9 q10 q11 q12 q13 => (by (try dsimp only); exact ((fr_Slots_placedIfOnly _ _ (by assumption) (by assumption) (by assumption) (by assumption) (by assumption) (by assumption) (by assumption) (by assumption) (by assumption) (by assumption) (by assumption) (by assumption) (by assumption) (by assumption)).trans (hI18_2 _ _ (by assumption) (by assumption) (by assumption) (by assumption) (by assumption) (by assumption) (by assumption) (by assumption) (by assumption) (by assumption) (by assumption) (by assumption) (by assumption) (by assumption))))))
      try dsimp only
      first | done | exact (hI18_2 _ _ (by assumption) (by assumption) (by assumption) (by assumption) (by assumption) (by assumption) (by assumption) (by assumption) (by assumption) (by assumption) (by assumption) (by assumption) (by assumption) (by assumption))
    · rw [if_neg f2]
      try dsimp only
      first | done | exact rfl
set_option maxHeartbeats 400000 in
set_option maxRecDepth 20000 in
theorem c_Slots_off (X : zXT) (h : zHp) (g : zLg) (x : Int32) (upper : Bool) (hf0 : zfit h 3 0 8) : zDi X M_Slots_off 6 [zR X 0, .int x, .int (zb upper)] h g (zI ((o_Slots_off h x upper).1)) ((o_Slots_off h x upper).2) g := by
  have hf0_1 := hf0.1
  refine zDi_of "PeriodSlots" prog_1_method_35_code 6 (some .int) rfl (by decide) [zO X 0, zI x, zI (zb upper), none, none, none] rfl (fun _ q => q) (Nat.le_of_ble_eq_true rfl) ?_
  intro Γ Q C hQ
  refine zr_iload_n C d_X6_off_0 rfl ?_
  refine zr_if_lt C 10 d_X6_off_1 (by decide) (fun c1 => ?_) (fun c1 => ?_)
  · refine zr_bipush C (v := (-2)) d_X6_off_10 (by decide) ?_
    have eR : o_Slots_off h x upper = ((-2), h) := (by unfold o_Slots_off; rw [if_pos c1])
    subst hQ
    exact zTQ_Ih eR (zr_ireti C d_X6_off_12)
  · refine zr_iload_n C d_X6_off_4 rfl ?_
    refine zr_bipush C (v := 10) d_X6_off_5 (by decide) ?_
    refine zr_icmp_le C 13 d_X6_off_7 (by decide) (fun c7 => ?_) (fun c7 => ?_)
    · have en1 := zn_le (a := zcn x) (b := 10) (zix c1) rfl c7 (zcn_small _) (by decide)
      refine zr_iconst C (v := 0) d_X6_off_13 (by decide) ?_
      refine zr_istore_n C [zO X 0, zI x, zI (zb upper), zI 0, none, none] d_X6_off_14 (Nat.le_of_ble_eq_true rfl) rfl rfl ?_
      refine zr_iconst C (v := 0) d_X6_off_15 (by decide) ?_
      refine zr_istore C [zO X 0, zI x, zI (zb upper), zI 0, zI 0, none] d_X6_off_16 (Nat.le_of_ble_eq_true rfl) rfl rfl ?_
      refine zfor (f := (fun (i18_2 : Nat) (s18_2 : Int32 × zHp) => ((if ((o_Slots_placedIfOnly s18_2.2 (nI i18_2)).1) = (o_Int_bitCount (nI i18_2)) then (s18_2.1 + ((o_Slots_power (10 - x) (o_Int_bitCount (nI i18_2))) * (o_Slots_power x ((h 3 0) - (o_Int_bitCount (nI i18_2)))))) else s18_2.1), ((o_Slots_placedIfOnly s18_2.2 (nI i18_2)).2)))) (a := (0, h)) (fun i18_2 s18_2 => zV X Γ Q 18 [zO X 0, zI x, zI (zb upper), zI s18_2.1, zI (nI i18_2), none] [] s18_2.2 g) (fun _ s18_2 => ∀ c k : Nat, ¬ (c = 27 ∧ k = 0) → ¬ (c = 27 ∧ k = 1) → ¬ (c = 27 ∧ k = 2) → c ≠ 28 → c ≠ 29 → c ≠ 30 → c ≠ 31 → c ≠ 32 → c ≠ 33 → c ≠ 34 → c ≠ 35 → c ≠ 36 → c ≠ 37 → c ≠ 38 → s18_2.2 c k = h c k) (zcn (zshl 1 (h 3 0))) (fun _ _ _ _ _ _ _ _ _ _ _ _ _ _ _ _ => (by dsimp only)) (fun i18_2 s18_2 hi18_2 hI18_2 => ⟨(fun c k q0 q1 q2 q3 q4 q5 q6 q7 q8 q9 q10 q11 q12 q13 => (by (try dsimp only); exact ((fr_Slots_placedIfOnly _ _ (by assumption) (by assumption) (by assumption) (by assumption) (by assumption) (by assumption) (by assumption) (by assumption) (by assumption) (by assumption) (by assumption) (by assumption) (by assumption) (by assumption)).trans (hI18_2 _ _ (by assumption) (by assumption) (by assumption) (by assumption) (by assumption) (by assumption) (by assumption) (by assumption) (by assumption) (by assumption) (by assumption) (by assumption) (by assumption) (by assumption))))), fun hk18_2 => ?_⟩) (fun r18_2 er18_2 hI18_2 => ?_)
      · refine zr_iload C d_X6_off_18 rfl ?_
        refine zr_iconst C (v := 1) d_X6_off_20 (by decide) ?_
        refine zr_aload_n C d_X6_off_21 rfl ?_
        refine gf_Slots_1 C m228 d_X6_off_22 ?_
        refine gf_Mesh_0 C (by decide) m98 d_X6_off_25 ?_
        refine zr_top (hI18_2 _ _ (by omega) (by omega) (by omega) (by omega) (by omega) (by omega) (by omega) (by omega) (by omega) (by omega) (by omega) (by omega) (by omega) (by omega)) ?_
        refine zr_ishl C d_X6_off_28 ?_
        refine zr_icmp_ge C 83 d_X6_off_29 (by decide) (fun c => absurd c (zge_no rfl (by omega))) (fun _ => ?_)
        refine zr_iload C d_X6_off_32 rfl ?_
        refine zr_callSi (As := [.int (nI i18_2)]) (st := []) C (c_Int_bitCount X s18_2.2 g (nI i18_2)) k_Int_bitCount m480 m349 rfl (by decide) rfl (Nat.le_of_ble_eq_true rfl) d_X6_off_34 ?_
        refine zr_istore C [zO X 0, zI x, zI (zb upper), zI s18_2.1, zI (nI i18_2), zI (o_Int_bitCount (nI i18_2))] d_X6_off_37 (Nat.le_of_ble_eq_true rfl) rfl rfl ?_
        refine zr_aload_n C d_X6_off_39 rfl ?_
        refine zr_iload C d_X6_off_40 rfl ?_
        refine zr_callVi (As := [.int (nI i18_2)]) (st := []) (c := 0) C (c_Slots_placedIfOnly X s18_2.2 g (nI i18_2) (zfit_fr (hI18_2 _ _ (by omega) (by omega) (by omega) (by omega) (by omega) (by omega) (by omega) (by omega) (by omega) (by omega) (by omega) (by omega) (by omega) (by omega)) hf0)) k_Slots_placedIfOnly m694 m696 m18 (by decide) (zC_Slots X _ _) rfl rfl (by decide) rfl (Nat.le_of_ble_eq_true rfl) d_X6_off_42 ?_
        refine zr_vi (fun y3 ey3 => ?_)
        refine zr_h (fun h4 eh4 => ?_)
        refine zr_iload C d_X6_off_45 rfl ?_
        suffices hJ47 : ∀ (y5 : Int32), (if y3 = (o_Int_bitCount (nI i18_2)) then (s18_2.1 + ((o_Slots_power (10 - x) (o_Int_bitCount (nI i18_2))) * (o_Slots_power x ((h 3 0) - (o_Int_bitCount (nI i18_2)))))) else s18_2.1) = y5 → zV X Γ Q 77 [zO X 0, zI x, zI (zb upper), zI y5, zI (nI i18_2), none] [] h4 g by
          refine zr_icmp_ne C 77 d_X6_off_47 (by decide) (fun c47 => ?_) (fun c47 => ?_)
          · refine zr_lv [zO X 0, zI x, zI (zb upper), zI s18_2.1, zI (nI i18_2), none] (by simp [zle]) ?_
            exact hJ47 s18_2.1 (((if_neg c47)))
          · refine zr_iload_n C d_X6_off_50 rfl ?_
            refine zr_bipush C (v := 10) d_X6_off_51 (by decide) ?_
            refine zr_iload_n C d_X6_off_53 rfl ?_
            refine zr_isub C d_X6_off_54 ?_
            refine zr_iload C d_X6_off_55 rfl ?_
            refine zr_callSi (As := [.int (10 - x), .int (o_Int_bitCount (nI i18_2))]) (st := [.int s18_2.1]) C (c_Slots_power X h4 g (10 - x) (o_Int_bitCount (nI i18_2))) k_Slots_power m715 m716 rfl (by decide) rfl (Nat.le_of_ble_eq_true rfl) d_X6_off_57 ?_
            refine zr_iload_n C d_X6_off_60 rfl ?_
            refine zr_aload_n C d_X6_off_61 rfl ?_
            refine gf_Slots_1 C m228 d_X6_off_62 ?_
            refine gf_Mesh_0 C (by decide) m98 d_X6_off_65 ?_
            refine zr_top ((congrFun (congrFun eh4.symm _) _).trans ((fr_Slots_placedIfOnly _ _ (by omega) (by omega) (by omega) (by omega) (by omega) (by omega) (by omega) (by omega) (by omega) (by omega) (by omega) (by omega) (by omega) (by omega)).trans (hI18_2 _ _ (by omega) (by omega) (by omega) (by omega) (by omega) (by omega) (by omega) (by omega) (by omega) (by omega) (by omega) (by omega) (by omega) (by omega)))) ?_
            refine zr_iload C d_X6_off_68 rfl ?_
            refine zr_isub C d_X6_off_70 ?_
            refine zr_callSi (As := [.int x, .int ((h 3 0) - (o_Int_bitCount (nI i18_2)))]) (st := [.int (o_Slots_power (10 - x) (o_Int_bitCount (nI i18_2))), .int s18_2.1]) C (c_Slots_power X h4 g x ((h 3 0) - (o_Int_bitCount (nI i18_2)))) k_Slots_power m715 m716 rfl (by decide) rfl (Nat.le_of_ble_eq_true rfl) d_X6_off_71 ?_
            refine zr_imul C d_X6_off_74 ?_
            refine zr_iadd C d_X6_off_75 ?_
            refine zr_istore_n C [zO X 0, zI x, zI (zb upper), zI (s18_2.1 + ((o_Slots_power (10 - x) (o_Int_bitCount (nI i18_2))) * (o_Slots_power x ((h 3 0) - (o_Int_bitCount (nI i18_2)))))), zI (nI i18_2), zI (o_Int_bitCount (nI i18_2))] d_X6_off_76 (Nat.le_of_ble_eq_true rfl) rfl rfl ?_
            refine zr_lv [zO X 0, zI x, zI (zb upper), zI (s18_2.1 + ((o_Slots_power (10 - x) (o_Int_bitCount (nI i18_2))) * (o_Slots_power x ((h 3 0) - (o_Int_bitCount (nI i18_2)))))), zI (nI i18_2), none] (by simp [zle]) ?_
            exact hJ47 (s18_2.1 + ((o_Slots_power (10 - x) (o_Int_bitCount (nI i18_2))) * (o_Slots_power x ((h 3 0) - (o_Int_bitCount (nI i18_2)))))) (((if_pos c47)))
        intro y5 ey5
        refine zr_iinc C [zO X 0, zI x, zI (zb upper), zI y5, zI (nI (i18_2 + 1)), none] (v := (nI (i18_2 + 1))) d_X6_off_77 rfl (zn_add rfl rfl) (Nat.le_of_ble_eq_true rfl) rfl rfl ?_
        refine zr_goto C 18 d_X6_off_80 (by decide) ?_
        exact hk18_2 (y5, h4) (by subst ey5 eh4 ey3; exact rfl)
      refine zr_iload C d_X6_off_18 rfl ?_
      refine zr_iconst C (v := 1) d_X6_off_20 (by decide) ?_
      refine zr_aload_n C d_X6_off_21 rfl ?_
      refine gf_Slots_1 C m228 d_X6_off_22 ?_
      refine gf_Mesh_0 C (by decide) m98 d_X6_off_25 ?_
      refine zr_top (hI18_2 _ _ (by omega) (by omega) (by omega) (by omega) (by omega) (by omega) (by omega) (by omega) (by omega) (by omega) (by omega) (by omega) (by omega) (by omega)) ?_
      refine zr_ishl C d_X6_off_28 ?_
      refine zr_icmp_ge C 83 d_X6_off_29 (by decide) (fun _ => ?_) (fun c => absurd (zge_yes rfl (by omega) (by have := zcn_small (zshl 1 (h 3 0)); omega)) c)
      refine zr_iload_n C d_X6_off_83 rfl ?_
      refine zr_bipush C (v := 10) d_X6_off_84 (by decide) ?_
      refine zr_aload_n C d_X6_off_86 rfl ?_
      refine gf_Slots_1 C m228 d_X6_off_87 ?_
      refine gf_Mesh_0 C (by decide) m98 d_X6_off_90 ?_
      refine zr_top (hI18_2 _ _ (by omega) (by omega) (by omega) (by omega) (by omega) (by omega) (by omega) (by omega) (by omega) (by omega) (by omega) (by omega) (by omega) (by omega)) ?_
      refine zr_callSi (As := [.int 10, .int (h 3 0)]) (st := [.int r18_2.1]) C (c_Slots_power X r18_2.2 g 10 (h 3 0)) k_Slots_power m715 m716 rfl (by decide) rfl (Nat.le_of_ble_eq_true rfl) d_X6_off_93 ?_
      refine zr_iload_n C d_X6_off_96 rfl ?_
      refine zr_callSi (As := [.int r18_2.1, .int (o_Slots_power 10 (h 3 0)), .int (zb upper)]) (st := []) C (c_Slots_partOfFraction X r18_2.2 g r18_2.1 (o_Slots_power 10 (h 3 0)) upper) k_Slots_partOfFraction m702 m703 rfl (by decide) rfl (Nat.le_of_ble_eq_true rfl) d_X6_off_97 ?_
      have eR : o_Slots_off h x upper = ((o_Slots_partOfFraction r18_2.1 (o_Slots_power 10 (h 3 0)) upper), r18_2.2) := (by subst er18_2; unfold o_Slots_off; rw [if_neg c1, if_pos c7])
      subst hQ
      exact zTQ_Ih eR (zr_ireti C d_X6_off_100)
    · have en6 := zn_nle (a := zcn x) (b := 10) (zix c1) rfl c7 (zcn_small _) (by decide)
      refine zr_bipush C (v := (-2)) d_X6_off_10 (by decide) ?_
      have eR : o_Slots_off h x upper = ((-2), h) := (by unfold o_Slots_off; rw [if_neg c1, if_neg c7])
      subst hQ
      exact zTQ_Ih eR (zr_ireti C d_X6_off_12)
theorem d_X6_seed_0 : decode prog_1_method_37_code 0 = .ok (.aload_n 0, 1) := by decide +kernel
theorem d_X6_seed_1 : decode prog_1_method_37_code 1 = .ok (.getfield 63, 3) := by decide +kernel
theorem d_X6_seed_4 : decode prog_1_method_37_code 4 = .ok (.lstore_n 3, 1) := by decide +kernel
theorem d_X6_seed_5 : decode prog_1_method_37_code 5 = .ok (.aload_n 0, 1) := by decide +kernel
theorem d_X6_seed_6 : decode prog_1_method_37_code 6 = .ok (.lload_n 1, 1) := by decide +kernel
theorem d_X6_seed_7 : decode prog_1_method_37_code 7 = .ok (.putfield 63, 3) := by decide +kernel
theorem d_X6_seed_10 : decode prog_1_method_37_code 10 = .ok (.lload_n 3, 1) := by decide +kernel
theorem d_X6_seed_11 : decode prog_1_method_37_code 11 = .ok (.lreturn, 1) := by decide +kernel
abbrev M_Slots_seed : zMT := (⟨"PeriodSlots", "seed", "(J)J"⟩, prog_1_method_37_code, 5, (some .long))
theorem k_Slots_seed : zcall M_Slots_seed 1 := ⟨zU_in (i := 721) (by decide +kernel) rfl, m54, ⟨by decide, by decide, by decide +kernel⟩, by decide⟩
def o_Slots_seed (h : zHp) (g : zLg) (v : Int64) : Int64 × zLg :=
  ((g 0), (zupg g 0 v))
set_option maxHeartbeats 400000 in
set_option maxRecDepth 20000 in
theorem c_Slots_seed (X : zXT) (h : zHp) (g : zLg) (v : Int64) : zDi X M_Slots_seed 0 [zR X 0, .long v] h g (zL ((o_Slots_seed h g v).1)) h ((o_Slots_seed h g v).2) := by
  refine zDi_of "PeriodSlots" prog_1_method_37_code 5 (some .long) rfl (by decide) [zO X 0, zL v, none, none, none] rfl (fun _ q => q) (Nat.le_of_ble_eq_true rfl) ?_
  intro Γ Q C hQ
  refine zr_aload_n C d_X6_seed_0 rfl ?_
  refine gf_Slots_9 C m236 d_X6_seed_1 ?_
  refine zr_lstore_n C [zO X 0, zL v, none, zL (g 0), none] d_X6_seed_4 (Nat.le_of_ble_eq_true rfl) rfl rfl ?_
  refine zr_aload_n C d_X6_seed_5 rfl ?_
  refine zr_lload_n C d_X6_seed_6 rfl ?_
  refine pf_Slots_9 C m236 d_X6_seed_7 ?_
  refine zr_g (fun g1 eg1 => ?_)
  refine zr_lload_n C d_X6_seed_10 rfl ?_
  have eR : o_Slots_seed h g v = ((g 0), g1) := (by subst eg1; unfold o_Slots_seed; exact rfl)
  subst hQ
  exact zTQ_Jg eR (zr_lret C d_X6_seed_11)
theorem d_X6_drawOffsets_0 : decode prog_1_method_39_code 0 = .ok (.aload_n 0, 1) := by decide +kernel
theorem d_X6_drawOffsets_1 : decode prog_1_method_39_code 1 = .ok (.getfield 26, 3) := by decide +kernel
theorem d_X6_drawOffsets_4 : decode prog_1_method_39_code 4 = .ok (.aload_n 0, 1) := by decide +kernel
theorem d_X6_drawOffsets_5 : decode prog_1_method_39_code 5 = .ok (.getfield 19, 3) := by decide +kernel
theorem d_X6_drawOffsets_8 : decode prog_1_method_39_code 8 = .ok (.invokevirtual 78, 3) := by decide +kernel
theorem d_X6_drawOffsets_11 : decode prog_1_method_39_code 11 = .ok (.aload_n 0, 1) := by decide +kernel
theorem d_X6_drawOffsets_12 : decode prog_1_method_39_code 12 = .ok (.getfield 26, 3) := by decide +kernel
theorem d_X6_drawOffsets_15 : decode prog_1_method_39_code 15 = .ok (.iconst 1, 1) := by decide +kernel
theorem d_X6_drawOffsets_16 : decode prog_1_method_39_code 16 = .ok (.aload_n 0, 1) := by decide +kernel
theorem d_X6_drawOffsets_17 : decode prog_1_method_39_code 17 = .ok (.getfield 26, 3) := by decide +kernel
theorem d_X6_drawOffsets_20 : decode prog_1_method_39_code 20 = .ok (.getfield 88, 3) := by decide +kernel
theorem d_X6_drawOffsets_23 : decode prog_1_method_39_code 23 = .ok (.ishl, 1) := by decide +kernel
theorem d_X6_drawOffsets_24 : decode prog_1_method_39_code 24 = .ok (.iconst 1, 1) := by decide +kernel
theorem d_X6_drawOffsets_25 : decode prog_1_method_39_code 25 = .ok (.isub, 1) := by decide +kernel
theorem d_X6_drawOffsets_26 : decode prog_1_method_39_code 26 = .ok (.invokevirtual 272, 3) := by decide +kernel
theorem d_X6_drawOffsets_29 : decode prog_1_method_39_code 29 = .ok (.iconst 0, 1) := by decide +kernel
theorem d_X6_drawOffsets_30 : decode prog_1_method_39_code 30 = .ok (.istore_n 1, 1) := by decide +kernel
theorem d_X6_drawOffsets_31 : decode prog_1_method_39_code 31 = .ok (.iload_n 1, 1) := by decide +kernel
theorem d_X6_drawOffsets_32 : decode prog_1_method_39_code 32 = .ok (.aload_n 0, 1) := by decide +kernel
theorem d_X6_drawOffsets_33 : decode prog_1_method_39_code 33 = .ok (.getfield 26, 3) := by decide +kernel
theorem d_X6_drawOffsets_36 : decode prog_1_method_39_code 36 = .ok (.getfield 88, 3) := by decide +kernel
theorem d_X6_drawOffsets_39 : decode prog_1_method_39_code 39 = .ok (.if_icmp .ge 49, 3) := by decide +kernel
theorem d_X6_drawOffsets_42 : decode prog_1_method_39_code 42 = .ok (.aload_n 0, 1) := by decide +kernel
theorem d_X6_drawOffsets_43 : decode prog_1_method_39_code 43 = .ok (.aload_n 0, 1) := by decide +kernel
theorem d_X6_drawOffsets_44 : decode prog_1_method_39_code 44 = .ok (.getfield 63, 3) := by decide +kernel
theorem d_X6_drawOffsets_47 : decode prog_1_method_39_code 47 = .ok (.ldc2_w 278, 3) := by decide +kernel
theorem d_X6_drawOffsets_50 : decode prog_1_method_39_code 50 = .ok (.lmul, 1) := by decide +kernel
theorem d_X6_drawOffsets_51 : decode prog_1_method_39_code 51 = .ok (.ldc2_w 280, 3) := by decide +kernel
theorem d_X6_drawOffsets_54 : decode prog_1_method_39_code 54 = .ok (.ladd, 1) := by decide +kernel
theorem d_X6_drawOffsets_55 : decode prog_1_method_39_code 55 = .ok (.putfield 63, 3) := by decide +kernel
theorem d_X6_drawOffsets_58 : decode prog_1_method_39_code 58 = .ok (.aload_n 0, 1) := by decide +kernel
theorem d_X6_drawOffsets_59 : decode prog_1_method_39_code 59 = .ok (.getfield 26, 3) := by decide +kernel
theorem d_X6_drawOffsets_62 : decode prog_1_method_39_code 62 = .ok (.iload_n 1, 1) := by decide +kernel
theorem d_X6_drawOffsets_63 : decode prog_1_method_39_code 63 = .ok (.aload_n 0, 1) := by decide +kernel
theorem d_X6_drawOffsets_64 : decode prog_1_method_39_code 64 = .ok (.getfield 26, 3) := by decide +kernel
theorem d_X6_drawOffsets_67 : decode prog_1_method_39_code 67 = .ok (.iload_n 1, 1) := by decide +kernel
theorem d_X6_drawOffsets_68 : decode prog_1_method_39_code 68 = .ok (.aload_n 0, 1) := by decide +kernel
theorem d_X6_drawOffsets_69 : decode prog_1_method_39_code 69 = .ok (.getfield 63, 3) := by decide +kernel
theorem d_X6_drawOffsets_72 : decode prog_1_method_39_code 72 = .ok (.bipush 33, 2) := by decide +kernel
theorem d_X6_drawOffsets_74 : decode prog_1_method_39_code 74 = .ok (.lushr, 1) := by decide +kernel
theorem d_X6_drawOffsets_75 : decode prog_1_method_39_code 75 = .ok (.l2i, 1) := by decide +kernel
theorem d_X6_drawOffsets_76 : decode prog_1_method_39_code 76 = .ok (.invokevirtual 282, 3) := by decide +kernel
theorem d_X6_drawOffsets_79 : decode prog_1_method_39_code 79 = .ok (.invokevirtual 179, 3) := by decide +kernel
theorem d_X6_drawOffsets_82 : decode prog_1_method_39_code 82 = .ok (.iinc 1 1, 3) := by decide +kernel
theorem d_X6_drawOffsets_85 : decode prog_1_method_39_code 85 = .ok (.goto (-54), 3) := by decide +kernel
theorem d_X6_drawOffsets_88 : decode prog_1_method_39_code 88 = .ok (.return_, 1) := by decide +kernel
abbrev M_Slots_drawOffsets : zMT := (⟨"PeriodSlots", "drawOffsets", "()V"⟩, prog_1_method_39_code, 2, none)
theorem k_Slots_drawOffsets : zcall M_Slots_drawOffsets 0 := ⟨zU_in (i := 729) (by decide +kernel) rfl, m54, ⟨by decide, by decide, by decide +kernel⟩, by decide⟩
def o_Slots_drawOffsets (h : zHp) (g : zLg) : zHp × zLg :=
  ((zrep (fun (i31_3 : Nat) (s31_3 : zHp × zLg) => ((o_Mesh_place s31_3.1 27 i31_3 (o_Mesh_wrapped (o_Mesh_copyFrom h 27 3) 27 i31_3 (Int64.toInt32 (zlshr ((zupg s31_3.2 0 (((s31_3.2 0) * 6364136223846793005) + 1442695040888963407)) 0) 33)))), (zupg s31_3.2 0 (((s31_3.2 0) * 6364136223846793005) + 1442695040888963407)))) ((o_Mesh_startWithOnly (o_Mesh_copyFrom h 27 3) 27 ((zshl 1 ((o_Mesh_copyFrom h 27 3) 27 0)) - 1)), g) (zcn ((o_Mesh_copyFrom h 27 3) 27 0))).1, (zrep (fun (i31_3 : Nat) (s31_3 : zHp × zLg) => ((o_Mesh_place s31_3.1 27 i31_3 (o_Mesh_wrapped (o_Mesh_copyFrom h 27 3) 27 i31_3 (Int64.toInt32 (zlshr ((zupg s31_3.2 0 (((s31_3.2 0) * 6364136223846793005) + 1442695040888963407)) 0) 33)))), (zupg s31_3.2 0 (((s31_3.2 0) * 6364136223846793005) + 1442695040888963407)))) ((o_Mesh_startWithOnly (o_Mesh_copyFrom h 27 3) 27 ((zshl 1 ((o_Mesh_copyFrom h 27 3) 27 0)) - 1)), g) (zcn ((o_Mesh_copyFrom h 27 3) 27 0))).2)
theorem fr_Slots_drawOffsets {h : zHp} {g : zLg} (c k : Nat) (q0 : ¬ (c = 27 ∧ k = 0)) (q1 : ¬ (c = 27 ∧ k = 1)) (q2 : ¬ (c = 27 ∧ k = 2)) (q3 : c ≠ 28) (q4 : c ≠ 29) (q5 : c ≠ 30) (q6 : c ≠ 31) (q7 : c ≠ 32) (q8 : c ≠ 33) (q9 : c ≠ 34) (q10 : c ≠ 35) (q11 : c ≠ 36) (q12 : c ≠ 37) (q13 : c ≠ 38) : (o_Slots_drawOffsets h g).1 c k = h c k := by
  unfold o_Slots_drawOffsets
  have hI31_3 := zrep_inv (f := (fun (i31_3 : Nat) (s31_3 : zHp × zLg) => ((o_Mesh_place s31_3.1 27 i31_3 (o_Mesh_wrapped (o_Mesh_copyFrom h 27 3) 27 i31_3 (Int64.toInt32 (zlshr ((zupg s31_3.2 0 (((s31_3.2 0) * 6364136223846793005) + 1442695040888963407)) 0) 33)))), (zupg s31_3.2 0 (((s31_3.2 0) * 6364136223846793005) + 1442695040888963407))))) (a := ((o_Mesh_startWithOnly (o_Mesh_copyFrom h 27 3) 27 ((zshl 1 ((o_Mesh_copyFrom h 27 3) 27 0)) - 1)), g)) (fun _ s31_3 => ∀ c k : Nat, c ≠ 30 → c ≠ 31 → c ≠ 36 → c ≠ 37 → s31_3.1 c k = (o_Mesh_startWithOnly (o_Mesh_copyFrom h 27 3) 27 ((zshl 1 ((o_Mesh_copyFrom h 27 3) 27 0)) - 1)) c k) (zcn ((o_Mesh_copyFrom h 27 3) 27 0)) (fun _ _ _ _ _ _ => (by dsimp only)) (fun i31_3 s31_3 hi31_3 hI31_3 => (fun c k q0 q1 q2 q3 => (by (try dsimp only); exact ((fr_Mesh_place _ _ (by assumption) (by assumption) (by assumption) (by assumption)).trans (hI31_3 _ _ (by assumption) (by assumption) (by assumption) (by assumption))))))
  try dsimp only
  first | done | exact ((hI31_3 _ _ (by assumption) (by assumption) (by assumption) (by assumption)).trans ((fr_Mesh_startWithOnly _ _ (by assumption) (by assumption) (by assumption) (by assumption) (by assumption) (by assumption) (by assumption) (by assumption) (by assumption)).trans (fr_Mesh_copyFrom _ _ (by assumption) (by assumption) (by assumption) (by assumption) (by assumption) (by assumption) (by assumption) (by assumption) (by assumption) (by assumption) (by assumption) (by assumption))))
set_option maxHeartbeats 400000 in
set_option maxRecDepth 20000 in
theorem c_Slots_drawOffsets (X : zXT) (h : zHp) (g : zLg) (hf0 : zfit h 3 0 8) : zDi X M_Slots_drawOffsets 4 [zR X 0] h g none ((o_Slots_drawOffsets h g).1) ((o_Slots_drawOffsets h g).2) := by
  have hf0_1 := hf0.1
  refine zDi_of "PeriodSlots" prog_1_method_39_code 2 none rfl (by decide) [zO X 0, none] rfl (fun _ q => q) (Nat.le_of_ble_eq_true rfl) ?_
  intro Γ Q C hQ
  refine zr_aload_n C d_X6_drawOffsets_0 rfl ?_
  refine gf_Slots_3 C m230 d_X6_drawOffsets_1 ?_
  refine zr_aload_n C d_X6_drawOffsets_4 rfl ?_
  refine gf_Slots_1 C m228 d_X6_drawOffsets_5 ?_
  refine zr_callVv (As := [zR X 3]) (st := []) (c := 27) C (c_Mesh_copyFrom X h g 27 3 (by decide) (by decide)) k_Mesh_copyFrom m375 m376 m377 (by decide) (zC_Mesh (by decide) X _ _) rfl rfl (by decide) rfl (Nat.le_of_ble_eq_true rfl) d_X6_drawOffsets_8 ?_
  refine zr_h (fun h1 eh1 => ?_)
  have hph1 : zfit h1 27 0 8 := by rw [← eh1]; exact pf_copyFrom hf0
  have hph1_1 := hph1.1
  refine zr_aload_n C d_X6_drawOffsets_11 rfl ?_
  refine gf_Slots_3 C m230 d_X6_drawOffsets_12 ?_
  refine zr_iconst C (v := 1) d_X6_drawOffsets_15 (by decide) ?_
  refine zr_aload_n C d_X6_drawOffsets_16 rfl ?_
  refine gf_Slots_3 C m230 d_X6_drawOffsets_17 ?_
  refine gf_Mesh_0 C (by decide) m98 d_X6_drawOffsets_20 ?_
  refine zr_ishl C d_X6_drawOffsets_23 ?_
  refine zr_iconst C (v := 1) d_X6_drawOffsets_24 (by decide) ?_
  refine zr_isub C d_X6_drawOffsets_25 ?_
  refine zr_callVv (As := [.int ((zshl 1 (h1 27 0)) - 1)]) (st := []) (c := 27) C (c_Mesh_startWithOnly X h1 g 27 ((zshl 1 (h1 27 0)) - 1) (by decide) hph1) k_Mesh_startWithOnly m698 m699 m700 (by decide) (zC_Mesh (by decide) X _ _) rfl rfl (by decide) rfl (Nat.le_of_ble_eq_true rfl) d_X6_drawOffsets_26 ?_
  refine zr_h (fun h2 eh2 => ?_)
  refine zr_iconst C (v := 0) d_X6_drawOffsets_29 (by decide) ?_
  refine zr_istore_n C [zO X 0, zI 0] d_X6_drawOffsets_30 (Nat.le_of_ble_eq_true rfl) rfl rfl ?_
  refine zfor (f := (fun (i31_3 : Nat) (s31_3 : zHp × zLg) => ((o_Mesh_place s31_3.1 27 i31_3 (o_Mesh_wrapped h1 27 i31_3 (Int64.toInt32 (zlshr ((zupg s31_3.2 0 (((s31_3.2 0) * 6364136223846793005) + 1442695040888963407)) 0) 33)))), (zupg s31_3.2 0 (((s31_3.2 0) * 6364136223846793005) + 1442695040888963407))))) (a := (h2, g)) (fun i31_3 s31_3 => zV X Γ Q 31 [zO X 0, zI (nI i31_3)] [] s31_3.1 s31_3.2) (fun _ s31_3 => ∀ c k : Nat, c ≠ 30 → c ≠ 31 → c ≠ 36 → c ≠ 37 → s31_3.1 c k = h2 c k) (zcn (h1 27 0)) (fun _ _ _ _ _ _ => (by dsimp only)) (fun i31_3 s31_3 hi31_3 hI31_3 => ⟨(fun c k q0 q1 q2 q3 => (by (try dsimp only); exact ((fr_Mesh_place _ _ (by assumption) (by assumption) (by assumption) (by assumption)).trans (hI31_3 _ _ (by assumption) (by assumption) (by assumption) (by assumption))))), fun hk31_3 => ?_⟩) (fun r31_3 er31_3 hI31_3 => ?_)
  · refine zr_iload_n C d_X6_drawOffsets_31 rfl ?_
    refine zr_aload_n C d_X6_drawOffsets_32 rfl ?_
    refine gf_Slots_3 C m230 d_X6_drawOffsets_33 ?_
    refine gf_Mesh_0 C (by decide) m98 d_X6_drawOffsets_36 ?_
    refine zr_top ((hI31_3 _ _ (by omega) (by omega) (by omega) (by omega)).trans ((congrFun (congrFun eh2.symm _) _).trans (fr_Mesh_startWithOnly _ _ (by omega) (by omega) (by omega) (by omega) (by omega) (by omega) (by omega) (by omega) (by omega)))) ?_
    refine zr_icmp_ge C 88 d_X6_drawOffsets_39 (by decide) (fun c => absurd c (zge_no rfl (by omega))) (fun _ => ?_)
    refine zr_aload_n C d_X6_drawOffsets_42 rfl ?_
    refine zr_aload_n C d_X6_drawOffsets_43 rfl ?_
    refine gf_Slots_9 C m236 d_X6_drawOffsets_44 ?_
    refine zr_ldc2 C (v := 6364136223846793005) m730 d_X6_drawOffsets_47 ?_
    refine zr_lmul C d_X6_drawOffsets_50 ?_
    refine zr_ldc2 C (v := 1442695040888963407) m731 d_X6_drawOffsets_51 ?_
    refine zr_ladd C d_X6_drawOffsets_54 ?_
    refine pf_Slots_9 C m236 d_X6_drawOffsets_55 ?_
    refine zr_g (fun g4 eg4 => ?_)
    refine zr_aload_n C d_X6_drawOffsets_58 rfl ?_
    refine gf_Slots_3 C m230 d_X6_drawOffsets_59 ?_
    refine zr_iload_n C d_X6_drawOffsets_62 rfl ?_
    refine zr_aload_n C d_X6_drawOffsets_63 rfl ?_
    refine gf_Slots_3 C m230 d_X6_drawOffsets_64 ?_
    refine zr_iload_n C d_X6_drawOffsets_67 rfl ?_
    refine zr_aload_n C d_X6_drawOffsets_68 rfl ?_
    refine gf_Slots_9 C m236 d_X6_drawOffsets_69 ?_
    refine zr_bipush C (v := 33) d_X6_drawOffsets_72 (by decide) ?_
    refine zr_lushr C d_X6_drawOffsets_74 ?_
    refine zr_l2i C d_X6_drawOffsets_75 ?_
    refine zr_callVi (As := [.int (nI i31_3), .int (Int64.toInt32 (zlshr (g4 0) 33))]) (st := [.int (nI i31_3), zR X 27]) (c := 27) C (c_Mesh_wrapped X s31_3.1 g4 27 i31_3 (Int64.toInt32 (zlshr (g4 0) 33)) rfl (by decide) (by omega)) k_Mesh_wrapped m732 m295 m296 (by decide) (zC_Mesh (by decide) X _ _) rfl rfl (by decide) rfl (Nat.le_of_ble_eq_true rfl) d_X6_drawOffsets_76 ?_
    refine zr_top (rd_Mesh_wrapped (funext fun kk => ((hI31_3 _ _ (by omega) (by omega) (by omega) (by omega)).trans ((congrFun (congrFun eh2.symm _) _).trans (fr_Mesh_startWithOnly _ _ (by omega) (by omega) (by omega) (by omega) (by omega) (by omega) (by omega) (by omega) (by omega)))))) ?_
    refine zr_callVv (As := [.int (nI i31_3), .int (o_Mesh_wrapped h1 27 i31_3 (Int64.toInt32 (zlshr (g4 0) 33)))]) (st := []) (c := 27) C (c_Mesh_place X s31_3.1 g4 27 i31_3 (o_Mesh_wrapped h1 27 i31_3 (Int64.toInt32 (zlshr (g4 0) 33))) rfl (by decide) (zfit_fr ((hI31_3 _ _ (by omega) (by omega) (by omega) (by omega)).trans ((congrFun (congrFun eh2.symm _) _).trans (fr_Mesh_startWithOnly _ _ (by omega) (by omega) (by omega) (by omega) (by omega) (by omega) (by omega) (by omega) (by omega)))) hph1) (by omega)) k_Mesh_place m500 m501 m502 (by decide) (zC_Mesh (by decide) X _ _) rfl rfl (by decide) rfl (Nat.le_of_ble_eq_true rfl) d_X6_drawOffsets_79 ?_
    refine zr_h (fun h5 eh5 => ?_)
    refine zr_iinc C [zO X 0, zI (nI (i31_3 + 1))] (v := (nI (i31_3 + 1))) d_X6_drawOffsets_82 rfl (zn_add rfl rfl) (Nat.le_of_ble_eq_true rfl) rfl rfl ?_
    refine zr_goto C 31 d_X6_drawOffsets_85 (by decide) ?_
    exact hk31_3 (h5, g4) (by subst eh5 eg4; exact rfl)
  refine zr_iload_n C d_X6_drawOffsets_31 rfl ?_
  refine zr_aload_n C d_X6_drawOffsets_32 rfl ?_
  refine gf_Slots_3 C m230 d_X6_drawOffsets_33 ?_
  refine gf_Mesh_0 C (by decide) m98 d_X6_drawOffsets_36 ?_
  refine zr_top ((hI31_3 _ _ (by omega) (by omega) (by omega) (by omega)).trans ((congrFun (congrFun eh2.symm _) _).trans (fr_Mesh_startWithOnly _ _ (by omega) (by omega) (by omega) (by omega) (by omega) (by omega) (by omega) (by omega) (by omega)))) ?_
  refine zr_icmp_ge C 88 d_X6_drawOffsets_39 (by decide) (fun _ => ?_) (fun c => absurd (zge_yes rfl (by omega) (by have := zcn_small (h1 27 0); omega)) c)
  have eR : o_Slots_drawOffsets h g = (r31_3.1, r31_3.2) := (by subst er31_3 eh2 eh1; unfold o_Slots_drawOffsets; exact rfl)
  subst hQ
  exact zTQ_Vhg eR (zr_vret C d_X6_drawOffsets_88)
theorem pf_drawOffsets {h : zHp} {g : zLg} (f : zfit h 3 0 8) : zfit (o_Slots_drawOffsets h g).1 27 0 8 := by
  have f2 : zfit (o_Mesh_copyFrom h 27 3) 27 0 8 := pf_copyFrom f
  have key : (o_Slots_drawOffsets h g).1 27 0 = o_Mesh_copyFrom h 27 3 27 0 := by
    unfold o_Slots_drawOffsets
    dsimp only
    refine (zrep_inv (fun _ (s : zHp × zLg) => s.1 27 0 = o_Mesh_copyFrom h 27 3 27 0) _ ?_ ?_)
    · dsimp only
      exact fr_Mesh_startWithOnly _ _ (by omega) (by omega) (by omega) (by omega) (by omega) (by omega) (by omega) (by omega) (by omega)
    · intro i s _ hI
      exact (fr_Mesh_place _ _ (by omega) (by omega) (by omega) (by omega)).trans hI
  exact zfit_fr key f2

theorem d_X6_drawn_0 : decode prog_1_method_38_code 0 = .ok (.iload_n 1, 1) := by decide +kernel
theorem d_X6_drawn_1 : decode prog_1_method_38_code 1 = .ok (.iconst 1, 1) := by decide +kernel
theorem d_X6_drawn_2 : decode prog_1_method_38_code 2 = .ok (.if_icmp .lt 9, 3) := by decide +kernel
theorem d_X6_drawn_5 : decode prog_1_method_38_code 5 = .ok (.iload_n 1, 1) := by decide +kernel
theorem d_X6_drawn_6 : decode prog_1_method_38_code 6 = .ok (.bipush 10, 2) := by decide +kernel
theorem d_X6_drawn_8 : decode prog_1_method_38_code 8 = .ok (.if_icmp .le 6, 3) := by decide +kernel
theorem d_X6_drawn_11 : decode prog_1_method_38_code 11 = .ok (.bipush (-2), 2) := by decide +kernel
theorem d_X6_drawn_13 : decode prog_1_method_38_code 13 = .ok (.ireturn, 1) := by decide +kernel
theorem d_X6_drawn_14 : decode prog_1_method_38_code 14 = .ok (.iconst 0, 1) := by decide +kernel
theorem d_X6_drawn_15 : decode prog_1_method_38_code 15 = .ok (.istore_n 2, 1) := by decide +kernel
theorem d_X6_drawn_16 : decode prog_1_method_38_code 16 = .ok (.iconst 0, 1) := by decide +kernel
theorem d_X6_drawn_17 : decode prog_1_method_38_code 17 = .ok (.istore_n 3, 1) := by decide +kernel
theorem d_X6_drawn_18 : decode prog_1_method_38_code 18 = .ok (.iload_n 3, 1) := by decide +kernel
theorem d_X6_drawn_19 : decode prog_1_method_38_code 19 = .ok (.iload_n 1, 1) := by decide +kernel
theorem d_X6_drawn_20 : decode prog_1_method_38_code 20 = .ok (.if_icmp .ge 39, 3) := by decide +kernel
theorem d_X6_drawn_23 : decode prog_1_method_38_code 23 = .ok (.aload_n 0, 1) := by decide +kernel
theorem d_X6_drawn_24 : decode prog_1_method_38_code 24 = .ok (.invokevirtual 275, 3) := by decide +kernel
theorem d_X6_drawn_27 : decode prog_1_method_38_code 27 = .ok (.aload_n 0, 1) := by decide +kernel
theorem d_X6_drawn_28 : decode prog_1_method_38_code 28 = .ok (.getfield 26, 3) := by decide +kernel
theorem d_X6_drawn_31 : decode prog_1_method_38_code 31 = .ok (.invokevirtual 200, 3) := by decide +kernel
theorem d_X6_drawn_34 : decode prog_1_method_38_code 34 = .ok (.istore 4, 2) := by decide +kernel
theorem d_X6_drawn_36 : decode prog_1_method_38_code 36 = .ok (.iload_n 2, 1) := by decide +kernel
theorem d_X6_drawn_37 : decode prog_1_method_38_code 37 = .ok (.iload 4, 2) := by decide +kernel
theorem d_X6_drawn_39 : decode prog_1_method_38_code 39 = .ok (.bipush (-9), 2) := by decide +kernel
theorem d_X6_drawn_41 : decode prog_1_method_38_code 41 = .ok (.if_icmp .ne 8, 3) := by decide +kernel
theorem d_X6_drawn_44 : decode prog_1_method_38_code 44 = .ok (.bipush 40, 2) := by decide +kernel
theorem d_X6_drawn_46 : decode prog_1_method_38_code 46 = .ok (.goto 5, 3) := by decide +kernel
theorem d_X6_drawn_49 : decode prog_1_method_38_code 49 = .ok (.iload 4, 2) := by decide +kernel
theorem d_X6_drawn_51 : decode prog_1_method_38_code 51 = .ok (.iadd, 1) := by decide +kernel
theorem d_X6_drawn_52 : decode prog_1_method_38_code 52 = .ok (.istore_n 2, 1) := by decide +kernel
theorem d_X6_drawn_53 : decode prog_1_method_38_code 53 = .ok (.iinc 3 1, 3) := by decide +kernel
theorem d_X6_drawn_56 : decode prog_1_method_38_code 56 = .ok (.goto (-38), 3) := by decide +kernel
theorem d_X6_drawn_59 : decode prog_1_method_38_code 59 = .ok (.iload_n 2, 1) := by decide +kernel
theorem d_X6_drawn_60 : decode prog_1_method_38_code 60 = .ok (.ireturn, 1) := by decide +kernel
abbrev M_Slots_drawn : zMT := (⟨"PeriodSlots", "drawn", "(I)I"⟩, prog_1_method_38_code, 5, (some .int))
theorem k_Slots_drawn : zcall M_Slots_drawn 1 := ⟨zU_in (i := 725) (by decide +kernel) rfl, m54, ⟨by decide, by decide, by decide +kernel⟩, by decide⟩
def o_Slots_drawn (h : zHp) (g : zLg) (m : Int32) : Int32 × zHp × zLg :=
  (if m < 1 then ((-2), h, g) else (if m ≤ 10 then ((zrep (fun (i18_3 : Nat) (s18_3 : Int32 × zHp × zLg) => ((s18_3.1 + (if ((o_Mesh_settle ((o_Slots_drawOffsets s18_3.2.1 s18_3.2.2).1) 27).1) = (-9) then 40 else ((o_Mesh_settle ((o_Slots_drawOffsets s18_3.2.1 s18_3.2.2).1) 27).1))), ((o_Mesh_settle ((o_Slots_drawOffsets s18_3.2.1 s18_3.2.2).1) 27).2), ((o_Slots_drawOffsets s18_3.2.1 s18_3.2.2).2))) (0, h, g) (zcn m)).1, (zrep (fun (i18_3 : Nat) (s18_3 : Int32 × zHp × zLg) => ((s18_3.1 + (if ((o_Mesh_settle ((o_Slots_drawOffsets s18_3.2.1 s18_3.2.2).1) 27).1) = (-9) then 40 else ((o_Mesh_settle ((o_Slots_drawOffsets s18_3.2.1 s18_3.2.2).1) 27).1))), ((o_Mesh_settle ((o_Slots_drawOffsets s18_3.2.1 s18_3.2.2).1) 27).2), ((o_Slots_drawOffsets s18_3.2.1 s18_3.2.2).2))) (0, h, g) (zcn m)).2.1, (zrep (fun (i18_3 : Nat) (s18_3 : Int32 × zHp × zLg) => ((s18_3.1 + (if ((o_Mesh_settle ((o_Slots_drawOffsets s18_3.2.1 s18_3.2.2).1) 27).1) = (-9) then 40 else ((o_Mesh_settle ((o_Slots_drawOffsets s18_3.2.1 s18_3.2.2).1) 27).1))), ((o_Mesh_settle ((o_Slots_drawOffsets s18_3.2.1 s18_3.2.2).1) 27).2), ((o_Slots_drawOffsets s18_3.2.1 s18_3.2.2).2))) (0, h, g) (zcn m)).2.2) else ((-2), h, g)))
theorem fr_Slots_drawn {h : zHp} {g : zLg} {m : Int32} (c k : Nat) (q0 : ¬ (c = 27 ∧ k = 0)) (q1 : ¬ (c = 27 ∧ k = 1)) (q2 : ¬ (c = 27 ∧ k = 2)) (q3 : c ≠ 28) (q4 : c ≠ 29) (q5 : c ≠ 30) (q6 : c ≠ 31) (q7 : c ≠ 32) (q8 : c ≠ 33) (q9 : c ≠ 34) (q10 : c ≠ 35) (q11 : c ≠ 36) (q12 : c ≠ 37) (q13 : c ≠ 38) : (o_Slots_drawn h g m).2.1 c k = h c k := by
  unfold o_Slots_drawn
  by_cases f1 : m < 1
  · rw [if_pos f1]
    try dsimp only
    first | done | exact rfl
  · rw [if_neg f1]
    by_cases f2 : m ≤ 10
    · rw [if_pos f2]
      have hI18_3 := zrep_inv (f := (fun (i18_3 : Nat) (s18_3 : Int32 × zHp × zLg) => ((s18_3.1 + (if ((o_Mesh_settle ((o_Slots_drawOffsets s18_3.2.1 s18_3.2.2).1) 27).1) = (-9) then 40 else ((o_Mesh_settle ((o_Slots_drawOffsets s18_3.2.1 s18_3.2.2).1) 27).1))), ((o_Mesh_settle ((o_Slots_drawOffsets s18_3.2.1 s18_3.2.2).1) 27).2), ((o_Slots_drawOffsets s18_3.2.1 s18_3.2.2).2)))) (a := (0, h, g)) (fun _ s18_3 => ∀ c k : Nat, ¬ (c = 27 ∧ k = 0) → ¬ (c = 27 ∧ k = 1) → ¬ (c = 27 ∧ k = 2) → c ≠ 28 → c ≠ 29 → c ≠ 30 → c ≠ 31 → c ≠ 32 → c ≠ 33 → c ≠ 34 → c ≠ 35 → c ≠ 36 → c ≠ 37 → c ≠ 38 → s18_3.2.1 c k = h c k) (zcn m) (fun _ _ _ _ _ _ _ _ _ _ _ _ _ _ _ _ => (by dsimp only)) (fun i18_3 s18_3 hi18_3 hI18_3 => (fun c k q0 q1 q2 q3 q4 q5 q6 q7 q8 q9 q10 q11 q12 q13 => (by (try dsimp only); exact ((fr_Mesh_settle _ _ (by assumption) (by assumption) (by assumption) (by assumption) (by assumption) (by assumption) (by assumption) (by assumption) (by assumption)).trans ((fr_Slots_drawOffsets _ _ (by assumption) (by assumption) (by assumption) (by assumption) (by assumption) (by assumption) (by assumption) (by assumption) (by assumption) (by assumption) (by assumption) (by assumption) (by assumption) (by assumption)).trans (hI18_3 _ _ (by assumption) (by assumption) (by assumption) (by assumption) (by assumption) (by assumption) (by assumption) (by assumption) (by assumption) (by assumption) (by assumption) (by assumption) (by assumption) (by assumption)))))))
      try dsimp only
      first | done | exact (hI18_3 _ _ (by assumption) (by assumption) (by assumption) (by assumption) (by assumption) (by assumption) (by assumption) (by assumption) (by assumption) (by assumption) (by assumption) (by assumption) (by assumption) (by assumption))
    · rw [if_neg f2]
      try dsimp only
      first | done | exact rfl
set_option maxHeartbeats 400000 in
set_option maxRecDepth 20000 in
theorem c_Slots_drawn (X : zXT) (h : zHp) (g : zLg) (m : Int32) (hf0 : zfit h 3 0 8) : zDi X M_Slots_drawn 5 [zR X 0, .int m] h g (zI ((o_Slots_drawn h g m).1)) ((o_Slots_drawn h g m).2.1) ((o_Slots_drawn h g m).2.2) := by
  have hf0_1 := hf0.1
  refine zDi_of "PeriodSlots" prog_1_method_38_code 5 (some .int) rfl (by decide) [zO X 0, zI m, none, none, none] rfl (fun _ q => q) (Nat.le_of_ble_eq_true rfl) ?_
  intro Γ Q C hQ
  refine zr_iload_n C d_X6_drawn_0 rfl ?_
  refine zr_iconst C (v := 1) d_X6_drawn_1 (by decide) ?_
  refine zr_icmp_lt C 11 d_X6_drawn_2 (by decide) (fun c2 => ?_) (fun c2 => ?_)
  · refine zr_bipush C (v := (-2)) d_X6_drawn_11 (by decide) ?_
    have eR : o_Slots_drawn h g m = ((-2), h, g) := (by unfold o_Slots_drawn; rw [if_pos c2])
    subst hQ
    exact zTQ_Ihg eR (zr_ireti C d_X6_drawn_13)
  · have ex1 := zge1 c2
    have ex1_2 := ex1.2
    refine zr_iload_n C d_X6_drawn_5 rfl ?_
    refine zr_bipush C (v := 10) d_X6_drawn_6 (by decide) ?_
    refine zr_icmp_le C 14 d_X6_drawn_8 (by decide) (fun c8 => ?_) (fun c8 => ?_)
    · have en2 := zn_le (a := zcn m) (b := 10) (zix ex1.1) rfl c8 (zcn_small _) (by decide)
      refine zr_iconst C (v := 0) d_X6_drawn_14 (by decide) ?_
      refine zr_istore_n C [zO X 0, zI m, zI 0, none, none] d_X6_drawn_15 (Nat.le_of_ble_eq_true rfl) rfl rfl ?_
      refine zr_iconst C (v := 0) d_X6_drawn_16 (by decide) ?_
      refine zr_istore_n C [zO X 0, zI m, zI 0, zI 0, none] d_X6_drawn_17 (Nat.le_of_ble_eq_true rfl) rfl rfl ?_
      refine zfor (f := (fun (i18_3 : Nat) (s18_3 : Int32 × zHp × zLg) => ((s18_3.1 + (if ((o_Mesh_settle ((o_Slots_drawOffsets s18_3.2.1 s18_3.2.2).1) 27).1) = (-9) then 40 else ((o_Mesh_settle ((o_Slots_drawOffsets s18_3.2.1 s18_3.2.2).1) 27).1))), ((o_Mesh_settle ((o_Slots_drawOffsets s18_3.2.1 s18_3.2.2).1) 27).2), ((o_Slots_drawOffsets s18_3.2.1 s18_3.2.2).2)))) (a := (0, h, g)) (fun i18_3 s18_3 => zV X Γ Q 18 [zO X 0, zI m, zI s18_3.1, zI (nI i18_3), none] [] s18_3.2.1 s18_3.2.2) (fun _ s18_3 => ∀ c k : Nat, ¬ (c = 27 ∧ k = 0) → ¬ (c = 27 ∧ k = 1) → ¬ (c = 27 ∧ k = 2) → c ≠ 28 → c ≠ 29 → c ≠ 30 → c ≠ 31 → c ≠ 32 → c ≠ 33 → c ≠ 34 → c ≠ 35 → c ≠ 36 → c ≠ 37 → c ≠ 38 → s18_3.2.1 c k = h c k) (zcn m) (fun _ _ _ _ _ _ _ _ _ _ _ _ _ _ _ _ => (by dsimp only)) (fun i18_3 s18_3 hi18_3 hI18_3 => ⟨(fun c k q0 q1 q2 q3 q4 q5 q6 q7 q8 q9 q10 q11 q12 q13 => (by (try dsimp only); exact ((fr_Mesh_settle _ _ (by assumption) (by assumption) (by assumption) (by assumption) (by assumption) (by assumption) (by assumption) (by assumption) (by assumption)).trans ((fr_Slots_drawOffsets _ _ (by assumption) (by assumption) (by assumption) (by assumption) (by assumption) (by assumption) (by assumption) (by assumption) (by assumption) (by assumption) (by assumption) (by assumption) (by assumption) (by assumption)).trans (hI18_3 _ _ (by assumption) (by assumption) (by assumption) (by assumption) (by assumption) (by assumption) (by assumption) (by assumption) (by assumption) (by assumption) (by assumption) (by assumption) (by assumption) (by assumption)))))), fun hk18_3 => ?_⟩) (fun r18_3 er18_3 hI18_3 => ?_)
      · refine zr_iload_n C d_X6_drawn_18 rfl ?_
        refine zr_iload_n C d_X6_drawn_19 rfl ?_
        refine zr_icmp_ge C 59 d_X6_drawn_20 (by decide) (fun c => absurd c (zge_no rfl (by omega))) (fun _ => ?_)
        refine zr_aload_n C d_X6_drawn_23 rfl ?_
        refine zr_callVv (As := []) (st := []) (c := 0) C (c_Slots_drawOffsets X s18_3.2.1 s18_3.2.2 (zfit_fr (hI18_3 _ _ (by omega) (by omega) (by omega) (by omega) (by omega) (by omega) (by omega) (by omega) (by omega) (by omega) (by omega) (by omega) (by omega) (by omega)) hf0)) k_Slots_drawOffsets m726 m728 m19 (by decide) (zC_Slots X _ _) rfl rfl (by decide) rfl (Nat.le_of_ble_eq_true rfl) d_X6_drawn_24 ?_
        refine zr_h (fun h4 eh4 => ?_)
        have hph4 : zfit h4 27 0 8 := by rw [← eh4]; exact pf_drawOffsets (zfit_fr (hI18_3 _ _ (by omega) (by omega) (by omega) (by omega) (by omega) (by omega) (by omega) (by omega) (by omega) (by omega) (by omega) (by omega) (by omega) (by omega)) hf0)
        have hph4_1 := hph4.1
        refine zr_g (fun g5 eg5 => ?_)
        refine zr_aload_n C d_X6_drawn_27 rfl ?_
        refine gf_Slots_3 C m230 d_X6_drawn_28 ?_
        refine zr_callVi (As := []) (st := []) (c := 27) C (c_Mesh_settle X h4 g5 27 (by decide) hph4) k_Mesh_settle m536 m537 m538 (by decide) (zC_Mesh (by decide) X _ _) rfl rfl (by decide) rfl (Nat.le_of_ble_eq_true rfl) d_X6_drawn_31 ?_
        refine zr_vi (fun y6 ey6 => ?_)
        refine zr_h (fun h7 eh7 => ?_)
        refine zr_istore C [zO X 0, zI m, zI s18_3.1, zI (nI i18_3), zI y6] d_X6_drawn_34 (Nat.le_of_ble_eq_true rfl) rfl rfl ?_
        refine zr_iload_n C d_X6_drawn_36 rfl ?_
        refine zr_iload C d_X6_drawn_37 rfl ?_
        refine zr_bipush C (v := (-9)) d_X6_drawn_39 (by decide) ?_
        suffices hJ41 : ∀ (y8 : Int32), (if y6 = (-9) then 40 else y6) = y8 → zV X Γ Q 51 [zO X 0, zI m, none, zI (nI i18_3), none] [.int y8, .int s18_3.1] h7 g5 by
          refine zr_icmp_ne C 49 d_X6_drawn_41 (by decide) (fun c41 => ?_) (fun c41 => ?_)
          · refine zr_iload C d_X6_drawn_49 rfl ?_
            refine zr_lv [zO X 0, zI m, none, zI (nI i18_3), none] (by simp [zle]) ?_
            exact hJ41 y6 (((if_neg c41)))
          · refine zr_bipush C (v := 40) d_X6_drawn_44 (by decide) ?_
            refine zr_goto C 51 d_X6_drawn_46 (by decide) ?_
            refine zr_lv [zO X 0, zI m, none, zI (nI i18_3), none] (by simp [zle]) ?_
            exact hJ41 40 (((if_pos c41)))
        intro y8 ey8
        refine zr_iadd C d_X6_drawn_51 ?_
        refine zr_istore_n C [zO X 0, zI m, zI (s18_3.1 + y8), zI (nI i18_3), none] d_X6_drawn_52 (Nat.le_of_ble_eq_true rfl) rfl rfl ?_
        refine zr_iinc C [zO X 0, zI m, zI (s18_3.1 + y8), zI (nI (i18_3 + 1)), none] (v := (nI (i18_3 + 1))) d_X6_drawn_53 rfl (zn_add rfl rfl) (Nat.le_of_ble_eq_true rfl) rfl rfl ?_
        refine zr_goto C 18 d_X6_drawn_56 (by decide) ?_
        exact hk18_3 ((s18_3.1 + y8), h7, g5) (by subst ey8 eh7 ey6 eg5 eh4; exact rfl)
      refine zr_iload_n C d_X6_drawn_18 rfl ?_
      refine zr_iload_n C d_X6_drawn_19 rfl ?_
      refine zr_icmp_ge C 59 d_X6_drawn_20 (by decide) (fun _ => ?_) (fun c => absurd (zge_yes rfl (by omega) (by have := zcn_small m; omega)) c)
      refine zr_iload_n C d_X6_drawn_59 rfl ?_
      have eR : o_Slots_drawn h g m = (r18_3.1, r18_3.2.1, r18_3.2.2) := (by subst er18_3; unfold o_Slots_drawn; rw [if_neg c2, if_pos c8])
      subst hQ
      exact zTQ_Ihg eR (zr_ireti C d_X6_drawn_60)
    · have en9 := zn_nle (a := zcn m) (b := 10) (zix ex1.1) rfl c8 (zcn_small _) (by decide)
      refine zr_bipush C (v := (-2)) d_X6_drawn_11 (by decide) ?_
      have eR : o_Slots_drawn h g m = ((-2), h, g) := (by unfold o_Slots_drawn; rw [if_neg c2, if_neg c8])
      subst hQ
      exact zTQ_Ihg eR (zr_ireti C d_X6_drawn_13)
theorem d_X6_keep_0 : decode prog_1_method_40_code 0 = .ok (.iload_n 1, 1) := by decide +kernel
theorem d_X6_keep_1 : decode prog_1_method_40_code 1 = .ok (.ifCond .lt 8, 3) := by decide +kernel
theorem d_X6_keep_4 : decode prog_1_method_40_code 4 = .ok (.iload_n 1, 1) := by decide +kernel
theorem d_X6_keep_5 : decode prog_1_method_40_code 5 = .ok (.iconst 2, 1) := by decide +kernel
theorem d_X6_keep_6 : decode prog_1_method_40_code 6 = .ok (.if_icmp .lt 5, 3) := by decide +kernel
theorem d_X6_keep_9 : decode prog_1_method_40_code 9 = .ok (.iconst (-1), 1) := by decide +kernel
theorem d_X6_keep_10 : decode prog_1_method_40_code 10 = .ok (.ireturn, 1) := by decide +kernel
theorem d_X6_keep_11 : decode prog_1_method_40_code 11 = .ok (.aload_n 0, 1) := by decide +kernel
theorem d_X6_keep_12 : decode prog_1_method_40_code 12 = .ok (.getfield 48, 3) := by decide +kernel
theorem d_X6_keep_15 : decode prog_1_method_40_code 15 = .ok (.iload_n 1, 1) := by decide +kernel
theorem d_X6_keep_16 : decode prog_1_method_40_code 16 = .ok (.aload_n 0, 1) := by decide +kernel
theorem d_X6_keep_17 : decode prog_1_method_40_code 17 = .ok (.getfield 19, 3) := by decide +kernel
theorem d_X6_keep_20 : decode prog_1_method_40_code 20 = .ok (.invokevirtual 285, 3) := by decide +kernel
theorem d_X6_keep_23 : decode prog_1_method_40_code 23 = .ok (.aload_n 0, 1) := by decide +kernel
theorem d_X6_keep_24 : decode prog_1_method_40_code 24 = .ok (.getfield 19, 3) := by decide +kernel
theorem d_X6_keep_27 : decode prog_1_method_40_code 27 = .ok (.getfield 88, 3) := by decide +kernel
theorem d_X6_keep_30 : decode prog_1_method_40_code 30 = .ok (.ireturn, 1) := by decide +kernel
abbrev M_Slots_keep : zMT := (⟨"PeriodSlots", "keep", "(I)I"⟩, prog_1_method_40_code, 2, (some .int))
theorem k_Slots_keep : zcall M_Slots_keep 1 := ⟨zU_in (i := 736) (by decide +kernel) rfl, m54, ⟨by decide, by decide, by decide +kernel⟩, by decide⟩
def o_Slots_keep (h : zHp) (slot : Int32) : Int32 × zHp :=
  (if slot < 0 then ((-1), h) else (if slot < 2 then ((h 3 0), (o_Shelf44_put h slot 3)) else ((-1), h)))
theorem fr_Slots_keep {h : zHp} {slot : Int32} (c k : Nat) (q0 : c ≠ 45) (q1 : ¬ (c = 44 ∧ k = 1)) : (o_Slots_keep h slot).2 c k = h c k := by
  unfold o_Slots_keep
  by_cases f1 : slot < 0
  · rw [if_pos f1]
    try dsimp only
    first | done | exact rfl
  · rw [if_neg f1]
    by_cases f2 : slot < 2
    · rw [if_pos f2]
      try dsimp only
      first | done | exact (fr_Shelf44_put _ _ (by assumption) (by assumption))
    · rw [if_neg f2]
      try dsimp only
      first | done | exact rfl
set_option maxHeartbeats 400000 in
set_option maxRecDepth 20000 in
theorem c_Slots_keep (X : zXT) (h : zHp) (g : zLg) (slot : Int32) (hf0 : zfit h 3 0 8) (hf1 : zfit h 44 0 2) : zDi X M_Slots_keep 2 [zR X 0, .int slot] h g (zI ((o_Slots_keep h slot).1)) ((o_Slots_keep h slot).2) g := by
  have hf0_1 := hf0.1
  have hf1_1 := hf1.1
  refine zDi_of "PeriodSlots" prog_1_method_40_code 2 (some .int) rfl (by decide) [zO X 0, zI slot] rfl (fun _ q => q) (Nat.le_of_ble_eq_true rfl) ?_
  intro Γ Q C hQ
  refine zr_iload_n C d_X6_keep_0 rfl ?_
  refine zr_if_lt C 9 d_X6_keep_1 (by decide) (fun c1 => ?_) (fun c1 => ?_)
  · refine zr_iconst C (v := (-1)) d_X6_keep_9 (by decide) ?_
    have eR : o_Slots_keep h slot = ((-1), h) := (by unfold o_Slots_keep; rw [if_pos c1])
    subst hQ
    exact zTQ_Ih eR (zr_ireti C d_X6_keep_10)
  · refine zr_iload_n C d_X6_keep_4 rfl ?_
    refine zr_iconst C (v := 2) d_X6_keep_5 (by decide) ?_
    refine zr_icmp_lt C 11 d_X6_keep_6 (by decide) (fun c6 => ?_) (fun c6 => ?_)
    · have en1 := zn_lt (a := zcn slot) (b := 2) (zix c1) rfl c6 (zcn_small _) (by decide)
      refine zr_aload_n C d_X6_keep_11 rfl ?_
      refine gf_Slots_6 C m233 d_X6_keep_12 ?_
      refine zr_iload_n C d_X6_keep_15 rfl ?_
      refine zr_aload_n C d_X6_keep_16 rfl ?_
      refine gf_Slots_1 C m228 d_X6_keep_17 ?_
      refine zr_callVv (As := [.int slot, zR X 3]) (st := []) (c := 44) C (c_Shelf44_put X h g slot 3 (by decide) hf1) k_Shelf_put m737 m458 m459 (by decide) (zC_Shelf (by decide) X _ _) rfl rfl (by decide) rfl (Nat.le_of_ble_eq_true rfl) d_X6_keep_20 ?_
      refine zr_h (fun h2 eh2 => ?_)
      refine zr_aload_n C d_X6_keep_23 rfl ?_
      refine gf_Slots_1 C m228 d_X6_keep_24 ?_
      refine gf_Mesh_0 C (by decide) m98 d_X6_keep_27 ?_
      refine zr_top ((congrFun (congrFun eh2.symm _) _).trans (fr_Shelf44_put _ _ (by omega) (by omega))) ?_
      have eR : o_Slots_keep h slot = ((h 3 0), h2) := (by subst eh2; unfold o_Slots_keep; rw [if_neg c1, if_pos c6])
      subst hQ
      exact zTQ_Ih eR (zr_ireti C d_X6_keep_30)
    · have en3 := zn_nlt (a := zcn slot) (b := 2) (zix c1) rfl c6 (zcn_small _) (by decide)
      refine zr_iconst C (v := (-1)) d_X6_keep_9 (by decide) ?_
      have eR : o_Slots_keep h slot = ((-1), h) := (by unfold o_Slots_keep; rw [if_neg c1, if_neg c6])
      subst hQ
      exact zTQ_Ih eR (zr_ireti C d_X6_keep_10)
theorem d_X6_again_0 : decode prog_1_method_41_code 0 = .ok (.iload_n 1, 1) := by decide +kernel
theorem d_X6_again_1 : decode prog_1_method_41_code 1 = .ok (.ifCond .lt 8, 3) := by decide +kernel
theorem d_X6_again_4 : decode prog_1_method_41_code 4 = .ok (.iload_n 1, 1) := by decide +kernel
theorem d_X6_again_5 : decode prog_1_method_41_code 5 = .ok (.iconst 2, 1) := by decide +kernel
theorem d_X6_again_6 : decode prog_1_method_41_code 6 = .ok (.if_icmp .lt 5, 3) := by decide +kernel
theorem d_X6_again_9 : decode prog_1_method_41_code 9 = .ok (.iconst (-1), 1) := by decide +kernel
theorem d_X6_again_10 : decode prog_1_method_41_code 10 = .ok (.ireturn, 1) := by decide +kernel
theorem d_X6_again_11 : decode prog_1_method_41_code 11 = .ok (.aload_n 0, 1) := by decide +kernel
theorem d_X6_again_12 : decode prog_1_method_41_code 12 = .ok (.getfield 48, 3) := by decide +kernel
theorem d_X6_again_15 : decode prog_1_method_41_code 15 = .ok (.iload_n 1, 1) := by decide +kernel
theorem d_X6_again_16 : decode prog_1_method_41_code 16 = .ok (.invokevirtual 289, 3) := by decide +kernel
theorem d_X6_again_19 : decode prog_1_method_41_code 19 = .ok (.ifCond .ne 6, 3) := by decide +kernel
theorem d_X6_again_22 : decode prog_1_method_41_code 22 = .ok (.bipush (-3), 2) := by decide +kernel
theorem d_X6_again_24 : decode prog_1_method_41_code 24 = .ok (.ireturn, 1) := by decide +kernel
theorem d_X6_again_25 : decode prog_1_method_41_code 25 = .ok (.aload_n 0, 1) := by decide +kernel
theorem d_X6_again_26 : decode prog_1_method_41_code 26 = .ok (.getfield 48, 3) := by decide +kernel
theorem d_X6_again_29 : decode prog_1_method_41_code 29 = .ok (.iload_n 1, 1) := by decide +kernel
theorem d_X6_again_30 : decode prog_1_method_41_code 30 = .ok (.aload_n 0, 1) := by decide +kernel
theorem d_X6_again_31 : decode prog_1_method_41_code 31 = .ok (.getfield 19, 3) := by decide +kernel
theorem d_X6_again_34 : decode prog_1_method_41_code 34 = .ok (.invokevirtual 292, 3) := by decide +kernel
theorem d_X6_again_37 : decode prog_1_method_41_code 37 = .ok (.aload_n 0, 1) := by decide +kernel
theorem d_X6_again_38 : decode prog_1_method_41_code 38 = .ok (.getfield 39, 3) := by decide +kernel
theorem d_X6_again_41 : decode prog_1_method_41_code 41 = .ok (.invokevirtual 82, 3) := by decide +kernel
theorem d_X6_again_44 : decode prog_1_method_41_code 44 = .ok (.aload_n 0, 1) := by decide +kernel
theorem d_X6_again_45 : decode prog_1_method_41_code 45 = .ok (.getfield 19, 3) := by decide +kernel
theorem d_X6_again_48 : decode prog_1_method_41_code 48 = .ok (.getfield 88, 3) := by decide +kernel
theorem d_X6_again_51 : decode prog_1_method_41_code 51 = .ok (.ireturn, 1) := by decide +kernel
abbrev M_Slots_again : zMT := (⟨"PeriodSlots", "again", "(I)I"⟩, prog_1_method_41_code, 2, (some .int))
theorem k_Slots_again : zcall M_Slots_again 1 := ⟨zU_in (i := 741) (by decide +kernel) rfl, m54, ⟨by decide, by decide, by decide +kernel⟩, by decide⟩
def o_Slots_again (h : zHp) (slot : Int32) : Int32 × zHp :=
  (if slot < 0 then ((-1), h) else (if slot < 2 then (if (o_Shelf44_holds h slot) = true then ((h 3 0), (o_Acts_forget (o_Shelf44_giveBack h slot 3))) else ((-3), h)) else ((-1), h)))
theorem fr_Slots_again {h : zHp} {slot : Int32} (c k : Nat) (q0 : ¬ (c = 41 ∧ k = 1)) (q1 : ¬ (c = 3 ∧ k = 1)) (q2 : c ≠ 5) (q3 : c ≠ 6) (q4 : c ≠ 7) (q5 : c ≠ 9) (q6 : c ≠ 10) (q7 : c ≠ 11) (q8 : c ≠ 12) (q9 : c ≠ 13) : (o_Slots_again h slot).2 c k = h c k := by
  unfold o_Slots_again
  by_cases f1 : slot < 0
  · rw [if_pos f1]
    try dsimp only
    first | done | exact rfl
  · rw [if_neg f1]
    by_cases f2 : slot < 2
    · rw [if_pos f2]
      by_cases f3 : (o_Shelf44_holds h slot) = true
      · rw [if_pos f3]
        try dsimp only
        first | done | exact ((fr_Acts_forget _ _ (by assumption)).trans (fr_Shelf44_giveBack _ _ (by assumption) (by assumption) (by assumption) (by assumption) (by assumption) (by assumption) (by assumption) (by assumption) (by assumption)))
      · rw [if_neg f3]
        try dsimp only
        first | done | exact rfl
    · rw [if_neg f2]
      try dsimp only
      first | done | exact rfl
set_option maxHeartbeats 400000 in
set_option maxRecDepth 20000 in
theorem c_Slots_again (X : zXT) (h : zHp) (g : zLg) (slot : Int32) (hf0 : zfit h 3 0 8) (hf1 : zfit h 44 0 2) : zDi X M_Slots_again 4 [zR X 0, .int slot] h g (zI ((o_Slots_again h slot).1)) ((o_Slots_again h slot).2) g := by
  have hf0_1 := hf0.1
  have hf1_1 := hf1.1
  refine zDi_of "PeriodSlots" prog_1_method_41_code 2 (some .int) rfl (by decide) [zO X 0, zI slot] rfl (fun _ q => q) (Nat.le_of_ble_eq_true rfl) ?_
  intro Γ Q C hQ
  refine zr_iload_n C d_X6_again_0 rfl ?_
  refine zr_if_lt C 9 d_X6_again_1 (by decide) (fun c1 => ?_) (fun c1 => ?_)
  · refine zr_iconst C (v := (-1)) d_X6_again_9 (by decide) ?_
    have eR : o_Slots_again h slot = ((-1), h) := (by unfold o_Slots_again; rw [if_pos c1])
    subst hQ
    exact zTQ_Ih eR (zr_ireti C d_X6_again_10)
  · refine zr_iload_n C d_X6_again_4 rfl ?_
    refine zr_iconst C (v := 2) d_X6_again_5 (by decide) ?_
    refine zr_icmp_lt C 11 d_X6_again_6 (by decide) (fun c6 => ?_) (fun c6 => ?_)
    · have en1 := zn_lt (a := zcn slot) (b := 2) (zix c1) rfl c6 (zcn_small _) (by decide)
      refine zr_aload_n C d_X6_again_11 rfl ?_
      refine gf_Slots_6 C m233 d_X6_again_12 ?_
      refine zr_iload_n C d_X6_again_15 rfl ?_
      refine zr_callVi (As := [.int slot]) (st := []) (c := 44) C (c_Shelf44_holds X h g slot) k_Shelf_holds m742 m557 m558 (by decide) (zC_Shelf (by decide) X _ _) rfl rfl (by decide) rfl (Nat.le_of_ble_eq_true rfl) d_X6_again_16 ?_
      refine zr_ifz_ne C 25 d_X6_again_19 (by decide) (fun c19 => ?_) (fun c19 => ?_)
      · have ex2 := zholds44 hf1 c19
        have ex2_2 := ex2.2
        have ex2_b := (hf1).1
        refine zr_aload_n C d_X6_again_25 rfl ?_
        refine gf_Slots_6 C m233 d_X6_again_26 ?_
        refine zr_iload_n C d_X6_again_29 rfl ?_
        refine zr_aload_n C d_X6_again_30 rfl ?_
        refine gf_Slots_1 C m228 d_X6_again_31 ?_
        refine zr_callVv (As := [.int slot, zR X 3]) (st := []) (c := 44) C (c_Shelf44_giveBack X h g slot 3 (by decide) hf1 hf0) k_Shelf_giveBack m743 m553 m554 (by decide) (zC_Shelf (by decide) X _ _) rfl rfl (by decide) rfl (Nat.le_of_ble_eq_true rfl) d_X6_again_34 ?_
        refine zr_h (fun h3 eh3 => ?_)
        refine zr_aload_n C d_X6_again_37 rfl ?_
        refine gf_Slots_5 C m232 d_X6_again_38 ?_
        refine zr_callVv (As := []) (st := []) (c := 41) C (c_Acts_forget X h3 g ) k_Acts_forget m385 m386 m387 (by decide) (zC_Acts X _ _) rfl rfl (by decide) rfl (Nat.le_of_ble_eq_true rfl) d_X6_again_41 ?_
        refine zr_h (fun h4 eh4 => ?_)
        refine zr_aload_n C d_X6_again_44 rfl ?_
        refine gf_Slots_1 C m228 d_X6_again_45 ?_
        refine gf_Mesh_0 C (by decide) m98 d_X6_again_48 ?_
        refine zr_top ((congrFun (congrFun eh4.symm _) _).trans ((fr_Acts_forget _ _ (by omega)).trans ((congrFun (congrFun eh3.symm _) _).trans (fr_Shelf44_giveBack _ _ (by omega) (by omega) (by omega) (by omega) (by omega) (by omega) (by omega) (by omega) (by omega))))) ?_
        have eR : o_Slots_again h slot = ((h 3 0), h4) := (by subst eh4 eh3; unfold o_Slots_again; rw [if_neg c1, if_pos c6, if_pos c19])
        subst hQ
        exact zTQ_Ih eR (zr_ireti C d_X6_again_51)
      · refine zr_bipush C (v := (-3)) d_X6_again_22 (by decide) ?_
        have eR : o_Slots_again h slot = ((-3), h) := (by unfold o_Slots_again; rw [if_neg c1, if_pos c6, if_neg (zbf c19)])
        subst hQ
        exact zTQ_Ih eR (zr_ireti C d_X6_again_24)
    · have en5 := zn_nlt (a := zcn slot) (b := 2) (zix c1) rfl c6 (zcn_small _) (by decide)
      refine zr_iconst C (v := (-1)) d_X6_again_9 (by decide) ?_
      have eR : o_Slots_again h slot = ((-1), h) := (by unfold o_Slots_again; rw [if_neg c1, if_neg c6])
      subst hQ
      exact zTQ_Ih eR (zr_ireti C d_X6_again_10)
