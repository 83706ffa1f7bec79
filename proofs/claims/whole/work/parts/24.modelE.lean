/-! Walks of methods, by program (wip/whole/gen). -/
/-- what stands fast while the reference reads -/
def zrd (h : zHp) : Prop := zfit h 51 5 8 ∧ zfit h 51 8 7 ∧ (¬ h 51 7 = 0 → h 51 6 = 83 → zfit h 51 5 7)
theorem zrd_0 {h : zHp} (f : zfit h 51 8 7) : zrd (zup (zup h 51 5 0) 51 7 0) := by
  refine ⟨?_, ?_, fun q => ?_⟩
  · exact zfit_of (m := 0) ((zup_fr (by omega)).trans zup_at) (by decide) (by decide)
  · exact zfit_fr ((zup_fr (by omega)).trans (zup_fr (by omega))) f
  · exact absurd zup_at q
theorem zrd_sign {h : zHp} {l : Int32} (f : zrd h) (c : (o_Model_takeSign h l).1 = true) : zrd (o_Model_takeSign h l).2 := by
  have e5 : (o_Model_takeSign h l).2 51 5 = h 51 5 := fr_Model_takeSign _ _ (by omega) (by omega)
  have e8 : (o_Model_takeSign h l).2 51 8 = h 51 8 := fr_Model_takeSign _ _ (by omega) (by omega)
  refine ⟨zfit_fr e5 f.1, zfit_fr e8 f.2.1, fun _ q => zfit_fr e5 ?_⟩
  unfold o_Model_takeSign at c q
  by_cases hl : l = 83
  · rw [if_pos hl] at c
    simp only [Bool.not_eq_true', decide_eq_false_iff_not] at c
    have h1 := f.1.1
    refine ⟨?_, f.1.2⟩
    rcases Nat.lt_or_ge (zcn (h 51 5)) 8 with q1 | q1
    · omega
    · refine absurd ?_ c
      rw [f.1.2]
      exact nI_le q1 (by omega)
  · rw [if_neg hl] at q
    dsimp only at q
    rw [zup_fr (by omega), zup_at] at q
    exact absurd q hl
theorem zrd_stat {h : zHp} {l : Int32} (f : zrd h) (c7 : ¬ h 51 7 = 0) (c6 : h 51 6 = 83) : zrd (o_Model_takeOfStation h l).2 := by
  have f7 := f.2.2 c7 c6
  have e8 : (o_Model_takeOfStation h l).2 51 8 = h 51 8 := fr_Model_takeOfStation _ _ (by omega) (by omega) (by omega) (by omega) (by omega)
  unfold o_Model_takeOfStation at e8 ⊢
  by_cases hp : h 51 7 = 1
  · rw [if_pos hp] at e8 ⊢
    dsimp only at e8 ⊢
    have e5 : zup (zup h 51 7 2) 63 (zcn (h 51 5)) (zshl 1 (l - 48)) 51 5 = h 51 5 := (zup_fr (by omega)).trans (zup_fr (by omega))
    exact ⟨zfit_fr e5 f.1, zfit_fr e8 f.2.1, fun _ _ => zfit_fr e5 f7⟩
  · rw [if_neg hp] at e8 ⊢
    dsimp only at e8 ⊢
    refine ⟨zfit_of (m := zcn (h 51 5) + 1) (zup_at.trans (zn_add f.1.2 rfl)) (by have := f7.1; omega) (by decide), zfit_fr e8 f.2.1, fun q => absurd ?_ q⟩
    iterate 3 rw [zup_fr (by omega)]
    exact zup_at
theorem zrd_link {h : zHp} {l : Int32} (f : zrd h) (c6 : ¬ h 51 6 = 83) : zrd (o_Model_takeOfLink h l).2 := by
  have e5 : (o_Model_takeOfLink h l).2 51 5 = h 51 5 := fr_Model_takeOfLink _ _ (by omega) (by omega) (by omega)
  have e6 : (o_Model_takeOfLink h l).2 51 6 = h 51 6 := fr_Model_takeOfLink _ _ (by omega) (by omega) (by omega)
  refine ⟨zfit_fr e5 f.1, ?_, fun _ q => absurd (e6.symm.trans q) c6⟩
  unfold o_Model_takeOfLink
  by_cases c1 : o_Model_in (Int32.toInt64 (l - 48)) 0 (Int32.toInt64 ((h 51 5) - 1)) = true
  · have e1 := zinm f.1 c1
    rw [if_pos c1]
    by_cases c2 : h 51 7 = 1
    · rw [if_pos c2]
      dsimp only
      exact zfit_of (m := zcn (l - 48)) (zup_at.trans (zix e1.1)) (by have := f.1.1; omega) (by decide)
    · rw [if_neg c2]
      have key : ∀ A : Bool × zHp, A.2 51 8 = h 51 8 → zfit A.2 51 8 7 := fun A e => zfit_fr e f.2.1
      refine key _ ?_
      repeat' split
      all_goals dsimp only
      · exact zup_fr (by omega)
      · exact zup_fr (by omega)
      · exact (zup_fr (by omega)).trans ((zup_fr (by omega)).trans (zup_fr (by omega)))
  · rw [if_neg c1]
    exact f.2.1
theorem zrd_step {h : zHp} {l : Int32} (f : zrd h) (c : (if (h 51 7) = 0 then ((o_Model_takeSign h l).1) else (if (h 51 6) = 83 then ((o_Model_takeOfStation h l).1) else ((o_Model_takeOfLink h l).1))) = true) : zrd (if (h 51 7) = 0 then ((o_Model_takeSign h l).2) else (if (h 51 6) = 83 then ((o_Model_takeOfStation h l).2) else ((o_Model_takeOfLink h l).2))) := by
  by_cases c7 : h 51 7 = 0
  · rw [if_pos c7] at c ⊢
    exact zrd_sign f c
  · rw [if_neg c7] at c ⊢
    by_cases c6 : h 51 6 = 83
    · rw [if_pos c6] at c ⊢
      exact zrd_stat f c7 c6
    · rw [if_neg c6] at c ⊢
      exact zrd_link f c6

theorem d_X7_readText_0 : decode prog_9_method_19_code 0 = .ok (.aload_n 0, 1) := by decide +kernel
theorem d_X7_readText_1 : decode prog_9_method_19_code 1 = .ok (.iconst 0, 1) := by decide +kernel
theorem d_X7_readText_2 : decode prog_9_method_19_code 2 = .ok (.putfield 85, 3) := by decide +kernel
theorem d_X7_readText_5 : decode prog_9_method_19_code 5 = .ok (.aload_n 0, 1) := by decide +kernel
theorem d_X7_readText_6 : decode prog_9_method_19_code 6 = .ok (.iconst 0, 1) := by decide +kernel
theorem d_X7_readText_7 : decode prog_9_method_19_code 7 = .ok (.putfield 91, 3) := by decide +kernel
theorem d_X7_readText_10 : decode prog_9_method_19_code 10 = .ok (.iconst 0, 1) := by decide +kernel
theorem d_X7_readText_11 : decode prog_9_method_19_code 11 = .ok (.istore_n 1, 1) := by decide +kernel
theorem d_X7_readText_12 : decode prog_9_method_19_code 12 = .ok (.iload_n 1, 1) := by decide +kernel
theorem d_X7_readText_13 : decode prog_9_method_19_code 13 = .ok (.aload_n 0, 1) := by decide +kernel
theorem d_X7_readText_14 : decode prog_9_method_19_code 14 = .ok (.getfield 82, 3) := by decide +kernel
theorem d_X7_readText_17 : decode prog_9_method_19_code 17 = .ok (.if_icmp .ge 68, 3) := by decide +kernel
theorem d_X7_readText_20 : decode prog_9_method_19_code 20 = .ok (.aload_n 0, 1) := by decide +kernel
theorem d_X7_readText_21 : decode prog_9_method_19_code 21 = .ok (.getfield 91, 3) := by decide +kernel
theorem d_X7_readText_24 : decode prog_9_method_19_code 24 = .ok (.ifCond .ne 16, 3) := by decide +kernel
theorem d_X7_readText_27 : decode prog_9_method_19_code 27 = .ok (.aload_n 0, 1) := by decide +kernel
theorem d_X7_readText_28 : decode prog_9_method_19_code 28 = .ok (.aload_n 0, 1) := by decide +kernel
theorem d_X7_readText_29 : decode prog_9_method_19_code 29 = .ok (.getfield 7, 3) := by decide +kernel
theorem d_X7_readText_32 : decode prog_9_method_19_code 32 = .ok (.iload_n 1, 1) := by decide +kernel
theorem d_X7_readText_33 : decode prog_9_method_19_code 33 = .ok (.iaload, 1) := by decide +kernel
theorem d_X7_readText_34 : decode prog_9_method_19_code 34 = .ok (.invokevirtual 111, 3) := by decide +kernel
theorem d_X7_readText_37 : decode prog_9_method_19_code 37 = .ok (.goto 35, 3) := by decide +kernel
theorem d_X7_readText_40 : decode prog_9_method_19_code 40 = .ok (.aload_n 0, 1) := by decide +kernel
theorem d_X7_readText_41 : decode prog_9_method_19_code 41 = .ok (.getfield 88, 3) := by decide +kernel
theorem d_X7_readText_44 : decode prog_9_method_19_code 44 = .ok (.bipush 83, 2) := by decide +kernel
theorem d_X7_readText_46 : decode prog_9_method_19_code 46 = .ok (.if_icmp .ne 16, 3) := by decide +kernel
theorem d_X7_readText_49 : decode prog_9_method_19_code 49 = .ok (.aload_n 0, 1) := by decide +kernel
theorem d_X7_readText_50 : decode prog_9_method_19_code 50 = .ok (.aload_n 0, 1) := by decide +kernel
theorem d_X7_readText_51 : decode prog_9_method_19_code 51 = .ok (.getfield 7, 3) := by decide +kernel
theorem d_X7_readText_54 : decode prog_9_method_19_code 54 = .ok (.iload_n 1, 1) := by decide +kernel
theorem d_X7_readText_55 : decode prog_9_method_19_code 55 = .ok (.iaload, 1) := by decide +kernel
theorem d_X7_readText_56 : decode prog_9_method_19_code 56 = .ok (.invokevirtual 114, 3) := by decide +kernel
theorem d_X7_readText_59 : decode prog_9_method_19_code 59 = .ok (.goto 13, 3) := by decide +kernel
theorem d_X7_readText_62 : decode prog_9_method_19_code 62 = .ok (.aload_n 0, 1) := by decide +kernel
theorem d_X7_readText_63 : decode prog_9_method_19_code 63 = .ok (.aload_n 0, 1) := by decide +kernel
theorem d_X7_readText_64 : decode prog_9_method_19_code 64 = .ok (.getfield 7, 3) := by decide +kernel
theorem d_X7_readText_67 : decode prog_9_method_19_code 67 = .ok (.iload_n 1, 1) := by decide +kernel
theorem d_X7_readText_68 : decode prog_9_method_19_code 68 = .ok (.iaload, 1) := by decide +kernel
theorem d_X7_readText_69 : decode prog_9_method_19_code 69 = .ok (.invokevirtual 117, 3) := by decide +kernel
theorem d_X7_readText_72 : decode prog_9_method_19_code 72 = .ok (.istore_n 2, 1) := by decide +kernel
theorem d_X7_readText_73 : decode prog_9_method_19_code 73 = .ok (.iload_n 2, 1) := by decide +kernel
theorem d_X7_readText_74 : decode prog_9_method_19_code 74 = .ok (.ifCond .ne 5, 3) := by decide +kernel
theorem d_X7_readText_77 : decode prog_9_method_19_code 77 = .ok (.iload_n 1, 1) := by decide +kernel
theorem d_X7_readText_78 : decode prog_9_method_19_code 78 = .ok (.ireturn, 1) := by decide +kernel
theorem d_X7_readText_79 : decode prog_9_method_19_code 79 = .ok (.iinc 1 1, 3) := by decide +kernel
theorem d_X7_readText_82 : decode prog_9_method_19_code 82 = .ok (.goto (-70), 3) := by decide +kernel
theorem d_X7_readText_85 : decode prog_9_method_19_code 85 = .ok (.aload_n 0, 1) := by decide +kernel
theorem d_X7_readText_86 : decode prog_9_method_19_code 86 = .ok (.getfield 91, 3) := by decide +kernel
theorem d_X7_readText_89 : decode prog_9_method_19_code 89 = .ok (.ifCond .ne 8, 3) := by decide +kernel
theorem d_X7_readText_92 : decode prog_9_method_19_code 92 = .ok (.bipush (-9), 2) := by decide +kernel
theorem d_X7_readText_94 : decode prog_9_method_19_code 94 = .ok (.goto 7, 3) := by decide +kernel
theorem d_X7_readText_97 : decode prog_9_method_19_code 97 = .ok (.aload_n 0, 1) := by decide +kernel
theorem d_X7_readText_98 : decode prog_9_method_19_code 98 = .ok (.getfield 82, 3) := by decide +kernel
theorem d_X7_readText_101 : decode prog_9_method_19_code 101 = .ok (.ireturn, 1) := by decide +kernel
abbrev M_Model_readText : zMT := (⟨"PeriodSlotsModel", "readText", "()I"⟩, prog_9_method_19_code, 3, (some .int))
theorem k_Model_readText : zcall M_Model_readText 0 := ⟨zU_in (i := 870) (by decide +kernel) rfl, m62, ⟨by decide, by decide, by decide +kernel⟩, by decide⟩
def o_Model_readText (h : zHp) : Int32 × zHp :=
  (Sum.elim (fun r12_3 => ((if (r12_3 51 7) = 0 then (-9) else (h 51 0)), r12_3)) (fun q12_3 => q12_3) (zrex (fun (i12_3 : Nat) (s12_3 : zHp) => ((if (if (s12_3 51 7) = 0 then ((o_Model_takeSign s12_3 (h 52 i12_3)).1) else (if (s12_3 51 6) = 83 then ((o_Model_takeOfStation s12_3 (h 52 i12_3)).1) else ((o_Model_takeOfLink s12_3 (h 52 i12_3)).1))) = true then .inl (if (s12_3 51 7) = 0 then ((o_Model_takeSign s12_3 (h 52 i12_3)).2) else (if (s12_3 51 6) = 83 then ((o_Model_takeOfStation s12_3 (h 52 i12_3)).2) else ((o_Model_takeOfLink s12_3 (h 52 i12_3)).2))) else .inr ((nI i12_3), (if (s12_3 51 7) = 0 then ((o_Model_takeSign s12_3 (h 52 i12_3)).2) else (if (s12_3 51 6) = 83 then ((o_Model_takeOfStation s12_3 (h 52 i12_3)).2) else ((o_Model_takeOfLink s12_3 (h 52 i12_3)).2))))) : (zHp) ⊕ (Int32 × zHp))) (zup (zup h 51 5 0) 51 7 0) (zcn (h 51 0))))
theorem fr_Model_readText {h : zHp} (c k : Nat) (q0 : ¬ (c = 51 ∧ k = 5)) (q1 : ¬ (c = 51 ∧ k = 6)) (q2 : ¬ (c = 51 ∧ k = 7)) (q3 : ¬ (c = 51 ∧ k = 8)) (q4 : c ≠ 63) (q5 : c ≠ 64) (q6 : c ≠ 65) : (o_Model_readText h).2 c k = h c k := by
  unfold o_Model_readText
  have hX := zrex_inv (f := (fun (i12_3 : Nat) (s12_3 : zHp) => ((if (if (s12_3 51 7) = 0 then ((o_Model_takeSign s12_3 (h 52 i12_3)).1) else (if (s12_3 51 6) = 83 then ((o_Model_takeOfStation s12_3 (h 52 i12_3)).1) else ((o_Model_takeOfLink s12_3 (h 52 i12_3)).1))) = true then .inl (if (s12_3 51 7) = 0 then ((o_Model_takeSign s12_3 (h 52 i12_3)).2) else (if (s12_3 51 6) = 83 then ((o_Model_takeOfStation s12_3 (h 52 i12_3)).2) else ((o_Model_takeOfLink s12_3 (h 52 i12_3)).2))) else .inr ((nI i12_3), (if (s12_3 51 7) = 0 then ((o_Model_takeSign s12_3 (h 52 i12_3)).2) else (if (s12_3 51 6) = 83 then ((o_Model_takeOfStation s12_3 (h 52 i12_3)).2) else ((o_Model_takeOfLink s12_3 (h 52 i12_3)).2))))) : (zHp) ⊕ (Int32 × zHp)))) (a := (zup (zup h 51 5 0) 51 7 0)) (fun _ s12_3 => ∀ c k : Nat, ¬ (c = 51 ∧ k = 5) → ¬ (c = 51 ∧ k = 6) → ¬ (c = 51 ∧ k = 7) → ¬ (c = 51 ∧ k = 8) → c ≠ 63 → c ≠ 64 → c ≠ 65 → s12_3 c k = (zup (zup h 51 5 0) 51 7 0) c k) (fun q12_3 => ∀ c k : Nat, ¬ (c = 51 ∧ k = 5) → ¬ (c = 51 ∧ k = 6) → ¬ (c = 51 ∧ k = 7) → ¬ (c = 51 ∧ k = 8) → c ≠ 63 → c ≠ 64 → c ≠ 65 → q12_3.2 c k = (zup (zup h 51 5 0) 51 7 0) c k) (zcn (h 51 0)) (fun _ _ _ _ _ _ _ _ _ => rfl) (fun i12_3 s12_3 hi12_3 hI12_3 => ⟨(by intro s2 hs; (try dsimp only at hs); by_cases cc : (if (s12_3 51 7) = 0 then ((o_Model_takeSign s12_3 (h 52 i12_3)).1) else (if (s12_3 51 6) = 83 then ((o_Model_takeOfStation s12_3 (h 52 i12_3)).1) else ((o_Model_takeOfLink s12_3 (h 52 i12_3)).1))) = true; (rw [if_pos cc] at hs; cases hs; exact fun c k q0 q1 q2 q3 q4 q5 q6 => (by (try dsimp only); exact (zite_fr (fun _ => ((fr_Model_takeSign _ _ (by assumption) (by assumption)).trans (hI12_3 _ _ (by assumption) (by assumption) (by assumption) (by assumption) (by assumption) (by assumption) (by assumption)))) (fun _ => (zite_fr (fun _ => ((fr_Model_takeOfStation _ _ (by assumption) (by assumption) (by assumption) (by assumption) (by assumption)).trans (hI12_3 _ _ (by assumption) (by assumption) (by assumption) (by assumption) (by assumption) (by assumption) (by assumption)))) (fun _ => ((fr_Model_takeOfLink _ _ (by assumption) (by assumption) (by assumption)).trans (hI12_3 _ _ (by assumption) (by assumption) (by assumption) (by assumption) (by assumption) (by assumption) (by assumption))))))))); (rw [if_neg cc] at hs; cases hs)), (by intro r hs; (try dsimp only at hs); by_cases cc : (if (s12_3 51 7) = 0 then ((o_Model_takeSign s12_3 (h 52 i12_3)).1) else (if (s12_3 51 6) = 83 then ((o_Model_takeOfStation s12_3 (h 52 i12_3)).1) else ((o_Model_takeOfLink s12_3 (h 52 i12_3)).1))) = true; (rw [if_pos cc] at hs; cases hs); (rw [if_neg cc] at hs; cases hs; exact fun c k q0 q1 q2 q3 q4 q5 q6 => (by (try dsimp only); exact (zite_fr (fun _ => ((fr_Model_takeSign _ _ (by assumption) (by assumption)).trans (hI12_3 _ _ (by assumption) (by assumption) (by assumption) (by assumption) (by assumption) (by assumption) (by assumption)))) (fun _ => (zite_fr (fun _ => ((fr_Model_takeOfStation _ _ (by assumption) (by assumption) (by assumption) (by assumption) (by assumption)).trans (hI12_3 _ _ (by assumption) (by assumption) (by assumption) (by assumption) (by assumption) (by assumption) (by assumption)))) (fun _ => ((fr_Model_takeOfLink _ _ (by assumption) (by assumption) (by assumption)).trans (hI12_3 _ _ (by assumption) (by assumption) (by assumption) (by assumption) (by assumption) (by assumption) (by assumption))))))))))⟩)
  cases hz : (zrex (fun (i12_3 : Nat) (s12_3 : zHp) => ((if (if (s12_3 51 7) = 0 then ((o_Model_takeSign s12_3 (h 52 i12_3)).1) else (if (s12_3 51 6) = 83 then ((o_Model_takeOfStation s12_3 (h 52 i12_3)).1) else ((o_Model_takeOfLink s12_3 (h 52 i12_3)).1))) = true then .inl (if (s12_3 51 7) = 0 then ((o_Model_takeSign s12_3 (h 52 i12_3)).2) else (if (s12_3 51 6) = 83 then ((o_Model_takeOfStation s12_3 (h 52 i12_3)).2) else ((o_Model_takeOfLink s12_3 (h 52 i12_3)).2))) else .inr ((nI i12_3), (if (s12_3 51 7) = 0 then ((o_Model_takeSign s12_3 (h 52 i12_3)).2) else (if (s12_3 51 6) = 83 then ((o_Model_takeOfStation s12_3 (h 52 i12_3)).2) else ((o_Model_takeOfLink s12_3 (h 52 i12_3)).2))))) : (zHp) ⊕ (Int32 × zHp))) (zup (zup h 51 5 0) 51 7 0) (zcn (h 51 0))) with
  | inl r12_3 =>
    have hI12_3 := hX.1 r12_3 hz
    simp only [Sum.elim_inl]
    try dsimp only
    first | done | exact ((hI12_3 _ _ (by assumption) (by assumption) (by assumption) (by assumption) (by assumption) (by assumption) (by assumption)).trans ((zup_fr (by omega)).trans (zup_fr (by omega))))
  | inr q12_3 =>
    exact (hX.2 q12_3 hz c k (by assumption) (by assumption) (by assumption) (by assumption) (by assumption) (by assumption) (by assumption)).trans ((zup_fr (by omega)).trans (zup_fr (by omega)))
set_option maxHeartbeats 400000 in
set_option maxRecDepth 20000 in
theorem c_Model_readText (X : zXT) (h : zHp) (g : zLg) (hf0 : zfit h 51 0 110) (hf1 : zfit h 51 8 7) : zDi X M_Model_readText 2 [zR X 51] h g (zI ((o_Model_readText h).1)) ((o_Model_readText h).2) g := by
  have hf0_1 := hf0.1
  have hf1_1 := hf1.1
  refine zDi_of "PeriodSlotsModel" prog_9_method_19_code 3 (some .int) rfl (by decide) [zO X 51, none, none] rfl (fun _ q => q) (Nat.le_of_ble_eq_true rfl) ?_
  intro Γ Q C hQ
  refine zr_aload_n C d_X7_readText_0 rfl ?_
  refine zr_iconst C (v := 0) d_X7_readText_1 (by decide) ?_
  refine pf_Model_17 C m770 d_X7_readText_2 ?_
  refine zr_h (fun h1 eh1 => ?_)
  refine zr_aload_n C d_X7_readText_5 rfl ?_
  refine zr_iconst C (v := 0) d_X7_readText_6 (by decide) ?_
  refine pf_Model_22 C m775 d_X7_readText_7 ?_
  refine zr_h (fun h2 eh2 => ?_)
  refine zr_iconst C (v := 0) d_X7_readText_10 (by decide) ?_
  refine zr_istore_n C [zO X 51, zI 0, none] d_X7_readText_11 (Nat.le_of_ble_eq_true rfl) rfl rfl ?_
  refine zforx (f := (fun (i12_3 : Nat) (s12_3 : zHp) => ((if (if (s12_3 51 7) = 0 then ((o_Model_takeSign s12_3 (h 52 i12_3)).1) else (if (s12_3 51 6) = 83 then ((o_Model_takeOfStation s12_3 (h 52 i12_3)).1) else ((o_Model_takeOfLink s12_3 (h 52 i12_3)).1))) = true then .inl (if (s12_3 51 7) = 0 then ((o_Model_takeSign s12_3 (h 52 i12_3)).2) else (if (s12_3 51 6) = 83 then ((o_Model_takeOfStation s12_3 (h 52 i12_3)).2) else ((o_Model_takeOfLink s12_3 (h 52 i12_3)).2))) else .inr ((nI i12_3), (if (s12_3 51 7) = 0 then ((o_Model_takeSign s12_3 (h 52 i12_3)).2) else (if (s12_3 51 6) = 83 then ((o_Model_takeOfStation s12_3 (h 52 i12_3)).2) else ((o_Model_takeOfLink s12_3 (h 52 i12_3)).2))))) : (zHp) ⊕ (Int32 × zHp)))) (a := h2) (fun i12_3 s12_3 => zV X Γ Q 12 [zO X 51, zI (nI i12_3), none] [] s12_3 g) (fun _ s12_3 => (∀ c k : Nat, ¬ (c = 51 ∧ k = 5) → ¬ (c = 51 ∧ k = 6) → ¬ (c = 51 ∧ k = 7) → ¬ (c = 51 ∧ k = 8) → c ≠ 63 → c ≠ 64 → c ≠ 65 → s12_3 c k = h2 c k) ∧ zrd s12_3) (zcn (h 51 0)) ⟨(fun _ _ _ _ _ _ _ _ _ => rfl), (by subst eh2 eh1; exact zrd_0 hf1)⟩ (fun i12_3 s12_3 hi12_3 hI12_3 => ⟨(by intro s2 hs; (try dsimp only at hs); by_cases cc : (if (s12_3 51 7) = 0 then ((o_Model_takeSign s12_3 (h 52 i12_3)).1) else (if (s12_3 51 6) = 83 then ((o_Model_takeOfStation s12_3 (h 52 i12_3)).1) else ((o_Model_takeOfLink s12_3 (h 52 i12_3)).1))) = true; (rw [if_pos cc] at hs; cases hs; exact ⟨fun c k q0 q1 q2 q3 q4 q5 q6 => (by (try dsimp only); exact (zite_fr (fun _ => ((fr_Model_takeSign _ _ (by assumption) (by assumption)).trans (hI12_3.1 _ _ (by assumption) (by assumption) (by assumption) (by assumption) (by assumption) (by assumption) (by assumption)))) (fun _ => (zite_fr (fun _ => ((fr_Model_takeOfStation _ _ (by assumption) (by assumption) (by assumption) (by assumption) (by assumption)).trans (hI12_3.1 _ _ (by assumption) (by assumption) (by assumption) (by assumption) (by assumption) (by assumption) (by assumption)))) (fun _ => ((fr_Model_takeOfLink _ _ (by assumption) (by assumption) (by assumption)).trans (hI12_3.1 _ _ (by assumption) (by assumption) (by assumption) (by assumption) (by assumption) (by assumption) (by assumption)))))))), (by (try dsimp only); exact zrd_step hI12_3.2 cc)⟩); (rw [if_neg cc] at hs; cases hs)), fun hk12_3 hx12_3 => ?_⟩) (fun r12_3 er12_3 hI12_3 => ?_)
  · refine zr_iload_n C d_X7_readText_12 rfl ?_
    refine zr_aload_n C d_X7_readText_13 rfl ?_
    refine gf_Model_1 C m754 d_X7_readText_14 ?_
    refine zr_top ((hI12_3.1 _ _ (by omega) (by omega) (by omega) (by omega) (by omega) (by omega) (by omega)).trans ((congrFun (congrFun eh2.symm _) _).trans ((zup_fr (by omega)).trans ((congrFun (congrFun eh1.symm _) _).trans (zup_fr (by omega)))))) ?_
    refine zr_icmp_ge C 85 d_X7_readText_17 (by decide) (fun c => absurd c (zge_no rfl (by omega))) (fun _ => ?_)
    refine zr_aload_n C d_X7_readText_20 rfl ?_
    refine gf_Model_22 C m775 d_X7_readText_21 ?_
    suffices hJ24 : ∀ (y10 : Bool) (h11 : zHp), (if (s12_3 51 7) = 0 then ((o_Model_takeSign s12_3 (h 52 i12_3)).1) else (if (s12_3 51 6) = 83 then ((o_Model_takeOfStation s12_3 (h 52 i12_3)).1) else ((o_Model_takeOfLink s12_3 (h 52 i12_3)).1))) = y10 → (if (s12_3 51 7) = 0 then ((o_Model_takeSign s12_3 (h 52 i12_3)).2) else (if (s12_3 51 6) = 83 then ((o_Model_takeOfStation s12_3 (h 52 i12_3)).2) else ((o_Model_takeOfLink s12_3 (h 52 i12_3)).2))) = h11 → zV X Γ Q 72 [zO X 51, zI (nI i12_3), none] [.int (zb y10)] h11 g by
      refine zr_if_ne C 40 d_X7_readText_24 (by decide) (fun c24 => ?_) (fun c24 => ?_)
      · refine zr_aload_n C d_X7_readText_40 rfl ?_
        refine gf_Model_21 C m774 d_X7_readText_41 ?_
        refine zr_bipush C (v := 83) d_X7_readText_44 (by decide) ?_
        refine zr_icmp_ne C 62 d_X7_readText_46 (by decide) (fun c46 => ?_) (fun c46 => ?_)
        · refine zr_aload_n C d_X7_readText_62 rfl ?_
          refine zr_aload_n C d_X7_readText_63 rfl ?_
          refine gf_Model_0 C m753 d_X7_readText_64 ?_
          refine zr_iload_n C d_X7_readText_67 rfl ?_
          refine zr_iald C za_52 (i12_3) rfl (by omega) (by decide) d_X7_readText_68 ?_
          refine zr_top ((hI12_3.1 _ _ (by omega) (by omega) (by omega) (by omega) (by omega) (by omega) (by omega)).trans ((congrFun (congrFun eh2.symm _) _).trans ((zup_fr (by omega)).trans ((congrFun (congrFun eh1.symm _) _).trans (zup_fr (by omega)))))) ?_
          refine zr_callVi (As := [.int (h 52 i12_3)]) (st := []) (c := 51) C (c_Model_takeOfLink X s12_3 g (h 52 i12_3) hI12_3.2.1 hI12_3.2.2.1) k_Model_takeOfLink m886 m888 m24 (by decide) (zC_Model X _ _) rfl rfl (by decide) rfl (Nat.le_of_ble_eq_true rfl) d_X7_readText_69 ?_
          refine zr_vz (fun y4 ey4 => ?_)
          refine zr_h (fun h5 eh5 => ?_)
          exact hJ24 y4 h5 (by subst eh5 ey4; simp [c24, c46]) (by subst eh5 ey4; exact ((if_neg c24).trans ((if_neg c46))))
        · have hq7 := hI12_3.2.2.2 c24 c46
          refine zr_aload_n C d_X7_readText_49 rfl ?_
          refine zr_aload_n C d_X7_readText_50 rfl ?_
          refine gf_Model_0 C m753 d_X7_readText_51 ?_
          refine zr_iload_n C d_X7_readText_54 rfl ?_
          refine zr_iald C za_52 (i12_3) rfl (by omega) (by decide) d_X7_readText_55 ?_
          refine zr_top ((hI12_3.1 _ _ (by omega) (by omega) (by omega) (by omega) (by omega) (by omega) (by omega)).trans ((congrFun (congrFun eh2.symm _) _).trans ((zup_fr (by omega)).trans ((congrFun (congrFun eh1.symm _) _).trans (zup_fr (by omega)))))) ?_
          refine zr_callVi (As := [.int (h 52 i12_3)]) (st := []) (c := 51) C (c_Model_takeOfStation X s12_3 g (h 52 i12_3) hq7) k_Model_takeOfStation m879 m881 m23 (by decide) (zC_Model X _ _) rfl rfl (by decide) rfl (Nat.le_of_ble_eq_true rfl) d_X7_readText_56 ?_
          refine zr_vz (fun y6 ey6 => ?_)
          refine zr_h (fun h7 eh7 => ?_)
          refine zr_goto C 72 d_X7_readText_59 (by decide) ?_
          exact hJ24 y6 h7 (by subst eh7 ey6; simp [c24, c46]) (by subst eh7 ey6; exact ((if_neg c24).trans ((if_pos c46))))
      · refine zr_aload_n C d_X7_readText_27 rfl ?_
        refine zr_aload_n C d_X7_readText_28 rfl ?_
        refine gf_Model_0 C m753 d_X7_readText_29 ?_
        refine zr_iload_n C d_X7_readText_32 rfl ?_
        refine zr_iald C za_52 (i12_3) rfl (by omega) (by decide) d_X7_readText_33 ?_
        refine zr_top ((hI12_3.1 _ _ (by omega) (by omega) (by omega) (by omega) (by omega) (by omega) (by omega)).trans ((congrFun (congrFun eh2.symm _) _).trans ((zup_fr (by omega)).trans ((congrFun (congrFun eh1.symm _) _).trans (zup_fr (by omega)))))) ?_
        refine zr_callVi (As := [.int (h 52 i12_3)]) (st := []) (c := 51) C (c_Model_takeSign X s12_3 g (h 52 i12_3) hI12_3.2.1) k_Model_takeSign m871 m873 m21 (by decide) (zC_Model X _ _) rfl rfl (by decide) rfl (Nat.le_of_ble_eq_true rfl) d_X7_readText_34 ?_
        refine zr_vz (fun y8 ey8 => ?_)
        refine zr_h (fun h9 eh9 => ?_)
        refine zr_goto C 72 d_X7_readText_37 (by decide) ?_
        exact hJ24 y8 h9 (by subst eh9 ey8; simp [c24]) (by subst eh9 ey8; exact ((if_pos c24)))
    intro y10 h11 ey10 eh11
    refine zr_istore_n C [zO X 51, zI (nI i12_3), zI (zb y10)] d_X7_readText_72 (Nat.le_of_ble_eq_true rfl) rfl rfl ?_
    refine zr_iload_n C d_X7_readText_73 rfl ?_
    refine zr_ifz_ne C 79 d_X7_readText_74 (by decide) (fun c74 => ?_) (fun c74 => ?_)
    · refine zr_iinc C [zO X 51, zI (nI (i12_3 + 1)), zI (zb y10)] (v := (nI (i12_3 + 1))) d_X7_readText_79 rfl (zn_add rfl rfl) (Nat.le_of_ble_eq_true rfl) rfl rfl ?_
      refine zr_goto C 12 d_X7_readText_82 (by decide) ?_
      refine zr_lv [zO X 51, zI (nI (i12_3 + 1)), none] (by simp [zle]) ?_
      exact hk12_3 h11 (by subst eh11 ey10; exact ((if_pos c74)))
    · refine zr_iload_n C d_X7_readText_77 rfl ?_
      have hr12_3 := hx12_3 (((nI i12_3), h11)) (by subst eh11 ey10; exact ((if_neg (zbf c74))))
      have eR : o_Model_readText h = ((nI i12_3), h11) := (by subst eh11 ey10 eh2 eh1; unfold o_Model_readText; exact ((congrArg (Sum.elim _ _) hr12_3)))
      subst hQ
      exact zTQ_Ih eR (zr_ireti C d_X7_readText_78)
  refine zr_iload_n C d_X7_readText_12 rfl ?_
  refine zr_aload_n C d_X7_readText_13 rfl ?_
  refine gf_Model_1 C m754 d_X7_readText_14 ?_
  refine zr_top ((hI12_3.1 _ _ (by omega) (by omega) (by omega) (by omega) (by omega) (by omega) (by omega)).trans ((congrFun (congrFun eh2.symm _) _).trans ((zup_fr (by omega)).trans ((congrFun (congrFun eh1.symm _) _).trans (zup_fr (by omega)))))) ?_
  refine zr_icmp_ge C 85 d_X7_readText_17 (by decide) (fun _ => ?_) (fun c => absurd (zge_yes rfl (by omega) (by have := zcn_small (h 51 0); omega)) c)
  refine zr_aload_n C d_X7_readText_85 rfl ?_
  refine gf_Model_22 C m775 d_X7_readText_86 ?_
  suffices hJ89 : ∀ (y12 : Int32), (if (r12_3 51 7) = 0 then (-9) else (h 51 0)) = y12 → zV X Γ Q 101 [none, none, none] [.int y12] r12_3 g by
    refine zr_if_ne C 97 d_X7_readText_89 (by decide) (fun c89 => ?_) (fun c89 => ?_)
    · refine zr_aload_n C d_X7_readText_97 rfl ?_
      refine gf_Model_1 C m754 d_X7_readText_98 ?_
      refine zr_top ((hI12_3.1 _ _ (by omega) (by omega) (by omega) (by omega) (by omega) (by omega) (by omega)).trans ((congrFun (congrFun eh2.symm _) _).trans ((zup_fr (by omega)).trans ((congrFun (congrFun eh1.symm _) _).trans (zup_fr (by omega)))))) ?_
      refine zr_lv [none, none, none] (by simp [zle]) ?_
      exact hJ89 (h 51 0) (((if_neg c89)))
    · refine zr_bipush C (v := (-9)) d_X7_readText_92 (by decide) ?_
      refine zr_goto C 101 d_X7_readText_94 (by decide) ?_
      refine zr_lv [none, none, none] (by simp [zle]) ?_
      exact hJ89 (-9) (((if_pos c89)))
  intro y12 ey12
  have eR : o_Model_readText h = (y12, r12_3) := (by subst ey12 eh2 eh1; unfold o_Model_readText; exact ((congrArg (Sum.elim _ _) er12_3)))
  subst hQ
  exact zTQ_Ih eR (zr_ireti C d_X7_readText_101)
theorem zrd_step2 {h : zHp} {l : Int32} (f : zrd h) : zfit (if (h 51 7) = 0 then ((o_Model_takeSign h l).2) else (if (h 51 6) = 83 then ((o_Model_takeOfStation h l).2) else ((o_Model_takeOfLink h l).2))) 51 5 8 ∧ zfit (if (h 51 7) = 0 then ((o_Model_takeSign h l).2) else (if (h 51 6) = 83 then ((o_Model_takeOfStation h l).2) else ((o_Model_takeOfLink h l).2))) 51 8 7 := by
  by_cases c7 : h 51 7 = 0
  · rw [if_pos c7]
    exact ⟨zfit_fr (fr_Model_takeSign _ _ (by omega) (by omega)) f.1, zfit_fr (fr_Model_takeSign _ _ (by omega) (by omega)) f.2.1⟩
  · rw [if_neg c7]
    by_cases c6 : h 51 6 = 83
    · rw [if_pos c6]
      have q := zrd_stat (l := l) f c7 c6
      exact ⟨q.1, q.2.1⟩
    · rw [if_neg c6]
      have q := zrd_link (l := l) f c6
      exact ⟨q.1, q.2.1⟩
theorem zrd_readText {h : zHp} (f : zfit h 51 8 7) : zfit (o_Model_readText h).2 51 5 8 ∧ zfit (o_Model_readText h).2 51 8 7 := by
  unfold o_Model_readText
  refine zrex_P (fun _ s => zrd s) (fun (q : Int32 × zHp) => zfit q.2 51 5 8 ∧ zfit q.2 51 8 7) (zrd_0 f) (fun i s hi hI => ⟨fun s2 e => ?_, fun r e => ?_⟩) (fun s h => ⟨h.1, h.2.1⟩)
  · by_cases cc : (if (s 51 7) = 0 then ((o_Model_takeSign s (h 52 i)).1) else (if (s 51 6) = 83 then ((o_Model_takeOfStation s (h 52 i)).1) else ((o_Model_takeOfLink s (h 52 i)).1))) = true
    · rw [if_pos cc] at e
      cases e
      exact zrd_step hI cc
    · rw [if_neg cc] at e
      cases e
  · by_cases cc : (if (s 51 7) = 0 then ((o_Model_takeSign s (h 52 i)).1) else (if (s 51 6) = 83 then ((o_Model_takeOfStation s (h 52 i)).1) else ((o_Model_takeOfLink s (h 52 i)).1))) = true
    · rw [if_pos cc] at e
      cases e
    · rw [if_neg cc] at e
      cases e
      exact zrd_step2 hI
theorem pf_readTextM {h : zHp} (f : zfit h 51 8 7) : zfit (o_Model_readText h).2 51 5 8 := (zrd_readText f).1

theorem d_X7_fault_0 : decode prog_9_method_20_code 0 = .ok (.aload_n 0, 1) := by decide +kernel
theorem d_X7_fault_1 : decode prog_9_method_20_code 1 = .ok (.invokevirtual 120, 3) := by decide +kernel
theorem d_X7_fault_4 : decode prog_9_method_20_code 4 = .ok (.ireturn, 1) := by decide +kernel
abbrev M_Model_fault : zMT := (⟨"PeriodSlotsModel", "fault", "()I"⟩, prog_9_method_20_code, 1, (some .int))
theorem k_Model_fault : zcall M_Model_fault 0 := ⟨zU_in (i := 866) (by decide +kernel) rfl, m62, ⟨by decide, by decide, by decide +kernel⟩, by decide⟩
def o_Model_fault (h : zHp) : Int32 × zHp :=
  (((o_Model_readText h).1), ((o_Model_readText h).2))
theorem fr_Model_fault {h : zHp} (c k : Nat) (q0 : ¬ (c = 51 ∧ k = 5)) (q1 : ¬ (c = 51 ∧ k = 6)) (q2 : ¬ (c = 51 ∧ k = 7)) (q3 : ¬ (c = 51 ∧ k = 8)) (q4 : c ≠ 63) (q5 : c ≠ 64) (q6 : c ≠ 65) : (o_Model_fault h).2 c k = h c k := by
  unfold o_Model_fault
  try dsimp only
  first | done | exact (fr_Model_readText _ _ (by assumption) (by assumption) (by assumption) (by assumption) (by assumption) (by assumption) (by assumption))
set_option maxHeartbeats 400000 in
set_option maxRecDepth 20000 in
theorem c_Model_fault (X : zXT) (h : zHp) (g : zLg) (hf0 : zfit h 51 0 110) (hf1 : zfit h 51 8 7) : zDi X M_Model_fault 3 [zR X 51] h g (zI ((o_Model_fault h).1)) ((o_Model_fault h).2) g := by
  have hf0_1 := hf0.1
  have hf1_1 := hf1.1
  refine zDi_of "PeriodSlotsModel" prog_9_method_20_code 1 (some .int) rfl (by decide) [zO X 51] rfl (fun _ q => q) (Nat.le_of_ble_eq_true rfl) ?_
  intro Γ Q C hQ
  refine zr_aload_n C d_X7_fault_0 rfl ?_
  refine zr_callVi (As := []) (st := []) (c := 51) C (c_Model_readText X h g hf0 hf1) k_Model_readText m867 m869 m20 (by decide) (zC_Model X _ _) rfl rfl (by decide) rfl (Nat.le_of_ble_eq_true rfl) d_X7_fault_1 ?_
  refine zr_vi (fun y1 ey1 => ?_)
  refine zr_h (fun h2 eh2 => ?_)
  have hph2 : zfit h2 51 5 8 := by rw [← eh2]; exact pf_readTextM hf1
  have hph2_1 := hph2.1
  have eR : o_Model_fault h = (y1, h2) := (by subst eh2 ey1; unfold o_Model_fault; exact rfl)
  subst hQ
  exact zTQ_Ih eR (zr_ireti C d_X7_fault_4)
theorem d_X7_field_0 : decode prog_9_method_21_code 0 = .ok (.aload_n 0, 1) := by decide +kernel
theorem d_X7_field_1 : decode prog_9_method_21_code 1 = .ok (.invokevirtual 120, 3) := by decide +kernel
theorem d_X7_field_4 : decode prog_9_method_21_code 4 = .ok (.bipush (-9), 2) := by decide +kernel
theorem d_X7_field_6 : decode prog_9_method_21_code 6 = .ok (.if_icmp .eq 6, 3) := by decide +kernel
theorem d_X7_field_9 : decode prog_9_method_21_code 9 = .ok (.bipush (-3), 2) := by decide +kernel
theorem d_X7_field_11 : decode prog_9_method_21_code 11 = .ok (.ireturn, 1) := by decide +kernel
theorem d_X7_field_12 : decode prog_9_method_21_code 12 = .ok (.aload_n 0, 1) := by decide +kernel
theorem d_X7_field_13 : decode prog_9_method_21_code 13 = .ok (.aload_n 0, 1) := by decide +kernel
theorem d_X7_field_14 : decode prog_9_method_21_code 14 = .ok (.getfield 85, 3) := by decide +kernel
theorem d_X7_field_17 : decode prog_9_method_21_code 17 = .ok (.putfield 72, 3) := by decide +kernel
theorem d_X7_field_20 : decode prog_9_method_21_code 20 = .ok (.aload_n 0, 1) := by decide +kernel
theorem d_X7_field_21 : decode prog_9_method_21_code 21 = .ok (.getfield 16, 3) := by decide +kernel
theorem d_X7_field_24 : decode prog_9_method_21_code 24 = .ok (.invokestatic 68, 3) := by decide +kernel
theorem d_X7_field_27 : decode prog_9_method_21_code 27 = .ok (.iconst 0, 1) := by decide +kernel
theorem d_X7_field_28 : decode prog_9_method_21_code 28 = .ok (.istore_n 1, 1) := by decide +kernel
theorem d_X7_field_29 : decode prog_9_method_21_code 29 = .ok (.iload_n 1, 1) := by decide +kernel
theorem d_X7_field_30 : decode prog_9_method_21_code 30 = .ok (.aload_n 0, 1) := by decide +kernel
theorem d_X7_field_31 : decode prog_9_method_21_code 31 = .ok (.getfield 72, 3) := by decide +kernel
theorem d_X7_field_34 : decode prog_9_method_21_code 34 = .ok (.if_icmp .ge 48, 3) := by decide +kernel
theorem d_X7_field_37 : decode prog_9_method_21_code 37 = .ok (.aload_n 0, 1) := by decide +kernel
theorem d_X7_field_38 : decode prog_9_method_21_code 38 = .ok (.getfield 13, 3) := by decide +kernel
theorem d_X7_field_41 : decode prog_9_method_21_code 41 = .ok (.iload_n 1, 1) := by decide +kernel
theorem d_X7_field_42 : decode prog_9_method_21_code 42 = .ok (.aload_n 0, 1) := by decide +kernel
theorem d_X7_field_43 : decode prog_9_method_21_code 43 = .ok (.getfield 44, 3) := by decide +kernel
theorem d_X7_field_46 : decode prog_9_method_21_code 46 = .ok (.iload_n 1, 1) := by decide +kernel
theorem d_X7_field_47 : decode prog_9_method_21_code 47 = .ok (.iaload, 1) := by decide +kernel
theorem d_X7_field_48 : decode prog_9_method_21_code 48 = .ok (.iastore, 1) := by decide +kernel
theorem d_X7_field_49 : decode prog_9_method_21_code 49 = .ok (.aload_n 0, 1) := by decide +kernel
theorem d_X7_field_50 : decode prog_9_method_21_code 50 = .ok (.getfield 16, 3) := by decide +kernel
theorem d_X7_field_53 : decode prog_9_method_21_code 53 = .ok (.iload_n 1, 1) := by decide +kernel
theorem d_X7_field_54 : decode prog_9_method_21_code 54 = .ok (.aload_n 0, 1) := by decide +kernel
theorem d_X7_field_55 : decode prog_9_method_21_code 55 = .ok (.getfield 47, 3) := by decide +kernel
theorem d_X7_field_58 : decode prog_9_method_21_code 58 = .ok (.iload_n 1, 1) := by decide +kernel
theorem d_X7_field_59 : decode prog_9_method_21_code 59 = .ok (.iaload, 1) := by decide +kernel
theorem d_X7_field_60 : decode prog_9_method_21_code 60 = .ok (.iastore, 1) := by decide +kernel
theorem d_X7_field_61 : decode prog_9_method_21_code 61 = .ok (.aload_n 0, 1) := by decide +kernel
theorem d_X7_field_62 : decode prog_9_method_21_code 62 = .ok (.getfield 16, 3) := by decide +kernel
theorem d_X7_field_65 : decode prog_9_method_21_code 65 = .ok (.bipush 16, 2) := by decide +kernel
theorem d_X7_field_67 : decode prog_9_method_21_code 67 = .ok (.iload_n 1, 1) := by decide +kernel
theorem d_X7_field_68 : decode prog_9_method_21_code 68 = .ok (.iadd, 1) := by decide +kernel
theorem d_X7_field_69 : decode prog_9_method_21_code 69 = .ok (.aload_n 0, 1) := by decide +kernel
theorem d_X7_field_70 : decode prog_9_method_21_code 70 = .ok (.getfield 50, 3) := by decide +kernel
theorem d_X7_field_73 : decode prog_9_method_21_code 73 = .ok (.iload_n 1, 1) := by decide +kernel
theorem d_X7_field_74 : decode prog_9_method_21_code 74 = .ok (.iaload, 1) := by decide +kernel
theorem d_X7_field_75 : decode prog_9_method_21_code 75 = .ok (.iastore, 1) := by decide +kernel
theorem d_X7_field_76 : decode prog_9_method_21_code 76 = .ok (.iinc 1 1, 3) := by decide +kernel
theorem d_X7_field_79 : decode prog_9_method_21_code 79 = .ok (.goto (-50), 3) := by decide +kernel
theorem d_X7_field_82 : decode prog_9_method_21_code 82 = .ok (.aload_n 0, 1) := by decide +kernel
theorem d_X7_field_83 : decode prog_9_method_21_code 83 = .ok (.iconst 0, 1) := by decide +kernel
theorem d_X7_field_84 : decode prog_9_method_21_code 84 = .ok (.putfield 124, 3) := by decide +kernel
theorem d_X7_field_87 : decode prog_9_method_21_code 87 = .ok (.aload_n 0, 1) := by decide +kernel
theorem d_X7_field_88 : decode prog_9_method_21_code 88 = .ok (.getfield 31, 3) := by decide +kernel
theorem d_X7_field_91 : decode prog_9_method_21_code 91 = .ok (.iconst 0, 1) := by decide +kernel
theorem d_X7_field_92 : decode prog_9_method_21_code 92 = .ok (.iconst 0, 1) := by decide +kernel
theorem d_X7_field_93 : decode prog_9_method_21_code 93 = .ok (.bastore, 1) := by decide +kernel
theorem d_X7_field_94 : decode prog_9_method_21_code 94 = .ok (.aload_n 0, 1) := by decide +kernel
theorem d_X7_field_95 : decode prog_9_method_21_code 95 = .ok (.getfield 31, 3) := by decide +kernel
theorem d_X7_field_98 : decode prog_9_method_21_code 98 = .ok (.iconst 1, 1) := by decide +kernel
theorem d_X7_field_99 : decode prog_9_method_21_code 99 = .ok (.iconst 0, 1) := by decide +kernel
theorem d_X7_field_100 : decode prog_9_method_21_code 100 = .ok (.bastore, 1) := by decide +kernel
theorem d_X7_field_101 : decode prog_9_method_21_code 101 = .ok (.aload_n 0, 1) := by decide +kernel
theorem d_X7_field_102 : decode prog_9_method_21_code 102 = .ok (.getfield 72, 3) := by decide +kernel
theorem d_X7_field_105 : decode prog_9_method_21_code 105 = .ok (.ireturn, 1) := by decide +kernel
abbrev M_Model_field : zMT := (⟨"PeriodSlotsModel", "field", "()I"⟩, prog_9_method_21_code, 2, (some .int))
theorem k_Model_field : zcall M_Model_field 0 := ⟨zU_in (i := 896) (by decide +kernel) rfl, m62, ⟨by decide, by decide, by decide +kernel⟩, by decide⟩
def o_Model_field (h : zHp) : Int32 × zHp :=
  (if ((o_Model_readText h).1) = (-9) then ((((o_Model_readText h).2) 51 5), (zup (zup (zup (zrep (fun (i29_5 : Nat) (s29_5 : zHp) => (zup (zup (zup s29_5 53 i29_5 (((o_Model_readText h).2) 63 i29_5)) 54 i29_5 (((o_Model_readText h).2) 64 i29_5)) 54 (16 + i29_5) (((o_Model_readText h).2) 65 i29_5))) (o_Model_clear (zup ((o_Model_readText h).2) 51 1 (((o_Model_readText h).2) 51 5)) 54) (zcn (((o_Model_readText h).2) 51 5))) 51 2 0) 59 0 0) 59 1 0)) else ((-3), ((o_Model_readText h).2)))
theorem fr_Model_field {h : zHp} (c k : Nat) (q0 : ¬ (c = 51 ∧ k = 5)) (q1 : ¬ (c = 51 ∧ k = 6)) (q2 : ¬ (c = 51 ∧ k = 7)) (q3 : ¬ (c = 51 ∧ k = 8)) (q4 : c ≠ 63) (q5 : c ≠ 64) (q6 : c ≠ 65) (q7 : ¬ (c = 51 ∧ k = 1)) (q8 : ¬ (c = 51 ∧ k = 2)) (q9 : c ≠ 53) (q10 : c ≠ 54) (q11 : c ≠ 59) : (o_Model_field h).2 c k = h c k := by
  unfold o_Model_field
  by_cases f1 : ((o_Model_readText h).1) = (-9)
  · rw [if_pos f1]
    have hI29_5 := zrep_inv (f := (fun (i29_5 : Nat) (s29_5 : zHp) => (zup (zup (zup s29_5 53 i29_5 (((o_Model_readText h).2) 63 i29_5)) 54 i29_5 (((o_Model_readText h).2) 64 i29_5)) 54 (16 + i29_5) (((o_Model_readText h).2) 65 i29_5)))) (a := (o_Model_clear (zup ((o_Model_readText h).2) 51 1 (((o_Model_readText h).2) 51 5)) 54)) (fun _ s29_5 => ∀ c k : Nat, c ≠ 53 → c ≠ 54 → s29_5 c k = (o_Model_clear (zup ((o_Model_readText h).2) 51 1 (((o_Model_readText h).2) 51 5)) 54) c k) (zcn (((o_Model_readText h).2) 51 5)) (fun _ _ _ _ => rfl) (fun i29_5 s29_5 hi29_5 hI29_5 => (fun c k q0 q1 => (by (try dsimp only); exact ((zup_fr (Or.inl (by assumption))).trans ((zup_fr (Or.inl (by assumption))).trans ((zup_fr (Or.inl (by assumption))).trans (hI29_5 _ _ (by assumption) (by assumption))))))))
    try dsimp only
    first | done | exact ((zup_fr (Or.inl (by assumption))).trans ((zup_fr (Or.inl (by assumption))).trans ((zup_fr (by omega)).trans ((hI29_5 _ _ (by assumption) (by assumption)).trans ((fr_Model_clear _ _ (by assumption)).trans ((zup_fr (by omega)).trans (fr_Model_readText _ _ (by assumption) (by assumption) (by assumption) (by assumption) (by assumption) (by assumption) (by assumption))))))))
  · rw [if_neg f1]
    try dsimp only
    first | done | exact (fr_Model_readText _ _ (by assumption) (by assumption) (by assumption) (by assumption) (by assumption) (by assumption) (by assumption))
set_option maxHeartbeats 400000 in
set_option maxRecDepth 20000 in
theorem c_Model_field (X : zXT) (h : zHp) (g : zLg) (hf0 : zfit h 51 0 110) (hf1 : zfit h 51 8 7) : zDi X M_Model_field 3 [zR X 51] h g (zI ((o_Model_field h).1)) ((o_Model_field h).2) g := by
  have hf0_1 := hf0.1
  have hf1_1 := hf1.1
  refine zDi_of "PeriodSlotsModel" prog_9_method_21_code 2 (some .int) rfl (by decide) [zO X 51, none] rfl (fun _ q => q) (Nat.le_of_ble_eq_true rfl) ?_
  intro Γ Q C hQ
  refine zr_aload_n C d_X7_field_0 rfl ?_
  refine zr_callVi (As := []) (st := []) (c := 51) C (c_Model_readText X h g hf0 hf1) k_Model_readText m867 m869 m20 (by decide) (zC_Model X _ _) rfl rfl (by decide) rfl (Nat.le_of_ble_eq_true rfl) d_X7_field_1 ?_
  refine zr_vi (fun y1 ey1 => ?_)
  refine zr_h (fun h2 eh2 => ?_)
  have hph2 : zfit h2 51 5 8 := by rw [← eh2]; exact pf_readTextM hf1
  have hph2_1 := hph2.1
  refine zr_bipush C (v := (-9)) d_X7_field_4 (by decide) ?_
  refine zr_icmp_eq C 12 d_X7_field_6 (by decide) (fun c6 => ?_) (fun c6 => ?_)
  · refine zr_aload_n C d_X7_field_12 rfl ?_
    refine zr_aload_n C d_X7_field_13 rfl ?_
    refine gf_Model_17 C m770 d_X7_field_14 ?_
    refine pf_Model_2 C m755 d_X7_field_17 ?_
    refine zr_h (fun h3 eh3 => ?_)
    have hfh3 : zfit h3 51 1 8 := zfit_of (m := zcn (h2 51 5)) ((congrFun (congrFun eh3.symm _) _).trans (zup_at.trans hph2.2)) (by omega) (by decide)
    have hfh3_1 := hfh3.1
    refine zr_aload_n C d_X7_field_20 rfl ?_
    refine gf_Model_4 C m757 d_X7_field_21 ?_
    refine zr_callSv (As := [zR X 54]) (st := []) C (c_Model_clear X h3 g 54 (by decide)) k_Model_clear m750 m751 rfl (by decide) rfl (Nat.le_of_ble_eq_true rfl) d_X7_field_24 ?_
    refine zr_h (fun h4 eh4 => ?_)
    refine zr_iconst C (v := 0) d_X7_field_27 (by decide) ?_
    refine zr_istore_n C [zO X 51, zI 0] d_X7_field_28 (Nat.le_of_ble_eq_true rfl) rfl rfl ?_
    refine zfor (f := (fun (i29_5 : Nat) (s29_5 : zHp) => (zup (zup (zup s29_5 53 i29_5 (h2 63 i29_5)) 54 i29_5 (h2 64 i29_5)) 54 (16 + i29_5) (h2 65 i29_5)))) (a := h4) (fun i29_5 s29_5 => zV X Γ Q 29 [zO X 51, zI (nI i29_5)] [] s29_5 g) (fun _ s29_5 => ∀ c k : Nat, c ≠ 53 → c ≠ 54 → s29_5 c k = h4 c k) (zcn (h2 51 5)) (fun _ _ _ _ => rfl) (fun i29_5 s29_5 hi29_5 hI29_5 => ⟨(fun c k q0 q1 => (by (try dsimp only); exact ((zup_fr (Or.inl (by assumption))).trans ((zup_fr (Or.inl (by assumption))).trans ((zup_fr (Or.inl (by assumption))).trans (hI29_5 _ _ (by assumption) (by assumption))))))), fun hk29_5 => ?_⟩) (fun r29_5 er29_5 hI29_5 => ?_)
    · refine zr_iload_n C d_X7_field_29 rfl ?_
      refine zr_aload_n C d_X7_field_30 rfl ?_
      refine gf_Model_2 C m755 d_X7_field_31 ?_
      refine zr_top (((hI29_5 _ _ (by omega) (by omega)).trans ((congrFun (congrFun eh4.symm _) _).trans (fr_Model_clear _ _ (by omega)))).trans ((congrFun (congrFun eh3.symm _) _).trans zup_at)) ?_
      refine zr_icmp_ge C 82 d_X7_field_34 (by decide) (fun c => absurd c (zge_no rfl (by omega))) (fun _ => ?_)
      refine zr_aload_n C d_X7_field_37 rfl ?_
      refine gf_Model_3 C m756 d_X7_field_38 ?_
      refine zr_iload_n C d_X7_field_41 rfl ?_
      refine zr_aload_n C d_X7_field_42 rfl ?_
      refine gf_Model_18 C m771 d_X7_field_43 ?_
      refine zr_iload_n C d_X7_field_46 rfl ?_
      refine zr_iald C za_63 (i29_5) rfl (by omega) (by decide) d_X7_field_47 ?_
      refine zr_top ((hI29_5 _ _ (by omega) (by omega)).trans ((congrFun (congrFun eh4.symm _) _).trans ((fr_Model_clear _ _ (by omega)).trans ((congrFun (congrFun eh3.symm _) _).trans (zup_fr (by omega)))))) ?_
      refine zr_iast C za_53 (i29_5) rfl (by omega) (by decide) d_X7_field_48 ?_
      refine zr_h (fun h6 eh6 => ?_)
      refine zr_aload_n C d_X7_field_49 rfl ?_
      refine gf_Model_4 C m757 d_X7_field_50 ?_
      refine zr_iload_n C d_X7_field_53 rfl ?_
      refine zr_aload_n C d_X7_field_54 rfl ?_
      refine gf_Model_19 C m772 d_X7_field_55 ?_
      refine zr_iload_n C d_X7_field_58 rfl ?_
      refine zr_iald C za_64 (i29_5) rfl (by omega) (by decide) d_X7_field_59 ?_
      refine zr_top ((congrFun (congrFun eh6.symm _) _).trans ((zup_fr (by omega)).trans ((hI29_5 _ _ (by omega) (by omega)).trans ((congrFun (congrFun eh4.symm _) _).trans ((fr_Model_clear _ _ (by omega)).trans ((congrFun (congrFun eh3.symm _) _).trans (zup_fr (by omega)))))))) ?_
      refine zr_iast C za_54 (i29_5) rfl (by omega) (by decide) d_X7_field_60 ?_
      refine zr_h (fun h7 eh7 => ?_)
      refine zr_aload_n C d_X7_field_61 rfl ?_
      refine gf_Model_4 C m757 d_X7_field_62 ?_
      refine zr_bipush C (v := 16) d_X7_field_65 (by decide) ?_
      refine zr_iload_n C d_X7_field_67 rfl ?_
      refine zr_iadd C d_X7_field_68 ?_
      refine zr_aload_n C d_X7_field_69 rfl ?_
      refine gf_Model_20 C m773 d_X7_field_70 ?_
      refine zr_iload_n C d_X7_field_73 rfl ?_
      refine zr_iald C za_65 (i29_5) rfl (by omega) (by decide) d_X7_field_74 ?_
      refine zr_top ((congrFun (congrFun eh7.symm _) _).trans ((zup_fr (by omega)).trans ((congrFun (congrFun eh6.symm _) _).trans ((zup_fr (by omega)).trans ((hI29_5 _ _ (by omega) (by omega)).trans ((congrFun (congrFun eh4.symm _) _).trans ((fr_Model_clear _ _ (by omega)).trans ((congrFun (congrFun eh3.symm _) _).trans (zup_fr (by omega)))))))))) ?_
      refine zr_iast C za_54 (16 + i29_5) (zn_add rfl rfl) (by omega) (by decide) d_X7_field_75 ?_
      refine zr_h (fun h8 eh8 => ?_)
      refine zr_iinc C [zO X 51, zI (nI (i29_5 + 1))] (v := (nI (i29_5 + 1))) d_X7_field_76 rfl (zn_add rfl rfl) (Nat.le_of_ble_eq_true rfl) rfl rfl ?_
      refine zr_goto C 29 d_X7_field_79 (by decide) ?_
      exact hk29_5 h8 (by subst eh8 eh7 eh6; exact rfl)
    refine zr_iload_n C d_X7_field_29 rfl ?_
    refine zr_aload_n C d_X7_field_30 rfl ?_
    refine gf_Model_2 C m755 d_X7_field_31 ?_
    refine zr_top (((hI29_5 _ _ (by omega) (by omega)).trans ((congrFun (congrFun eh4.symm _) _).trans (fr_Model_clear _ _ (by omega)))).trans ((congrFun (congrFun eh3.symm _) _).trans zup_at)) ?_
    refine zr_icmp_ge C 82 d_X7_field_34 (by decide) (fun _ => ?_) (fun c => absurd (zge_yes rfl (by omega) (by have := zcn_small (h2 51 5); omega)) c)
    refine zr_aload_n C d_X7_field_82 rfl ?_
    refine zr_iconst C (v := 0) d_X7_field_83 (by decide) ?_
    refine pf_Model_8 C m761 d_X7_field_84 ?_
    refine zr_h (fun h9 eh9 => ?_)
    refine zr_aload_n C d_X7_field_87 rfl ?_
    refine gf_Model_11 C m764 d_X7_field_88 ?_
    refine zr_iconst C (v := 0) d_X7_field_91 (by decide) ?_
    refine zr_iconst C (v := 0) d_X7_field_92 (by decide) ?_
    refine zr_zast C (0) rfl (by omega) (Or.inl rfl) d_X7_field_93 ?_
    refine zr_h (fun h10 eh10 => ?_)
    refine zr_aload_n C d_X7_field_94 rfl ?_
    refine gf_Model_11 C m764 d_X7_field_95 ?_
    refine zr_iconst C (v := 1) d_X7_field_98 (by decide) ?_
    refine zr_iconst C (v := 0) d_X7_field_99 (by decide) ?_
    refine zr_zast C (1) rfl (by omega) (Or.inl rfl) d_X7_field_100 ?_
    refine zr_h (fun h11 eh11 => ?_)
    refine zr_aload_n C d_X7_field_101 rfl ?_
    refine gf_Model_2 C m755 d_X7_field_102 ?_
    refine zr_top (((congrFun (congrFun eh11.symm _) _).trans ((zup_fr (by omega)).trans ((congrFun (congrFun eh10.symm _) _).trans ((zup_fr (by omega)).trans ((congrFun (congrFun eh9.symm _) _).trans ((zup_fr (by omega)).trans ((hI29_5 _ _ (by omega) (by omega)).trans ((congrFun (congrFun eh4.symm _) _).trans (fr_Model_clear _ _ (by omega)))))))))).trans ((congrFun (congrFun eh3.symm _) _).trans zup_at)) ?_
    have eR : o_Model_field h = ((h2 51 5), h11) := (by subst eh11 eh10 eh9 er29_5 eh4 eh3 eh2 ey1; unfold o_Model_field; rw [if_pos c6])
    subst hQ
    exact zTQ_Ih eR (zr_ireti C d_X7_field_105)
  · refine zr_bipush C (v := (-3)) d_X7_field_9 (by decide) ?_
    have eR : o_Model_field h = ((-3), h2) := (by subst eh2 ey1; unfold o_Model_field; rw [if_neg c6])
    subst hQ
    exact zTQ_Ih eR (zr_ireti C d_X7_field_11)
theorem d_X7_layPlan_0 : decode prog_9_method_58_code 0 = .ok (.aload_n 0, 1) := by decide +kernel
theorem d_X7_layPlan_1 : decode prog_9_method_58_code 1 = .ok (.aload_n 0, 1) := by decide +kernel
theorem d_X7_layPlan_2 : decode prog_9_method_58_code 2 = .ok (.getfield 16, 3) := by decide +kernel
theorem d_X7_layPlan_5 : decode prog_9_method_58_code 5 = .ok (.aload_n 0, 1) := by decide +kernel
theorem d_X7_layPlan_6 : decode prog_9_method_58_code 6 = .ok (.invokevirtual 159, 3) := by decide +kernel
theorem d_X7_layPlan_9 : decode prog_9_method_58_code 9 = .ok (.invokevirtual 162, 3) := by decide +kernel
theorem d_X7_layPlan_12 : decode prog_9_method_58_code 12 = .ok (.iconst 0, 1) := by decide +kernel
theorem d_X7_layPlan_13 : decode prog_9_method_58_code 13 = .ok (.istore_n 1, 1) := by decide +kernel
theorem d_X7_layPlan_14 : decode prog_9_method_58_code 14 = .ok (.aload_n 0, 1) := by decide +kernel
theorem d_X7_layPlan_15 : decode prog_9_method_58_code 15 = .ok (.getfield 62, 3) := by decide +kernel
theorem d_X7_layPlan_18 : decode prog_9_method_58_code 18 = .ok (.iconst 0, 1) := by decide +kernel
theorem d_X7_layPlan_19 : decode prog_9_method_58_code 19 = .ok (.iconst (-1), 1) := by decide +kernel
theorem d_X7_layPlan_20 : decode prog_9_method_58_code 20 = .ok (.iastore, 1) := by decide +kernel
theorem d_X7_layPlan_21 : decode prog_9_method_58_code 21 = .ok (.iload_n 1, 1) := by decide +kernel
theorem d_X7_layPlan_22 : decode prog_9_method_58_code 22 = .ok (.ifCond .lt 71, 3) := by decide +kernel
theorem d_X7_layPlan_25 : decode prog_9_method_58_code 25 = .ok (.iload_n 1, 1) := by decide +kernel
theorem d_X7_layPlan_26 : decode prog_9_method_58_code 26 = .ok (.aload_n 0, 1) := by decide +kernel
theorem d_X7_layPlan_27 : decode prog_9_method_58_code 27 = .ok (.getfield 72, 3) := by decide +kernel
theorem d_X7_layPlan_30 : decode prog_9_method_58_code 30 = .ok (.if_icmp .ge 63, 3) := by decide +kernel
theorem d_X7_layPlan_33 : decode prog_9_method_58_code 33 = .ok (.aload_n 0, 1) := by decide +kernel
theorem d_X7_layPlan_34 : decode prog_9_method_58_code 34 = .ok (.getfield 62, 3) := by decide +kernel
theorem d_X7_layPlan_37 : decode prog_9_method_58_code 37 = .ok (.iload_n 1, 1) := by decide +kernel
theorem d_X7_layPlan_38 : decode prog_9_method_58_code 38 = .ok (.dup2, 1) := by decide +kernel
theorem d_X7_layPlan_39 : decode prog_9_method_58_code 39 = .ok (.iaload, 1) := by decide +kernel
theorem d_X7_layPlan_40 : decode prog_9_method_58_code 40 = .ok (.iconst 1, 1) := by decide +kernel
theorem d_X7_layPlan_41 : decode prog_9_method_58_code 41 = .ok (.iadd, 1) := by decide +kernel
theorem d_X7_layPlan_42 : decode prog_9_method_58_code 42 = .ok (.iastore, 1) := by decide +kernel
theorem d_X7_layPlan_43 : decode prog_9_method_58_code 43 = .ok (.aload_n 0, 1) := by decide +kernel
theorem d_X7_layPlan_44 : decode prog_9_method_58_code 44 = .ok (.getfield 62, 3) := by decide +kernel
theorem d_X7_layPlan_47 : decode prog_9_method_58_code 47 = .ok (.iload_n 1, 1) := by decide +kernel
theorem d_X7_layPlan_48 : decode prog_9_method_58_code 48 = .ok (.iaload, 1) := by decide +kernel
theorem d_X7_layPlan_49 : decode prog_9_method_58_code 49 = .ok (.aload_n 0, 1) := by decide +kernel
theorem d_X7_layPlan_50 : decode prog_9_method_58_code 50 = .ok (.getfield 13, 3) := by decide +kernel
theorem d_X7_layPlan_53 : decode prog_9_method_58_code 53 = .ok (.iload_n 1, 1) := by decide +kernel
theorem d_X7_layPlan_54 : decode prog_9_method_58_code 54 = .ok (.iaload, 1) := by decide +kernel
theorem d_X7_layPlan_55 : decode prog_9_method_58_code 55 = .ok (.if_icmp .ne 9, 3) := by decide +kernel
theorem d_X7_layPlan_58 : decode prog_9_method_58_code 58 = .ok (.iinc 1 (-1), 3) := by decide +kernel
theorem d_X7_layPlan_61 : decode prog_9_method_58_code 61 = .ok (.goto (-40), 3) := by decide +kernel
theorem d_X7_layPlan_64 : decode prog_9_method_58_code 64 = .ok (.aload_n 0, 1) := by decide +kernel
theorem d_X7_layPlan_65 : decode prog_9_method_58_code 65 = .ok (.iload_n 1, 1) := by decide +kernel
theorem d_X7_layPlan_66 : decode prog_9_method_58_code 66 = .ok (.invokevirtual 245, 3) := by decide +kernel
theorem d_X7_layPlan_69 : decode prog_9_method_58_code 69 = .ok (.ifCond .eq (-48), 3) := by decide +kernel
theorem d_X7_layPlan_72 : decode prog_9_method_58_code 72 = .ok (.iinc 1 1, 3) := by decide +kernel
theorem d_X7_layPlan_75 : decode prog_9_method_58_code 75 = .ok (.iload_n 1, 1) := by decide +kernel
theorem d_X7_layPlan_76 : decode prog_9_method_58_code 76 = .ok (.aload_n 0, 1) := by decide +kernel
theorem d_X7_layPlan_77 : decode prog_9_method_58_code 77 = .ok (.getfield 72, 3) := by decide +kernel
theorem d_X7_layPlan_80 : decode prog_9_method_58_code 80 = .ok (.if_icmp .ge (-59), 3) := by decide +kernel
theorem d_X7_layPlan_83 : decode prog_9_method_58_code 83 = .ok (.aload_n 0, 1) := by decide +kernel
theorem d_X7_layPlan_84 : decode prog_9_method_58_code 84 = .ok (.getfield 62, 3) := by decide +kernel
theorem d_X7_layPlan_87 : decode prog_9_method_58_code 87 = .ok (.iload_n 1, 1) := by decide +kernel
theorem d_X7_layPlan_88 : decode prog_9_method_58_code 88 = .ok (.iconst (-1), 1) := by decide +kernel
theorem d_X7_layPlan_89 : decode prog_9_method_58_code 89 = .ok (.iastore, 1) := by decide +kernel
theorem d_X7_layPlan_90 : decode prog_9_method_58_code 90 = .ok (.goto (-69), 3) := by decide +kernel
theorem d_X7_layPlan_93 : decode prog_9_method_58_code 93 = .ok (.iload_n 1, 1) := by decide +kernel
theorem d_X7_layPlan_94 : decode prog_9_method_58_code 94 = .ok (.ifCond .lt 7, 3) := by decide +kernel
theorem d_X7_layPlan_97 : decode prog_9_method_58_code 97 = .ok (.iconst 1, 1) := by decide +kernel
theorem d_X7_layPlan_98 : decode prog_9_method_58_code 98 = .ok (.goto 4, 3) := by decide +kernel
theorem d_X7_layPlan_101 : decode prog_9_method_58_code 101 = .ok (.iconst 0, 1) := by decide +kernel
theorem d_X7_layPlan_102 : decode prog_9_method_58_code 102 = .ok (.ireturn, 1) := by decide +kernel
abbrev M_Model_layPlan : zMT := (⟨"PeriodSlotsModel", "layPlan", "()Z"⟩, prog_9_method_58_code, 2, (some .boolean))
theorem k_Model_layPlan : zcall M_Model_layPlan 0 := ⟨zU_in (i := 1054) (by decide +kernel) rfl, m62, ⟨by decide, by decide, by decide +kernel⟩, by decide⟩
def zpos (h : zHp) : Prop := ∀ v, v < zcn (h 51 1) → 0 < zcn (h 53 v) ∧ h 53 v = nI (zcn (h 53 v))
/-- one offset of one station tried; R: the search behind it; k: how many stations are left behind it -/
def zplF (R : zHp → Nat → Bool × zHp) (k s o : Nat) (h : zHp) : zHp ⊕ zHp :=
  if o_Model_fits (zup h 69 s (nI o)) s = true then
    (if (R (if 0 < k then zup (zup h 69 s (nI o)) 69 (s + 1) (-1) else zup h 69 s (nI o)) (s + 1)).1 = true then .inr (R (if 0 < k then zup (zup h 69 s (nI o)) 69 (s + 1) (-1) else zup h 69 s (nI o)) (s + 1)).2 else .inl (R (if 0 < k then zup (zup h 69 s (nI o)) 69 (s + 1) (-1) else zup h 69 s (nI o)) (s + 1)).2)
  else .inl (zup h 69 s (nI o))
/-- the reference's search from station s on, k stations left -/
def zpl : Nat → zHp → Nat → Bool × zHp
  | 0, h, _ => (true, h)
  | k + 1, h, s => Sum.elim (fun h2 => (false, zup h2 69 s (nI (zcn (h 53 s))))) (fun h2 => (true, h2)) (zrex (zplF (zpl k) k s) h (zcn (h 53 s)))
theorem zplF_fr {R : zHp → Nat → Bool × zHp} {k s o : Nat} {h : zHp} {c i : Nat} (hR : ∀ h2 : zHp, (c ≠ 69 ∨ i < s + 1) → (R h2 (s + 1)).2 c i = h2 c i) (hc : c ≠ 69 ∨ i < s) : (∀ h2, zplF R k s o h = .inl h2 → h2 c i = h c i) ∧ (∀ h2, zplF R k s o h = .inr h2 → h2 c i = h c i) := by
  have e0 : (zup h 69 s (nI o)) c i = h c i := zup_fr (by omega)
  have e1 : (if 0 < k then zup (zup h 69 s (nI o)) 69 (s + 1) (-1) else zup h 69 s (nI o)) c i = h c i := zite_fr (fun _ => (zup_fr (by omega)).trans e0) (fun _ => e0)
  have e2 := (hR (if 0 < k then zup (zup h 69 s (nI o)) 69 (s + 1) (-1) else zup h 69 s (nI o)) (by omega)).trans e1
  unfold zplF
  refine ⟨fun h2 e => ?_, fun h2 e => ?_⟩
  · by_cases c1 : o_Model_fits (zup h 69 s (nI o)) s = true
    · rw [if_pos c1] at e
      by_cases c2 : (R (if 0 < k then zup (zup h 69 s (nI o)) 69 (s + 1) (-1) else zup h 69 s (nI o)) (s + 1)).1 = true
      · rw [if_pos c2] at e; cases e
      · rw [if_neg c2] at e; cases e; exact e2
    · rw [if_neg c1] at e; cases e; exact e0
  · by_cases c1 : o_Model_fits (zup h 69 s (nI o)) s = true
    · rw [if_pos c1] at e
      by_cases c2 : (R (if 0 < k then zup (zup h 69 s (nI o)) 69 (s + 1) (-1) else zup h 69 s (nI o)) (s + 1)).1 = true
      · rw [if_pos c2] at e; cases e; exact e2
      · rw [if_neg c2] at e; cases e
    · rw [if_neg c1] at e; cases e
theorem zpl_fr : ∀ (k : Nat) (h : zHp) (s c i : Nat), (c ≠ 69 ∨ i < s) → (zpl k h s).2 c i = h c i
  | 0, _, _, _, _, _ => rfl
  | k + 1, h, s, c, i, hc => by
    have hR : ∀ h2 : zHp, (c ≠ 69 ∨ i < s + 1) → (zpl k h2 (s + 1)).2 c i = h2 c i := fun h2 q => zpl_fr k h2 (s + 1) c i q
    unfold zpl
    refine zrex_P (fun _ (s2 : zHp) => s2 c i = h c i) (fun (q : Bool × zHp) => q.2 c i = h c i) rfl (fun o s2 _ hI => ⟨fun h2 e => ((zplF_fr hR hc).1 h2 e).trans hI, fun h2 e => ((zplF_fr hR hc).2 h2 e).trans hI⟩) (fun s2 hI => ?_)
    exact (zup_fr (by omega)).trans hI
def o_Model_layPlan (h : zHp) : Bool × zHp := zpl (zcn (h 51 1)) (zup (o_Model_layNear h 54 (o_Model_all h)) 69 0 (-1)) 0
theorem fr_Model_layPlan {h : zHp} (c k : Nat) (q0 : ¬ (c = 51 ∧ k = 9)) (q1 : c ≠ 66) (q2 : c ≠ 69) : (o_Model_layPlan h).2 c k = h c k := by
  unfold o_Model_layPlan
  rw [zpl_fr _ _ _ _ _ (Or.inl q2), zup_fr (Or.inl q2)]
  exact fr_Model_layNear _ _ q0 q1
theorem zn_m1 (s : Nat) : nI s + Int32.ofInt (-1) = nI s - nI 1 := by
  rw [Int32.sub_eq_add_neg]
  rfl
section ZP
variable {X : zXT} {Γ : zGT} {Q : State → Prop} {g : zLg}
set_option maxHeartbeats 1000000 in
theorem zpl_step (C : zOk X Γ prog_9_method_58_code "PeriodSlotsModel" 2 3 (some .boolean)) {n : Nat} (hn8 : n ≤ 8) (k s o : Nat) (h : zHp) (hk : s + (k + 1) = n) (h1 : h 51 1 = nI n) (hper : zper h) (hpos : zpos h) (ho : o < zcn (h 53 s)) (hv : h 69 s = nI o - nI 1)
    (K1 : ¬ o_Model_fits (zup h 69 s (nI o)) s = true → zV X Γ Q 21 [zO X 51, zI (nI s)] [] (zup h 69 s (nI o)) g)
    (K2 : o_Model_fits (zup h 69 s (nI o)) s = true → zV X Γ Q 21 [zO X 51, zI (nI (s + 1))] [] (if 0 < k then zup (zup h 69 s (nI o)) 69 (s + 1) (-1) else zup h 69 s (nI o)) g) :
    zV X Γ Q 21 [zO X 51, zI (nI s)] [] h g := by
  have hs8 : s < 8 := by omega
  have hf : zfit h 51 1 8 := zfit_of h1 hn8 (by decide)
  have hp := hpos s (by rw [h1, zcn_nI (by omega)]; omega)
  refine zr_iload_n C d_X7_layPlan_21 rfl ?_
  refine zr_if_lt C 93 d_X7_layPlan_22 (by decide) (fun c => absurd c (nI_pos (by omega))) (fun _ => ?_)
  refine zr_iload_n C d_X7_layPlan_25 rfl ?_
  refine zr_aload_n C d_X7_layPlan_26 rfl ?_
  refine gf_Model_2 C m755 d_X7_layPlan_27 ?_
  refine zr_icmp_ge C 93 d_X7_layPlan_30 (by decide) (fun c => absurd c (zge_noN (B := n) h1 (by omega) (by omega))) (fun _ => ?_)
  refine zr_aload_n C d_X7_layPlan_33 rfl ?_
  refine gf_Model_30 C m783 d_X7_layPlan_34 ?_
  refine zr_iload_n C d_X7_layPlan_37 rfl ?_
  refine zr_dup2 C d_X7_layPlan_38 rfl rfl ?_
  refine zr_iald C za_69 s rfl (by omega) (by decide) d_X7_layPlan_39 ?_
  refine zr_iconst C (v := 1) d_X7_layPlan_40 (by decide) ?_
  refine zr_iadd C d_X7_layPlan_41 ?_
  refine zr_iast C za_69 s rfl (by omega) (by decide) d_X7_layPlan_42 ?_
  have e0 : h 69 s + 1 = nI o := by rw [hv]; exact Int32.sub_add_cancel _ _
  rw [e0]
  refine zr_h (fun h2 eh2 => ?_)
  have e2 : ∀ c i, (c ≠ 69 ∨ i ≠ s) → h2 c i = h c i := fun c i q => by rw [← eh2]; exact zup_fr (by omega)
  have e2s : h2 69 s = nI o := by rw [← eh2]; exact zup_at
  rw [eh2] at K1 K2
  have hf2 : zfit h2 51 1 8 := zfit_fr (e2 51 1 (by omega)) hf
  have hper2 : zper h2 := zper_fr (e2 51 1 (by omega)) (fun v => e2 53 v (by omega)) hper
  refine zr_aload_n C d_X7_layPlan_43 rfl ?_
  refine gf_Model_30 C m783 d_X7_layPlan_44 ?_
  refine zr_iload_n C d_X7_layPlan_47 rfl ?_
  refine zr_iald C za_69 s rfl (by omega) (by decide) d_X7_layPlan_48 ?_
  refine zr_aload_n C d_X7_layPlan_49 rfl ?_
  refine gf_Model_3 C m756 d_X7_layPlan_50 ?_
  refine zr_iload_n C d_X7_layPlan_53 rfl ?_
  refine zr_iald C za_53 s rfl (by omega) (by decide) d_X7_layPlan_54 ?_
  have hne : ¬ h2 69 s = h2 53 s := by
    rw [e2s, e2 53 s (by omega), hp.2]
    exact fun e => by have := (nI_eq (by have := zcn_small (h 53 s); omega) (zcn_small _)).mp e; omega
  refine zr_icmp_ne C 64 d_X7_layPlan_55 (by decide) (fun _ => ?_) (fun c => absurd c hne)
  refine zr_aload_n C d_X7_layPlan_64 rfl ?_
  refine zr_iload_n C d_X7_layPlan_65 rfl ?_
  refine zr_callVz (As := [.int (nI s)]) (st := []) (c := 51) C (c_Model_fits X h2 g s rfl hf2 hper2 hs8 (by rw [e2 51 1 (by omega), h1, zcn_nI (by omega)]; omega)) k_Model_fits m1055 m1057 m47 (by decide) (zC_Model X _ _) rfl rfl (by decide) rfl (Nat.le_of_ble_eq_true rfl) d_X7_layPlan_66 ?_
  refine zr_ifz_eq C 21 d_X7_layPlan_69 (by decide) (fun c => K1 (zbf c)) (fun c => ?_)
  refine zr_iinc C [zO X 51, zI (nI (s + 1))] (v := (nI (s + 1))) d_X7_layPlan_72 rfl (zn_add rfl rfl) (Nat.le_of_ble_eq_true rfl) rfl rfl ?_
  refine zr_iload_n C d_X7_layPlan_75 rfl ?_
  refine zr_aload_n C d_X7_layPlan_76 rfl ?_
  refine gf_Model_2 C m755 d_X7_layPlan_77 ?_
  have K2 := K2 c
  rcases Nat.eq_zero_or_pos k with q | q
  · rw [if_neg (by omega)] at K2
    refine zr_icmp_ge C 21 d_X7_layPlan_80 (by decide) (fun _ => K2) (fun c => absurd (zge_yesN (B := n) ((e2 51 1 (by omega)).trans h1) (by omega) (by omega)) c)
  · rw [if_pos q] at K2
    refine zr_icmp_ge C 21 d_X7_layPlan_80 (by decide) (fun c => absurd c (zge_noN (B := n) ((e2 51 1 (by omega)).trans h1) (by omega) (by omega))) (fun _ => ?_)
    refine zr_aload_n C d_X7_layPlan_83 rfl ?_
    refine gf_Model_30 C m783 d_X7_layPlan_84 ?_
    refine zr_iload_n C d_X7_layPlan_87 rfl ?_
    refine zr_iconst C (v := (-1)) d_X7_layPlan_88 (by decide) ?_
    refine zr_iast C za_69 (s + 1) rfl (by omega) (by decide) d_X7_layPlan_89 ?_
    refine zr_goto C 21 d_X7_layPlan_90 (by decide) ?_
    exact K2
set_option maxHeartbeats 1000000 in
theorem zpl_last (C : zOk X Γ prog_9_method_58_code "PeriodSlotsModel" 2 3 (some .boolean)) {n : Nat} (hn8 : n ≤ 8) (s : Nat) (h : zHp) (hs : s < n) (h1 : h 51 1 = nI n) (hp : h 53 s = nI (zcn (h 53 s))) (hv : h 69 s = nI (zcn (h 53 s)) - nI 1)
    (K : zV X Γ Q 21 [zO X 51, zI (nI s - nI 1)] [] (zup h 69 s (nI (zcn (h 53 s)))) g) :
    zV X Γ Q 21 [zO X 51, zI (nI s)] [] h g := by
  have hs8 : s < 8 := by omega
  refine zr_iload_n C d_X7_layPlan_21 rfl ?_
  refine zr_if_lt C 93 d_X7_layPlan_22 (by decide) (fun c => absurd c (nI_pos (by omega))) (fun _ => ?_)
  refine zr_iload_n C d_X7_layPlan_25 rfl ?_
  refine zr_aload_n C d_X7_layPlan_26 rfl ?_
  refine gf_Model_2 C m755 d_X7_layPlan_27 ?_
  refine zr_icmp_ge C 93 d_X7_layPlan_30 (by decide) (fun c => absurd c (zge_noN (B := n) h1 (by omega) (by omega))) (fun _ => ?_)
  refine zr_aload_n C d_X7_layPlan_33 rfl ?_
  refine gf_Model_30 C m783 d_X7_layPlan_34 ?_
  refine zr_iload_n C d_X7_layPlan_37 rfl ?_
  refine zr_dup2 C d_X7_layPlan_38 rfl rfl ?_
  refine zr_iald C za_69 s rfl (by omega) (by decide) d_X7_layPlan_39 ?_
  refine zr_iconst C (v := 1) d_X7_layPlan_40 (by decide) ?_
  refine zr_iadd C d_X7_layPlan_41 ?_
  refine zr_iast C za_69 s rfl (by omega) (by decide) d_X7_layPlan_42 ?_
  have e0 : h 69 s + 1 = nI (zcn (h 53 s)) := by rw [hv]; exact Int32.sub_add_cancel _ _
  rw [e0]
  refine zr_h (fun h2 eh2 => ?_)
  have e2s : h2 69 s = nI (zcn (h 53 s)) := by rw [← eh2]; exact zup_at
  have e3s : h2 53 s = nI (zcn (h 53 s)) := by rw [← eh2, ← hp]; exact zup_fr (by omega)
  rw [eh2] at K
  refine zr_aload_n C d_X7_layPlan_43 rfl ?_
  refine gf_Model_30 C m783 d_X7_layPlan_44 ?_
  refine zr_iload_n C d_X7_layPlan_47 rfl ?_
  refine zr_iald C za_69 s rfl (by omega) (by decide) d_X7_layPlan_48 ?_
  refine zr_aload_n C d_X7_layPlan_49 rfl ?_
  refine gf_Model_3 C m756 d_X7_layPlan_50 ?_
  refine zr_iload_n C d_X7_layPlan_53 rfl ?_
  refine zr_iald C za_53 s rfl (by omega) (by decide) d_X7_layPlan_54 ?_
  refine zr_icmp_ne C 64 d_X7_layPlan_55 (by decide) (fun c => absurd (e2s.trans e3s.symm) c) (fun _ => ?_)
  refine zr_iinc C [zO X 51, zI (nI s - nI 1)] (v := (nI s - nI 1)) d_X7_layPlan_58 rfl (zn_m1 s) (Nat.le_of_ble_eq_true rfl) rfl rfl ?_
  refine zr_goto C 21 d_X7_layPlan_61 (by decide) ?_
  exact K
theorem zpl_walk (C : zOk X Γ prog_9_method_58_code "PeriodSlotsModel" 2 3 (some .boolean)) {n : Nat} (hn8 : n ≤ 8) : ∀ (k s : Nat) (h : zHp), s + k = n → h 51 1 = nI n → zper h → zpos h → (0 < k → h 69 s = nI 0 - nI 1) →
    ((zpl k h s).1 = true → zV X Γ Q 21 [zO X 51, zI (nI n)] [] (zpl k h s).2 g) →
    ((zpl k h s).1 = false → zV X Γ Q 21 [zO X 51, zI (nI s - nI 1)] [] (zpl k h s).2 g) →
    zV X Γ Q 21 [zO X 51, zI (nI s)] [] h g
  | 0, s, h, hk, _, _, _, _, KT, _ => by
    have e : s = n := by omega
    subst e
    exact KT rfl
  | k + 1, s, h, hk, h1, hper, hpos, h0, KT, KF => by
    have hv0 := hpos s (by rw [h1, zcn_nI (by omega)]; omega)
    have hR : ∀ c i, ∀ h2 : zHp, (c ≠ 69 ∨ i < s + 1) → (zpl k h2 (s + 1)).2 c i = h2 c i := fun c i h2 q => zpl_fr k h2 (s + 1) c i q
    have main : ∀ (j o : Nat) (h2 : zHp), o + j = zcn (h 53 s) → zrex (zplF (zpl k) k s) h o = .inl h2 → (∀ c i, (c ≠ 69 ∨ i < s) → h2 c i = h c i) → h2 69 s = nI o - nI 1 → zV X Γ Q 21 [zO X 51, zI (nI s)] [] h2 g := by
      intro j
      induction j with
      | zero =>
        intro o h2 hj hx hfr hv
        have eo : o = zcn (h 53 s) := by omega
        have e53 : h2 53 s = h 53 s := hfr 53 s (by omega)
        refine zpl_last C hn8 s h2 (by omega) ((hfr 51 1 (by omega)).trans h1) (by rw [e53]; exact hv0.2) (by rw [hv, e53, eo]) ?_
        rw [eo] at hx
        have ez : zpl (k + 1) h s = (false, zup h2 69 s (nI (zcn (h 53 s)))) := by
          show Sum.elim _ _ (zrex (zplF (zpl k) k s) h (zcn (h 53 s))) = _
          rw [hx]
          rfl
        rw [ez] at KF
        rw [e53]
        exact KF rfl
      | succ j ih =>
        intro o h2 hj hx hfr hv
        have e53 : h2 53 s = h 53 s := hfr 53 s (by omega)
        have e51 : h2 51 1 = nI n := (hfr 51 1 (by omega)).trans h1
        have hper2 : zper h2 := zper_fr (hfr 51 1 (by omega)) (fun v => hfr 53 v (by omega)) hper
        have hpos2 : zpos h2 := by
          intro v hv2
          rw [hfr 51 1 (by omega)] at hv2
          rw [hfr 53 v (by omega)]
          exact hpos v hv2
        have hx1 : zrex (zplF (zpl k) k s) h (o + 1) = zplF (zpl k) k s o h2 := by
          simp only [zrex, hx]
        have hnx : nI o = nI (o + 1) - nI 1 := by rw [← nI_add]; exact (Int32.add_sub_cancel _ _).symm
        have hrest : ∀ r, zplF (zpl k) k s o h2 = .inr r → zpl (k + 1) h s = (true, r) := by
          intro r hr
          have hst : ∀ m, o + 1 + m ≤ zcn (h 53 s) → zrex (zplF (zpl k) k s) h (o + 1 + m) = .inr r := by
            intro m
            induction m with
            | zero => intro _; exact hx1.trans hr
            | succ m ihm =>
              intro hm
              have em := ihm (by omega)
              rw [← Nat.add_assoc]
              simp only [zrex, em]
          have := hst j (by omega)
          show Sum.elim _ _ (zrex (zplF (zpl k) k s) h (zcn (h 53 s))) = _
          rw [show zcn (h 53 s) = o + 1 + j by omega, this]
          rfl
        refine zpl_step C hn8 k s o h2 hk e51 hper2 hpos2 (by rw [e53]; omega) hv (fun c1 => ?_) (fun c1 => ?_)
        · have e3 : zplF (zpl k) k s o h2 = .inl (zup h2 69 s (nI o)) := by unfold zplF; rw [if_neg c1]
          refine ih (o + 1) _ (by omega) (hx1.trans e3) (fun c i q => (zup_fr (by omega)).trans (hfr c i q)) (zup_at.trans hnx)
        · generalize hB : (if 0 < k then zup (zup h2 69 s (nI o)) 69 (s + 1) (-1) else zup h2 69 s (nI o)) = hb
          have hbfr : ∀ c i, (c ≠ 69 ∨ i < s) → hb c i = h2 c i := fun c i q => by
            rw [← hB]
            exact zite_fr (fun _ => (zup_fr (by omega)).trans (zup_fr (by omega))) (fun _ => zup_fr (by omega))
          have hbs : hb 69 s = nI o := by
            rw [← hB]
            exact zite_fr (fun _ => (zup_fr (by omega)).trans zup_at) (fun _ => zup_at)
          have hbs1 : 0 < k → hb 69 (s + 1) = nI 0 - nI 1 := fun q => by
            rw [← hB, if_pos q]
            exact zup_at
          have hperb : zper hb := zper_fr (hbfr 51 1 (by omega)) (fun v => hbfr 53 v (by omega)) hper2
          have hposb : zpos hb := by
            intro v hv2
            rw [hbfr 51 1 (by omega)] at hv2
            rw [hbfr 53 v (by omega)]
            exact hpos2 v hv2
          refine zpl_walk C hn8 k (s + 1) hb (by omega) ((hbfr 51 1 (by omega)).trans e51) hperb hposb hbs1 (fun ct => ?_) (fun cf => ?_)
          · have e3 : zplF (zpl k) k s o h2 = .inr (zpl k hb (s + 1)).2 := by unfold zplF; rw [if_pos c1, hB, if_pos ct]
            have e4 := hrest _ e3
            rw [e4] at KT
            exact KT rfl
          · have e3 : zplF (zpl k) k s o h2 = .inl (zpl k hb (s + 1)).2 := by unfold zplF; rw [if_pos c1, hB, if_neg (zbf cf)]
            rw [show nI (s + 1) - nI 1 = nI s by rw [← nI_add]; exact Int32.add_sub_cancel _ _]
            exact ih (o + 1) _ (by omega) (hx1.trans e3) (fun c i q => (hR c i hb (by omega)).trans ((hbfr c i q).trans (hfr c i q))) ((hR 69 s hb (by omega)).trans (hbs.trans hnx))
    exact main (zcn (h 53 s)) 0 h (by omega) rfl (fun _ _ _ => rfl) (h0 (by omega))
end ZP
set_option maxHeartbeats 1000000 in
theorem c_Model_layPlan (X : zXT) (h : zHp) (g : zLg) (hf0 : zfit h 51 1 8) (hper : zper h) (hpos : zpos h) : zDi X M_Model_layPlan 3 [zR X 51] h g (zI (zb (o_Model_layPlan h).1)) (o_Model_layPlan h).2 g := by
  refine zDi_of "PeriodSlotsModel" prog_9_method_58_code 2 (some .boolean) rfl (by decide) [zO X 51, none] rfl (fun _ q => q) (Nat.le_of_ble_eq_true rfl) ?_
  intro Γ Q C hQ
  refine zr_aload_n C d_X7_layPlan_0 rfl ?_
  refine zr_aload_n C d_X7_layPlan_1 rfl ?_
  refine gf_Model_4 C m757 d_X7_layPlan_2 ?_
  refine zr_aload_n C d_X7_layPlan_5 rfl ?_
  refine zr_callVi (As := []) (st := [zR X 54, zR X 51]) (c := 51) C (c_Model_all X h g ) k_Model_all m901 m903 m25 (by decide) (zC_Model X _ _) rfl rfl (by decide) rfl (Nat.le_of_ble_eq_true rfl) d_X7_layPlan_6 ?_
  refine zr_callVv (As := [zR X 54, .int (o_Model_all h)]) (st := []) (c := 51) C (c_Model_layNear X h g 54 (o_Model_all h) (by decide) hf0) k_Model_layNear m905 m907 m26 (by decide) (zC_Model X _ _) rfl rfl (by decide) rfl (Nat.le_of_ble_eq_true rfl) d_X7_layPlan_9 ?_
  refine zr_iconst C (v := 0) d_X7_layPlan_12 (by decide) ?_
  refine zr_istore_n C [zO X 51, zI 0] d_X7_layPlan_13 (Nat.le_of_ble_eq_true rfl) rfl rfl ?_
  refine zr_aload_n C d_X7_layPlan_14 rfl ?_
  refine gf_Model_30 C m783 d_X7_layPlan_15 ?_
  refine zr_iconst C (v := 0) d_X7_layPlan_18 (by decide) ?_
  refine zr_iconst C (v := (-1)) d_X7_layPlan_19 (by decide) ?_
  refine zr_iast C za_69 0 rfl (by omega) (by decide) d_X7_layPlan_20 ?_
  have e1 : ∀ c i, ¬ (c = 51 ∧ i = 9) → c ≠ 66 → c ≠ 69 → (zup (o_Model_layNear h 54 (o_Model_all h)) 69 0 (-1)) c i = h c i := fun c i q0 q1 q2 => (zup_fr (Or.inl q2)).trans (fr_Model_layNear _ _ q0 q1)
  have hper2 : zper (zup (o_Model_layNear h 54 (o_Model_all h)) 69 0 (-1)) := zper_fr (e1 51 1 (by omega) (by omega) (by omega)) (fun v => e1 53 v (by omega) (by omega) (by omega)) hper
  have hpos2 : zpos (zup (o_Model_layNear h 54 (o_Model_all h)) 69 0 (-1)) := by
    intro v hv2
    rw [e1 51 1 (by omega) (by omega) (by omega)] at hv2
    rw [e1 53 v (by omega) (by omega) (by omega)]
    exact hpos v hv2
  refine zpl_walk C (n := zcn (h 51 1)) hf0.1 (zcn (h 51 1)) 0 _ (by omega) ((e1 51 1 (by omega) (by omega) (by omega)).trans hf0.2) hper2 hpos2 (fun _ => zup_at) (fun ct => ?_) (fun cf => ?_)
  · have ct : (o_Model_layPlan h).1 = true := ct
    have e51 : (o_Model_layPlan h).2 51 1 = nI (zcn (h 51 1)) := (fr_Model_layPlan _ _ (by omega) (by omega) (by omega)).trans hf0.2
    show zV X Γ Q 21 [zO X 51, zI (nI (zcn (h 51 1)))] [] (o_Model_layPlan h).2 g
    refine zr_iload_n C d_X7_layPlan_21 rfl ?_
    refine zr_if_lt C 93 d_X7_layPlan_22 (by decide) (fun c => absurd c (nI_pos (zcn_small _))) (fun _ => ?_)
    refine zr_iload_n C d_X7_layPlan_25 rfl ?_
    refine zr_aload_n C d_X7_layPlan_26 rfl ?_
    refine gf_Model_2 C m755 d_X7_layPlan_27 ?_
    refine zr_icmp_ge C 93 d_X7_layPlan_30 (by decide) (fun _ => ?_) (fun c => absurd (zge_yesN (B := zcn (h 51 1)) e51 (Nat.le_refl _) (zcn_small _)) c)
    refine zr_iload_n C d_X7_layPlan_93 rfl ?_
    refine zr_if_lt C 101 d_X7_layPlan_94 (by decide) (fun c => absurd c (nI_pos (zcn_small _))) (fun _ => ?_)
    refine zr_iconst C (v := 1) d_X7_layPlan_97 (by decide) ?_
    refine zr_goto C 102 d_X7_layPlan_98 (by decide) ?_
    subst hQ
    rw [ct]
    exact zr_iretz C (Or.inr rfl) d_X7_layPlan_102
  · have cf : (o_Model_layPlan h).1 = false := cf
    show zV X Γ Q 21 [zO X 51, zI (nI 0 - nI 1)] [] (o_Model_layPlan h).2 g
    refine zr_iload_n C d_X7_layPlan_21 rfl ?_
    refine zr_if_lt C 93 d_X7_layPlan_22 (by decide) (fun _ => ?_) (fun c => absurd (by decide) c)
    refine zr_iload_n C d_X7_layPlan_93 rfl ?_
    refine zr_if_lt C 101 d_X7_layPlan_94 (by decide) (fun _ => ?_) (fun c => absurd (by decide) c)
    refine zr_iconst C (v := 0) d_X7_layPlan_101 (by decide) ?_
    subst hQ
    rw [cf]
    exact zr_iretz C (Or.inl rfl) d_X7_layPlan_102

theorem d_X7_plan_0 : decode prog_9_method_59_code 0 = .ok (.iload_n 1, 1) := by decide +kernel
theorem d_X7_plan_1 : decode prog_9_method_59_code 1 = .ok (.iconst (-1), 1) := by decide +kernel
theorem d_X7_plan_2 : decode prog_9_method_59_code 2 = .ok (.if_icmp .eq 13, 3) := by decide +kernel
theorem d_X7_plan_5 : decode prog_9_method_59_code 5 = .ok (.aload_n 0, 1) := by decide +kernel
theorem d_X7_plan_6 : decode prog_9_method_59_code 6 = .ok (.iload_n 1, 1) := by decide +kernel
theorem d_X7_plan_7 : decode prog_9_method_59_code 7 = .ok (.invokevirtual 212, 3) := by decide +kernel
theorem d_X7_plan_10 : decode prog_9_method_59_code 10 = .ok (.ifCond .ne 5, 3) := by decide +kernel
theorem d_X7_plan_13 : decode prog_9_method_59_code 13 = .ok (.iconst (-1), 1) := by decide +kernel
theorem d_X7_plan_14 : decode prog_9_method_59_code 14 = .ok (.ireturn, 1) := by decide +kernel
theorem d_X7_plan_15 : decode prog_9_method_59_code 15 = .ok (.aload_n 0, 1) := by decide +kernel
theorem d_X7_plan_16 : decode prog_9_method_59_code 16 = .ok (.invokevirtual 248, 3) := by decide +kernel
theorem d_X7_plan_19 : decode prog_9_method_59_code 19 = .ok (.istore_n 2, 1) := by decide +kernel
theorem d_X7_plan_20 : decode prog_9_method_59_code 20 = .ok (.iload_n 1, 1) := by decide +kernel
theorem d_X7_plan_21 : decode prog_9_method_59_code 21 = .ok (.iconst (-1), 1) := by decide +kernel
theorem d_X7_plan_22 : decode prog_9_method_59_code 22 = .ok (.if_icmp .ne 15, 3) := by decide +kernel
theorem d_X7_plan_25 : decode prog_9_method_59_code 25 = .ok (.iload_n 2, 1) := by decide +kernel
theorem d_X7_plan_26 : decode prog_9_method_59_code 26 = .ok (.ifCond .eq 7, 3) := by decide +kernel
theorem d_X7_plan_29 : decode prog_9_method_59_code 29 = .ok (.iconst 1, 1) := by decide +kernel
theorem d_X7_plan_30 : decode prog_9_method_59_code 30 = .ok (.goto 22, 3) := by decide +kernel
theorem d_X7_plan_33 : decode prog_9_method_59_code 33 = .ok (.iconst 0, 1) := by decide +kernel
theorem d_X7_plan_34 : decode prog_9_method_59_code 34 = .ok (.goto 18, 3) := by decide +kernel
theorem d_X7_plan_37 : decode prog_9_method_59_code 37 = .ok (.iload_n 2, 1) := by decide +kernel
theorem d_X7_plan_38 : decode prog_9_method_59_code 38 = .ok (.ifCond .eq 12, 3) := by decide +kernel
theorem d_X7_plan_41 : decode prog_9_method_59_code 41 = .ok (.aload_n 0, 1) := by decide +kernel
theorem d_X7_plan_42 : decode prog_9_method_59_code 42 = .ok (.getfield 62, 3) := by decide +kernel
theorem d_X7_plan_45 : decode prog_9_method_59_code 45 = .ok (.iload_n 1, 1) := by decide +kernel
theorem d_X7_plan_46 : decode prog_9_method_59_code 46 = .ok (.iaload, 1) := by decide +kernel
theorem d_X7_plan_47 : decode prog_9_method_59_code 47 = .ok (.goto 5, 3) := by decide +kernel
theorem d_X7_plan_50 : decode prog_9_method_59_code 50 = .ok (.bipush (-9), 2) := by decide +kernel
theorem d_X7_plan_52 : decode prog_9_method_59_code 52 = .ok (.ireturn, 1) := by decide +kernel
abbrev M_Model_plan : zMT := (⟨"PeriodSlotsModel", "plan", "(I)I"⟩, prog_9_method_59_code, 3, (some .int))
theorem k_Model_plan : zcall M_Model_plan 1 := ⟨zU_in (i := 1050) (by decide +kernel) rfl, m62, ⟨by decide, by decide, by decide +kernel⟩, by decide⟩
def o_Model_plan (h : zHp) (s : Int32) : Int32 × zHp :=
  (if s = (-1) then ((zb ((o_Model_layPlan h).1)), ((o_Model_layPlan h).2)) else (if (o_Model_isStation h s) = true then ((if ((o_Model_layPlan h).1) = true then (((o_Model_layPlan h).2) 69 (zcn s)) else (-9)), ((o_Model_layPlan h).2)) else ((-1), h)))
theorem fr_Model_plan {h : zHp} {s : Int32} (c k : Nat) (q0 : ¬ (c = 51 ∧ k = 9)) (q1 : c ≠ 66) (q2 : c ≠ 69) : (o_Model_plan h s).2 c k = h c k := by
  unfold o_Model_plan
  by_cases f1 : s = (-1)
  · rw [if_pos f1]
    try dsimp only
    first | done | exact (fr_Model_layPlan _ _ (by assumption) (by assumption) (by assumption))
  · rw [if_neg f1]
    by_cases f2 : (o_Model_isStation h s) = true
    · rw [if_pos f2]
      try dsimp only
      first | done | exact (fr_Model_layPlan _ _ (by assumption) (by assumption) (by assumption))
    · rw [if_neg f2]
      try dsimp only
      first | done | exact rfl
set_option maxHeartbeats 400000 in
set_option maxRecDepth 20000 in
theorem c_Model_plan (X : zXT) (h : zHp) (g : zLg) (s : Int32) (hf0 : zfit h 51 1 8) (hper : zper h) (hpos : zpos h) : zDi X M_Model_plan 4 [zR X 51, .int s] h g (zI ((o_Model_plan h s).1)) ((o_Model_plan h s).2) g := by
  have hf0_1 := hf0.1
  refine zDi_of "PeriodSlotsModel" prog_9_method_59_code 3 (some .int) rfl (by decide) [zO X 51, zI s, none] rfl (fun _ q => q) (Nat.le_of_ble_eq_true rfl) ?_
  intro Γ Q C hQ
  refine zr_iload_n C d_X7_plan_0 rfl ?_
  refine zr_iconst C (v := (-1)) d_X7_plan_1 (by decide) ?_
  refine zr_icmp_eq C 15 d_X7_plan_2 (by decide) (fun c2 => ?_) (fun c2 => ?_)
  · refine zr_aload_n C d_X7_plan_15 rfl ?_
    refine zr_callVi (As := []) (st := []) (c := 51) C (c_Model_layPlan X h g hf0 hper hpos) k_Model_layPlan m1051 m1053 m46 (by decide) (zC_Model X _ _) rfl rfl (by decide) rfl (Nat.le_of_ble_eq_true rfl) d_X7_plan_16 ?_
    refine zr_vz (fun y1 ey1 => ?_)
    refine zr_h (fun h2 eh2 => ?_)
    refine zr_istore_n C [zO X 51, zI s, zI (zb y1)] d_X7_plan_19 (Nat.le_of_ble_eq_true rfl) rfl rfl ?_
    refine zr_iload_n C d_X7_plan_20 rfl ?_
    refine zr_iconst C (v := (-1)) d_X7_plan_21 (by decide) ?_
    refine zr_icmp_ne C 37 d_X7_plan_22 (by decide) (fun c => absurd c2 c) (fun _ => ?_)
    refine zr_iload_n C d_X7_plan_25 rfl ?_
    suffices hJ26 : ∀ (y3 : Bool), y1 = y3 → zV X Γ Q 52 [none, none, none] [.int (zb y3)] h2 g by
      refine zr_ifz_eq C 33 d_X7_plan_26 (by decide) (fun c26 => ?_) (fun c26 => ?_)
      · refine zr_iconst C (v := 0) d_X7_plan_33 (by decide) ?_
        refine zr_goto C 52 d_X7_plan_34 (by decide) ?_
        refine zr_lv [none, none, none] (by simp [zle]) ?_
        exact hJ26 false (by simp [c26])
      · refine zr_iconst C (v := 1) d_X7_plan_29 (by decide) ?_
        refine zr_goto C 52 d_X7_plan_30 (by decide) ?_
        refine zr_lv [none, none, none] (by simp [zle]) ?_
        exact hJ26 true (by simp [c26])
    intro y3 ey3
    have eR : o_Model_plan h s = ((zb y3), h2) := (by subst ey3 eh2 ey1; unfold o_Model_plan; rw [if_pos c2])
    subst hQ
    exact zTQ_Ih eR (zr_ireti C d_X7_plan_52)
  · refine zr_aload_n C d_X7_plan_5 rfl ?_
    refine zr_iload_n C d_X7_plan_6 rfl ?_
    refine zr_callVi (As := [.int s]) (st := []) (c := 51) C (c_Model_isStation X h g s) k_Model_isStation m980 m982 m40 (by decide) (zC_Model X _ _) rfl rfl (by decide) rfl (Nat.le_of_ble_eq_true rfl) d_X7_plan_7 ?_
    refine zr_ifz_ne C 15 d_X7_plan_10 (by decide) (fun c10 => ?_) (fun c10 => ?_)
    · have ex4 := zist hf0 c10
      have ex4_2 := ex4.2
      have ex4_b := (hf0).1
      refine zr_aload_n C d_X7_plan_15 rfl ?_
      refine zr_callVi (As := []) (st := []) (c := 51) C (c_Model_layPlan X h g hf0 hper hpos) k_Model_layPlan m1051 m1053 m46 (by decide) (zC_Model X _ _) rfl rfl (by decide) rfl (Nat.le_of_ble_eq_true rfl) d_X7_plan_16 ?_
      refine zr_vz (fun y5 ey5 => ?_)
      refine zr_h (fun h6 eh6 => ?_)
      refine zr_istore_n C [zO X 51, zI s, zI (zb y5)] d_X7_plan_19 (Nat.le_of_ble_eq_true rfl) rfl rfl ?_
      refine zr_iload_n C d_X7_plan_20 rfl ?_
      refine zr_iconst C (v := (-1)) d_X7_plan_21 (by decide) ?_
      refine zr_icmp_ne C 37 d_X7_plan_22 (by decide) (fun _ => ?_) (fun c => absurd c c2)
      refine zr_iload_n C d_X7_plan_37 rfl ?_
      suffices hJ38 : ∀ (y7 : Int32), (if y5 = true then (h6 69 (zcn s)) else (-9)) = y7 → zV X Γ Q 52 [none, none, none] [.int y7] h6 g by
        refine zr_ifz_eq C 50 d_X7_plan_38 (by decide) (fun c38 => ?_) (fun c38 => ?_)
        · refine zr_bipush C (v := (-9)) d_X7_plan_50 (by decide) ?_
          refine zr_lv [none, none, none] (by simp [zle]) ?_
          exact hJ38 (-9) (((if_neg (zbf c38))))
        · refine zr_aload_n C d_X7_plan_41 rfl ?_
          refine gf_Model_30 C m783 d_X7_plan_42 ?_
          refine zr_iload_n C d_X7_plan_45 rfl ?_
          refine zr_iald C za_69 (zcn s) (zix ex4.1) (by omega) (by decide) d_X7_plan_46 ?_
          refine zr_goto C 52 d_X7_plan_47 (by decide) ?_
          refine zr_lv [none, none, none] (by simp [zle]) ?_
          exact hJ38 (h6 69 (zcn s)) (((if_pos c38)))
      intro y7 ey7
      have eR : o_Model_plan h s = (y7, h6) := (by subst ey7 eh6 ey5; unfold o_Model_plan; rw [if_neg c2, if_pos c10])
      subst hQ
      exact zTQ_Ih eR (zr_ireti C d_X7_plan_52)
    · refine zr_iconst C (v := (-1)) d_X7_plan_13 (by decide) ?_
      have eR : o_Model_plan h s = ((-1), h) := (by unfold o_Model_plan; rw [if_neg c2, if_neg (zbf c10)])
      subst hQ
      exact zTQ_Ih eR (zr_ireti C d_X7_plan_14)
