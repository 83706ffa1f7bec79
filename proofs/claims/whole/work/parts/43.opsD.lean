/-! The calls: slots, observations, the random state, the text's length, about, station, ahead. -/
theorem q_giveC {C : zHp} {d a : Nat} (hd : 14 < d) : ∀ c j, (zup (zcp (zcp (zcp C d (3 + 2) a 0 8) d (3 + 3) (a + 8) 0 8) d (3 + 4) (a + 16) 0 8) 3 1 (C d (a + 24))) c j = if c = 3 ∧ j = 1 then C d (a + 24) else if c = 7 ∧ j < 8 then C d (a + 16 + j) else if c = 6 ∧ j < 8 then C d (a + 8 + j) else if c = 5 ∧ j < 8 then C d (a + j) else C c j := by
  have one : ∀ (t : zHp) (e p : Nat) (c2 j : Nat), e ≠ d → zcp t d e p 0 8 c2 j = if c2 = e ∧ j < 8 then t d (p + j) else t c2 j := by
    intro t e p c2 j hd
    by_cases h1 : c2 = e
    · subst h1
      rw [zcp_eq]
      by_cases h2 : j < 8
      · rw [if_pos ⟨rfl, h2⟩, pk_cpy_in (by omega) (by omega), Nat.sub_zero]
      · rw [if_neg (by omega), pk_cpy_out (by omega)]
    · rw [zcp_fr h1, if_neg (by omega)]
  intro c j
  by_cases q1 : c = 3 ∧ j = 1
  · obtain ⟨rfl, rfl⟩ := q1
    rw [zup_at, if_pos ⟨rfl, rfl⟩]
  · rw [zup_fr (by omega), if_neg q1, one _ _ _ _ _ (by omega)]
    by_cases q2 : c = 7 ∧ j < 8
    · rw [if_pos (c := c = 3 + 4 ∧ j < 8) q2, if_pos q2, one _ _ _ _ _ (by omega), if_neg (by omega), one _ _ _ _ _ (by omega), if_neg (by omega)]
    · rw [if_neg (c := c = 3 + 4 ∧ j < 8) q2, if_neg q2, one _ _ _ _ _ (by omega)]
      by_cases q3 : c = 6 ∧ j < 8
      · rw [if_pos (c := c = 3 + 3 ∧ j < 8) q3, if_pos q3, one _ _ _ _ _ (by omega), if_neg (by omega)]
      · rw [if_neg (c := c = 3 + 3 ∧ j < 8) q3, if_neg q3, one _ _ _ _ _ (by omega)]
theorem q_slot {s : Int32} : (∃ i, i < 2 ∧ s = nI i ∧ zcn s = i ∧ ¬ s < 0 ∧ s < 2 ∧ o_Model_in (Int32.toInt64 s) 0 1 = true) ∨ (¬ o_Model_in (Int32.toInt64 s) 0 1 = true ∧ (s < 0 ∨ ¬ s < 2)) := by
  have e0 : (0 : Int32).toInt = 0 := rfl
  have e2 : (2 : Int32).toInt = 2 := rfl
  have e9 : (0 : Int64).toInt = 0 := rfl
  have e7 : (1 : Int64).toInt = 1 := rfl
  by_cases c1 : s < 0
  · refine Or.inr ⟨fun q => ?_, Or.inl c1⟩
    rw [q_inI] at q
    rw [Int32.lt_iff_toInt_lt] at c1
    omega
  · by_cases c2 : s < 2
    · have c3 : ¬ nI 2 ≤ s := Int32.not_le.mpr c2
      obtain ⟨i, hi, e⟩ := q_nat (N := 2) c1 c3 (by decide)
      refine Or.inl ⟨i, hi, e, by rw [e, zcn_nI (by omega)], c1, c2, ?_⟩
      rw [q_inI, e, nI_toInt (by omega)]
      omega
    · refine Or.inr ⟨fun q => ?_, Or.inr c2⟩
      rw [q_inI] at q
      rw [Int32.lt_iff_toInt_lt] at c2
      omega
section ZO
variable {K : Nat} {C M : zHp} {x y : Int64}
theorem op_keep (H : zREL K C M x y) (s : Int32) : (o_Slots_keep C s).1 = (o_Model_keep M s).1 ∧ zREL (K + 40) (o_Slots_keep C s).2 (o_Model_keep M s).2 x y := by
  obtain ⟨n, R, h2, h3, h4, h5, h6, h7⟩ := id H
  have h8 := m_8 R
  unfold o_Slots_keep o_Model_keep
  rcases q_slot (s := s) with ⟨i, hi, es, zs, c1, c2, c3⟩ | ⟨c3, c1⟩
  · rw [if_neg c1, if_pos c2, if_pos c3]
    dsimp only
    refine ⟨by rw [R.1.1, R.1.2.1], ?_⟩
    have hC : ∀ c j, o_Shelf44_put C s 3 c j = if c = 44 ∧ j = 1 then C 44 1 ||| zshl 1 (nI i) else if c = 45 ∧ j = i * 25 + 24 then C 3 1 else if c = 45 ∧ i * 25 + 16 ≤ j ∧ j < i * 25 + 24 then C 7 (j - (i * 25 + 16)) else if c = 45 ∧ i * 25 + 8 ≤ j ∧ j < i * 25 + 16 then C 6 (j - (i * 25 + 8)) else if c = 45 ∧ i * 25 ≤ j ∧ j < i * 25 + 8 then C 5 (j - i * 25) else C c j := by
      intro c j
      unfold o_Shelf44_put
      rw [if_neg c1, h6.1, if_pos (show s < nI 2 from c2), zs, es]
      by_cases q2 : c = 44 ∧ j = 1
      · obtain ⟨rfl, rfl⟩ := q2
        rw [zup_at, if_pos ⟨rfl, rfl⟩]
      · rw [zup_fr (by omega), if_neg q2, q_put (by decide)]
    have hM : ∀ c j, (zrep (fun (i21_3 : Nat) (s21_3 : zHp) => (zup s21_3 58 ((25 * (zcn s)) + i21_3) (M 54 i21_3))) (zup M 59 (zcn s) 1) 25) c j = if c = 58 ∧ 25 * i ≤ j ∧ j < 25 * i + 25 then M 54 (j - 25 * i) else if c = 59 ∧ j = i then 1 else M c j := by
      intro c j
      rw [zs, q_rowS (h := zup M 59 i 1) (c := 58) (m := 25 * i) (F := fun q _ => M 54 q) (G := fun q => M 54 q) 25 (fun _ _ _ _ => rfl)]
      by_cases q1 : c = 58 ∧ 25 * i ≤ j ∧ j < 25 * i + 25
      · rw [if_pos q1, if_pos q1]
      · rw [if_neg q1, if_neg q1]
        by_cases q2 : c = 59 ∧ j = i
        · obtain ⟨rfl, rfl⟩ := q2
          rw [zup_at, if_pos ⟨rfl, rfl⟩]
        · rw [zup_fr (by omega), if_neg q2]
    generalize o_Shelf44_put C s 3 = C1 at hC ⊢
    generalize (zrep (fun (i21_3 : Nat) (s21_3 : zHp) => (zup s21_3 58 ((25 * (zcn s)) + i21_3) (M 54 i21_3))) (zup M 59 (zcn s) 1) 25) = M1 at hM ⊢
    have cc : ∀ c j, c ≠ 45 → ¬ (c = 44 ∧ j = 1) → C1 c j = C c j := fun c j q1 q2 => by rw [hC, if_neg (by omega), if_neg (by omega), if_neg (by omega), if_neg (by omega), if_neg (by omega)]
    have mm : ∀ c j, c ≠ 58 → c ≠ 59 → M1 c j = M c j := fun c j q1 q2 => by rw [hM, if_neg (by omega), if_neg (by omega)]
    refine ⟨n, ?_, ?_, ?_, ?_, ?_, ⟨?_, fun a ha => ⟨?_, fun hb => ?_⟩⟩, h7⟩
    · refine zmr_mono (K := K) (by omega) (zmr_frM (mm _ _ (by omega) (by omega)) (fun v _ => mm _ _ (by omega) (by omega)) (fun v _ => ⟨mm _ _ (by omega) (by omega), mm _ _ (by omega) (by omega), mm _ _ (by omega) (by omega)⟩) (mm _ _ (by omega) (by omega)) ?_)
      exact zmr_frC (fun j hj => cc _ _ (by omega) (by omega)) (fun i v h1 h2 => cc _ _ (by omega) (by omega)) R
    · exact zTXT_fr (cc _ _ (by omega) (by omega)) (fun j => cc _ _ (by omega) (by omega)) (mm _ _ (by omega) (by omega)) (fun j => mm _ _ (by omega) (by omega)) h2
    · exact zfit_fr (mm _ _ (by omega) (by omega)) h3
    · exact zOBS_fr (cc _ _ (by omega) (by omega)) (fun j => ⟨cc _ _ (by omega) (by omega), cc _ _ (by omega) (by omega), cc _ _ (by omega) (by omega)⟩) (mm _ _ (by omega) (by omega)) (fun j => ⟨mm _ _ (by omega) (by omega), mm _ _ (by omega) (by omega), mm _ _ (by omega) (by omega)⟩) h4
    · exact zACT_mono (by omega) (zACT_fr h8 (cc _ _ (by omega) (by omega)) (cc _ _ (by omega) (by omega)) (cc _ _ (by omega) (by omega)) (cc _ _ (by omega) (by omega)) (fun j => cc _ _ (by omega) (by omega)) (mm _ _ (by omega) (by omega)) (mm _ _ (by omega) (by omega)) (fun j => mm _ _ (by omega) (by omega)) (fun v _ => mm _ _ (by omega) (by omega)) h5)
    · exact (cc _ _ (by omega) (by omega)).trans h6.1
    · rw [hM, if_neg (by omega), hC, if_pos (c := 44 = 44 ∧ 1 = 1) ⟨rfl, rfl⟩, b_or, q_one (by omega) (by omega)]
      by_cases q : a = i
      · subst q
        rw [if_pos ⟨rfl, rfl⟩, decide_eq_true (rfl : a = a), Bool.or_true]
        rfl
      · rw [if_neg (by omega), decide_eq_false q, Bool.or_false]
        exact (h6.2 a ha).1
    · by_cases q : a = i
      · subst q
        refine zsr_mono (by omega) (q_lay R (fun v hv => ⟨?_, ?_, ?_⟩) ?_ (fun j hj => ?_) (fun v hv => ?_))
        · rw [hC, if_neg (by omega), if_neg (by omega), if_neg (by omega), if_neg (by omega), if_pos ⟨rfl, by omega, by omega⟩, show 25 * a + v - a * 25 = v by omega]
        · rw [hC, if_neg (by omega), if_neg (by omega), if_neg (by omega), if_pos ⟨rfl, by omega, by omega⟩, show 25 * a + 8 + v - (a * 25 + 8) = v by omega]
        · rw [hC, if_neg (by omega), if_neg (by omega), if_pos ⟨rfl, by omega, by omega⟩, show 25 * a + 16 + v - (a * 25 + 16) = v by omega]
        · rw [hC, if_neg (by omega), if_pos ⟨rfl, by omega⟩]
        · rw [hM, if_pos ⟨rfl, by omega, by omega⟩, show 25 * a + j - 25 * a = j by omega]
        · exact mm _ _ (by omega) (by omega)
      · rw [hC, if_pos ⟨rfl, rfl⟩, b_or, q_one (by omega) (by omega), decide_eq_false q, Bool.or_false] at hb
        refine zsr_mono (by omega) (zsr_fr (fun j h1 h2 => ?_) (fun j h1 h2 => ?_) (fun v _ => mm _ _ (by omega) (by omega)) h8 ((h6.2 a ha).2 hb))
        · rw [hC, if_neg (by omega), if_neg (by omega), if_neg (by omega), if_neg (by omega), if_neg (by omega)]
        · rw [hM, if_neg (by omega), if_neg (by omega)]
  · rw [if_neg c3]
    rcases c1 with c1 | c1
    · rw [if_pos c1]
      exact ⟨rfl, zREL_same H⟩
    · by_cases c2 : s < 0
      · rw [if_pos c2]
        exact ⟨rfl, zREL_same H⟩
      · rw [if_neg c2, if_neg c1]
        exact ⟨rfl, zREL_same H⟩
theorem op_again (H : zREL K C M x y) (hK : K < 2 ^ 17) (s : Int32) : (o_Slots_again C s).1 = (o_Model_again M s).1 ∧ zREL (K + 40) (o_Slots_again C s).2 (o_Model_again M s).2 x y := by
  obtain ⟨n, R, h2, h3, h4, h5, h6, h7⟩ := id H
  have h8 := m_8 R
  unfold o_Slots_again o_Model_again
  rcases q_slot (s := s) with ⟨i, hi, es, zs, c1, c2, c3⟩ | ⟨c3, c1⟩
  · rw [if_neg c1, if_pos c2, if_pos c3, zs]
    obtain ⟨k1, k2⟩ := h6.2 i hi
    have hold : o_Shelf44_holds C s = bt (C 44 1) i := by
      unfold o_Shelf44_holds
      rw [h6.1, decide_eq_false c1, decide_eq_false (show ¬ nI 2 ≤ s from Int32.not_le.mpr c2), es, q_has (by omega)]
      rfl
    by_cases hb : bt (C 44 1) i = true
    · rw [if_pos (hold.trans hb), if_neg (by rw [k1, hb]; decide)]
      dsimp only
      refine ⟨by rw [R.1.1, R.1.2.1], ?_⟩
      unfold o_Shelf44_giveBack
      rw [if_pos (hold.trans hb), zs]
      have hC1 := q_giveC (C := C) (d := 45) (a := i * 25) (by decide)
      generalize (zup (zcp (zcp (zcp C 45 (3 + 2) (i * 25) 0 8) 45 (3 + 3) (i * 25 + 8) 0 8) 45 (3 + 4) (i * 25 + 16) 0 8) 3 1 (C 45 (i * 25 + 24))) = C1 at hC1 ⊢
      have hM1 : ∀ c j, (zrep (fun (i26_2 : Nat) (s26_2 : zHp) => (zup s26_2 54 i26_2 (M 58 ((25 * i) + i26_2)))) M 25) c j = if c = 54 ∧ j < 25 then M 58 (25 * i + j) else M c j := fun c j => q_row (h := M) (c := 54) (F := fun q _ => M 58 ((25 * i) + q)) (G := fun q => M 58 ((25 * i) + q)) 25 (fun _ _ _ _ => rfl) c j
      generalize (zrep (fun (i26_2 : Nat) (s26_2 : zHp) => (zup s26_2 54 i26_2 (M 58 ((25 * i) + i26_2)))) M 25) = M1 at hM1 ⊢
      have R2 := q_back (C1 := C1) (M1 := M1) R (by omega) (k2 hb) (fun v hv => ⟨by rw [hC1, if_neg (by omega), if_neg (by omega), if_neg (by omega), if_pos ⟨rfl, hv⟩, Nat.mul_comm], by rw [hC1, if_neg (by omega), if_neg (by omega), if_pos ⟨rfl, hv⟩, Nat.mul_comm], by rw [hC1, if_neg (by omega), if_pos ⟨rfl, hv⟩, Nat.mul_comm]⟩) (by rw [hC1, if_pos ⟨rfl, rfl⟩, Nat.mul_comm]) (by rw [hC1, if_neg (by omega), if_neg (by omega), if_neg (by omega), if_neg (by omega)]) (fun v => ⟨by rw [hC1, if_neg (by omega), if_neg (by omega), if_neg (by omega), if_neg (by omega)], by rw [hC1, if_neg (by omega), if_neg (by omega), if_neg (by omega), if_neg (by omega)]⟩) (fun j hj => by rw [hM1, if_pos ⟨rfl, hj⟩]) (fun v hv => by rw [hM1, if_neg (by omega)]) (by rw [hM1, if_neg (by omega)])
      unfold o_Acts_forget
      have cc : ∀ c j, (c < 3 ∨ 13 < c) → ¬ (c = 41 ∧ j = 1) → zup (o_Mesh_markTicks (o_Mesh_relate C1 3) 3) 41 1 0 c j = C c j := fun c j q q2 => by
        rw [zup_fr (by omega), fr_Mesh_markTicks _ _ (by omega) (by omega), fr_Mesh_relate _ _ (by omega) (by omega) (by omega), hC1, if_neg (by omega), if_neg (by omega), if_neg (by omega), if_neg (by omega)]
      have mm : ∀ c j, c ≠ 54 → ¬ (c = 51 ∧ j = 2) → zup M1 51 2 0 c j = M c j := fun c j q1 q2 => by rw [zup_fr (by omega), hM1, if_neg (by omega)]
      refine ⟨n, ?_, ?_, ?_, ?_, ?_, ?_, h7⟩
      · refine zmr_mono (K := K) (by omega) (zmr_frM (zup_fr (by omega)) (fun v _ => zup_fr (by omega)) (fun v _ => ⟨zup_fr (by omega), zup_fr (by omega), zup_fr (by omega)⟩) (zup_fr (by omega)) ?_)
        exact zmr_frC (fun j hj => zup_fr (by omega)) (fun i v h1 h2 => zup_fr (by omega)) R2
      · exact zTXT_fr (cc _ _ (by omega) (by omega)) (fun j => cc _ _ (by omega) (by omega)) (mm _ _ (by omega) (by omega)) (fun j => mm _ _ (by omega) (by omega)) h2
      · exact zfit_fr (mm _ _ (by omega) (by omega)) h3
      · exact zOBS_fr (cc _ _ (by omega) (by omega)) (fun j => ⟨cc _ _ (by omega) (by omega), cc _ _ (by omega) (by omega), cc _ _ (by omega) (by omega)⟩) (mm _ _ (by omega) (by omega)) (fun j => ⟨mm _ _ (by omega) (by omega), mm _ _ (by omega) (by omega), mm _ _ (by omega) (by omega)⟩) h4
      · obtain ⟨w, s2, hw, hs, a1, a2, a3, a4, a5, rows⟩ := h5
        exact ⟨w, 0, hw, by omega, (cc _ _ (by omega) (by omega)).trans a1, (mm _ _ (by omega) (by omega)).trans a2, zup_at, zup_at, (cc _ _ (by omega) (by omega)).trans a5, fun i hi => absurd hi (by omega)⟩
      · exact zSLO_mono (by omega) (zSLO_fr h8 (cc _ _ (by omega) (by omega)) (cc _ _ (by omega) (by omega)) (fun j => cc _ _ (by omega) (by omega)) (fun j => mm _ _ (by omega) (by omega)) (fun j => mm _ _ (by omega) (by omega)) (fun v _ => mm _ _ (by omega) (by omega)) h6)
    · rw [if_neg (by rw [hold]; exact hb), if_pos (by rw [k1, show bt (C 44 1) i = false by simpa using hb]; rfl)]
      exact ⟨rfl, zREL_same H⟩
  · rw [if_neg c3]
    rcases c1 with c1 | c1
    · rw [if_pos c1]
      exact ⟨rfl, zREL_same H⟩
    · by_cases c2 : s < 0
      · rw [if_pos c2]
        exact ⟨rfl, zREL_same H⟩
      · rw [if_neg c2, if_neg c1]
        exact ⟨rfl, zREL_same H⟩
/-- other observations, or texts -/
theorem zREL_ot {C2 M2 : zHp} (H : zREL K C M x y) (eC : ∀ c j, ¬ (c = 1 ∧ j = 0) → c ≠ 2 → ¬ (46 ≤ c ∧ c ≤ 49) → C2 c j = C c j) (eM : ∀ c j, ¬ (c = 51 ∧ (j = 0 ∨ j = 4)) → c ≠ 52 → ¬ (60 ≤ c ∧ c ≤ 62) → M2 c j = M c j) (o : zOBS C2 M2) (t : zTXT C2 M2) : zREL (K + 40) C2 M2 x y := by
  obtain ⟨n, R, h2, h3, h4, h5, h6, h7⟩ := H
  have h8 := m_8 R
  refine ⟨n, ?_, t, ?_, o, ?_, ?_, h7⟩
  · refine zmr_mono (K := K) (by omega) (zmr_frM (eM _ _ (by omega) (by omega) (by omega)) (fun v _ => eM _ _ (by omega) (by omega) (by omega)) (fun v _ => ⟨eM _ _ (by omega) (by omega) (by omega), eM _ _ (by omega) (by omega) (by omega), eM _ _ (by omega) (by omega) (by omega)⟩) (eM _ _ (by omega) (by omega) (by omega)) ?_)
    exact zmr_frC (fun j hj => eC _ _ (by omega) (by omega) (by omega)) (fun i v h1 h2 => eC _ _ (by omega) (by omega) (by omega)) R
  · exact zfit_fr (eM _ _ (by omega) (by omega) (by omega)) h3
  · exact zACT_mono (by omega) (zACT_fr h8 (eC _ _ (by omega) (by omega) (by omega)) (eC _ _ (by omega) (by omega) (by omega)) (eC _ _ (by omega) (by omega) (by omega)) (eC _ _ (by omega) (by omega) (by omega)) (fun j => eC _ _ (by omega) (by omega) (by omega)) (eM _ _ (by omega) (by omega) (by omega)) (eM _ _ (by omega) (by omega) (by omega)) (fun j => eM _ _ (by omega) (by omega) (by omega)) (fun v _ => eM _ _ (by omega) (by omega) (by omega)) h5)
  · exact zSLO_mono (by omega) (zSLO_fr h8 (eC _ _ (by omega) (by omega) (by omega)) (eC _ _ (by omega) (by omega) (by omega)) (fun j => eC _ _ (by omega) (by omega) (by omega)) (fun j => eM _ _ (by omega) (by omega) (by omega)) (fun j => eM _ _ (by omega) (by omega) (by omega)) (fun v _ => eM _ _ (by omega) (by omega) (by omega)) h6)
theorem op_unsee (H : zREL K C M x y) : (o_Slots_unsee C).1 = (o_Model_unsee M).1 ∧ zREL (K + 40) (o_Slots_unsee C).2 (o_Model_unsee M).2 x y := by
  obtain ⟨n, R, h2, h3, h4, h5, h6, h7⟩ := id H
  obtain ⟨q, hq, o1, o2, o3⟩ := h4
  unfold o_Slots_unsee o_Model_unsee
  refine ⟨by rw [o1, o2], zREL_ot (C2 := zup C 46 0 0) (M2 := zup M 51 4 0) H (fun c j q1 q2 q3 => zup_fr (by omega)) (fun c j q1 q2 q3 => zup_fr (by omega)) ⟨0, by omega, zup_at, zup_at, fun i hi => absurd hi (by omega)⟩ (zTXT_fr (C := C) (M := M) (zup_fr (by omega)) (fun j => zup_fr (by omega)) (zup_fr (by omega)) (fun j => zup_fr (by omega)) h2)⟩
theorem op_wipe (H : zREL K C M x y) : (o_Slots_wipe C).1 = (o_Model_wipe M).1 ∧ zREL (K + 40) (o_Slots_wipe C).2 (o_Model_wipe M).2 x y := by
  obtain ⟨n, R, h2, h3, h4, h5, h6, h7⟩ := id H
  obtain ⟨L, hL, t1, t2, t3⟩ := h2
  unfold o_Slots_wipe o_Model_wipe
  refine ⟨by rw [t1, t2], zREL_ot (C2 := zup C 1 0 0) (M2 := zup M 51 0 0) H (fun c j q1 q2 q3 => zup_fr (by omega)) (fun c j q1 q2 q3 => zup_fr (by omega)) (zOBS_fr (C := C) (M := M) (zup_fr (by omega)) (fun j => ⟨zup_fr (by omega), zup_fr (by omega), zup_fr (by omega)⟩) (zup_fr (by omega)) (fun j => ⟨zup_fr (by omega), zup_fr (by omega), zup_fr (by omega)⟩) h4) ⟨0, by omega, zup_at, zup_at, fun i hi => absurd hi (by omega)⟩⟩
theorem op_write (H : zREL K C M x y) (a : Int32) : (o_Slots_write C a).1 = (o_Model_write M a).1 ∧ zREL (K + 40) (o_Slots_write C a).2 (o_Model_write M a).2 x y := by
  obtain ⟨n, R, h2, h3, h4, h5, h6, h7⟩ := id H
  obtain ⟨L, hL, t1, t2, t3⟩ := h2
  unfold o_Slots_write o_Model_write
  have e0 : (0 : Int32).toInt = 0 := rfl
  have e2 : (255 : Int32).toInt = 255 := rfl
  have e9 : (0 : Int64).toInt = 0 := rfl
  have e7 : (255 : Int64).toInt = 255 := rfl
  by_cases c1 : a < 0
  · rw [if_pos c1, if_neg (fun q => by rw [q_inI] at q; rw [Int32.lt_iff_toInt_lt] at c1; omega)]
    exact ⟨rfl, zREL_same H⟩
  · rw [if_neg c1]
    by_cases c2 : a ≤ 255
    · have c3 : ¬ nI 256 ≤ a := fun z => by
        rw [Int32.le_iff_toInt_le] at c2 z
        rw [nI_toInt (by omega)] at z
        omega
      obtain ⟨m, hm, em⟩ := q_nat (N := 256) c1 c3 (by decide)
      rw [if_pos c2, if_pos (c := o_Model_in (Int32.toInt64 a) 0 255 = true) (by rw [q_inI, em, nI_toInt (by omega)]; omega), t1, t2]
      by_cases c4 : L = 110
      · subst c4
        rw [if_neg (show ¬ nI 110 < 110 from nI_nlt (a := 110) (b := 110) (by omega) (by omega)), if_pos (show nI 110 = 110 from rfl)]
        exact ⟨rfl, zREL_same H⟩
      · rw [if_pos (show nI L < 110 from nI_lt (a := L) (b := 110) (by omega) (by omega)), if_neg (show ¬ nI L = 110 from fun z => c4 ((nI_eq (a := L) (b := 110) (by omega) (by omega)).mp z))]
        unfold o_Text_append
        rw [t1, if_neg (nI_ge (a := L) (b := 110) (by omega) (by omega)), zcn_nI (by omega), nI_1]
        dsimp only
        refine ⟨zup_at, zREL_ot (C2 := zup (zup C 2 L a) 1 0 (nI (L + 1))) (M2 := zup (zup M 52 L a) 51 0 (nI (L + 1))) H (fun c j q1 q2 q3 => (zup_fr (by omega)).trans (zup_fr (by omega))) (fun c j q1 q2 q3 => (zup_fr (by omega)).trans (zup_fr (by omega))) (zOBS_fr (C := C) (M := M) ((zup_fr (by omega)).trans (zup_fr (by omega))) (fun j => ⟨(zup_fr (by omega)).trans (zup_fr (by omega)), (zup_fr (by omega)).trans (zup_fr (by omega)), (zup_fr (by omega)).trans (zup_fr (by omega))⟩) ((zup_fr (by omega)).trans (zup_fr (by omega))) (fun j => ⟨(zup_fr (by omega)).trans (zup_fr (by omega)), (zup_fr (by omega)).trans (zup_fr (by omega)), (zup_fr (by omega)).trans (zup_fr (by omega))⟩) h4) ⟨L + 1, by omega, zup_at, zup_at, fun i hi => ?_⟩⟩
        by_cases q : i = L
        · have w1 : zup (zup M 52 L a) 51 0 (nI (L + 1)) 52 i = a := by rw [zup_fr (by omega), q, zup_at]
          have w2 : zup (zup C 2 L a) 1 0 (nI (L + 1)) 2 i = a := by rw [zup_fr (by omega), q, zup_at]
          rw [w1, w2]
          exact ⟨rfl, m, hm, em⟩
        · have w1 : zup (zup M 52 L a) 51 0 (nI (L + 1)) 52 i = M 52 i := by rw [zup_fr (by omega), zup_fr (by omega)]
          have w2 : zup (zup C 2 L a) 1 0 (nI (L + 1)) 2 i = C 2 i := by rw [zup_fr (by omega), zup_fr (by omega)]
          rw [w1, w2]
          exact t3 i (by omega)
    · rw [if_neg c2, if_neg (fun q => by rw [q_inI] at q; rw [Int32.le_iff_toInt_le] at c2; omega)]
      exact ⟨rfl, zREL_same H⟩
theorem op_see (H : zREL K C M x y) (s t w : Int32) : (o_Slots_see C s t w).1 = (o_Model_see M s t w).1 ∧ zREL (K + 40) (o_Slots_see C s t w).2 (o_Model_see M s t w).2 x y := by
  obtain ⟨n, R, h2, h3, h4, h5, h6, h7⟩ := id H
  have h8 := m_8 R
  obtain ⟨q, hq, o1, o2, o3⟩ := h4
  unfold o_Slots_see o_Model_see
  rw [m_exE R]
  have e0 : (0 : Int32).toInt = 0 := rfl
  have e8 : (8 : Int32).toInt = 8 := rfl
  have e2 : (2 : Int32).toInt = 2 := rfl
  have e9 : (0 : Int64).toInt = 0 := rfl
  have e7 : (7 : Int64).toInt = 7 := rfl
  have e6 : (2 : Int64).toInt = 2 := rfl
  by_cases c1 : o_Model_isStation M s = true
  · rw [if_pos c1, if_pos c1]
    obtain ⟨v, hv, ev, zv⟩ := m_exT R c1
    by_cases c2 : t < 0
    · rw [if_pos c2, if_neg (fun z => by rw [q_inI] at z; rw [Int32.lt_iff_toInt_lt] at c2; omega)]
      exact ⟨rfl, zREL_same H⟩
    · rw [if_neg c2]
      by_cases c3 : 8 ≤ t
      · rw [if_pos c3, if_neg (fun z => by rw [q_inI] at z; rw [Int32.le_iff_toInt_le] at c3; omega)]
        exact ⟨rfl, zREL_same H⟩
      · obtain ⟨tn, htn, et⟩ := q_nat (N := 8) c2 c3 (by decide)
        rw [if_neg c3, if_pos (c := o_Model_in (Int32.toInt64 t) 0 7 = true) (by rw [q_inI, et, nI_toInt (by omega)]; omega)]
        by_cases c4 : w < 0
        · rw [if_pos c4, if_neg (fun z => by rw [q_inI] at z; rw [Int32.lt_iff_toInt_lt] at c4; omega)]
          exact ⟨rfl, zREL_same H⟩
        · rw [if_neg c4]
          by_cases c5 : w ≤ 2
          · have c6 : ¬ nI 3 ≤ w := fun z => by
              rw [Int32.le_iff_toInt_le] at c5 z
              rw [nI_toInt (by omega)] at z
              omega
            obtain ⟨wn, hwn, ew⟩ := q_nat (N := 3) c4 c6 (by decide)
            rw [if_pos c5, if_pos (c := o_Model_in (Int32.toInt64 w) 0 2 = true) (by rw [q_inI, ew, nI_toInt (by omega)]; omega), o1, o2]
            by_cases c7 : q = 6
            · subst c7
              rw [if_neg (show ¬ nI 6 < 6 by decide), if_pos (show nI 6 = 6 from rfl)]
              exact ⟨rfl, zREL_same H⟩
            · rw [if_pos (show nI q < 6 from nI_lt (a := q) (b := 6) (by omega) (by omega)), if_neg (show ¬ nI q = 6 from fun z => c7 ((nI_eq (a := q) (b := 6) (by omega) (by omega)).mp z))]
              unfold o_Obs_add
              rw [o1, if_neg (show ¬ 6 ≤ nI q from nI_ge (a := q) (b := 6) (by omega) (by omega)), zcn_nI (by omega), nI_1]
              dsimp only
              have f3 : ∀ (h : zHp) (a b : Nat) (v1 v2 v3 : Int32) (c j : Nat), ¬ (a ≤ c ∧ c ≤ a + 2) → zup (zup (zup h a b v1) (a + 1) b v2) (a + 2) b v3 c j = h c j := fun h a b v1 v2 v3 c j z => by rw [zup_fr (by omega), zup_fr (by omega), zup_fr (by omega)]
              refine ⟨zup_at, zREL_ot (C2 := zup (zup (zup (zup C 47 q s) 48 q t) 49 q w) 46 0 (nI (q + 1))) (M2 := zup (zup (zup (zup M 60 q s) 61 q t) 62 q w) 51 4 (nI (q + 1))) H (fun c j q1 q2 q3 => by rw [zup_fr (by omega), zup_fr (by omega), zup_fr (by omega), zup_fr (by omega)]) (fun c j q1 q2 q3 => by rw [zup_fr (by omega), zup_fr (by omega), zup_fr (by omega), zup_fr (by omega)]) ⟨q + 1, by omega, zup_at, zup_at, fun i hi => ?_⟩ (zTXT_fr (C := C) (M := M) (by rw [zup_fr (by omega), zup_fr (by omega), zup_fr (by omega), zup_fr (by omega)]) (fun j => by rw [zup_fr (by omega), zup_fr (by omega), zup_fr (by omega), zup_fr (by omega)]) (by rw [zup_fr (by omega), zup_fr (by omega), zup_fr (by omega), zup_fr (by omega)]) (fun j => by rw [zup_fr (by omega), zup_fr (by omega), zup_fr (by omega), zup_fr (by omega)]) h2)⟩
              by_cases z : i = q
              · subst z
                have a1 : ∀ (h : zHp), zup (zup (zup (zup h 47 i s) 48 i t) 49 i w) 46 0 (nI (i + 1)) 47 i = s := fun h => by rw [zup_fr (by omega), zup_fr (by omega), zup_fr (by omega), zup_at]
                have a2 : ∀ (h : zHp), zup (zup (zup (zup h 47 i s) 48 i t) 49 i w) 46 0 (nI (i + 1)) 48 i = t := fun h => by rw [zup_fr (by omega), zup_fr (by omega), zup_at]
                have a3 : ∀ (h : zHp), zup (zup (zup (zup h 47 i s) 48 i t) 49 i w) 46 0 (nI (i + 1)) 49 i = w := fun h => by rw [zup_fr (by omega), zup_at]
                have b1 : ∀ (h : zHp), zup (zup (zup (zup h 60 i s) 61 i t) 62 i w) 51 4 (nI (i + 1)) 60 i = s := fun h => by rw [zup_fr (by omega), zup_fr (by omega), zup_fr (by omega), zup_at]
                have b2 : ∀ (h : zHp), zup (zup (zup (zup h 60 i s) 61 i t) 62 i w) 51 4 (nI (i + 1)) 61 i = t := fun h => by rw [zup_fr (by omega), zup_fr (by omega), zup_at]
                have b3 : ∀ (h : zHp), zup (zup (zup (zup h 60 i s) 61 i t) 62 i w) 51 4 (nI (i + 1)) 62 i = w := fun h => by rw [zup_fr (by omega), zup_at]
                rw [a1, a2, a3, b1, b2, b3]
                exact ⟨⟨rfl, rfl, rfl⟩, ⟨v, by omega, ev⟩, ⟨tn, htn, et⟩, wn, by omega, ew⟩
              · have aC : ∀ c, zup (zup (zup (zup C 47 q s) 48 q t) 49 q w) 46 0 (nI (q + 1)) (47 + c) i = C (47 + c) i := fun c => by rw [zup_fr (by omega), zup_fr (by omega), zup_fr (by omega), zup_fr (by omega)]
                have aM : ∀ c, zup (zup (zup (zup M 60 q s) 61 q t) 62 q w) 51 4 (nI (q + 1)) (60 + c) i = M (60 + c) i := fun c => by rw [zup_fr (by omega), zup_fr (by omega), zup_fr (by omega), zup_fr (by omega)]
                have := o3 i (by omega)
                rw [← aC 0, ← aC 1, ← aC 2, ← aM 0, ← aM 1, ← aM 2] at this
                exact this
          · rw [if_neg c5, if_neg (fun z => by rw [q_inI] at z; rw [Int32.le_iff_toInt_le] at c5; omega)]
            exact ⟨rfl, zREL_same H⟩
  · rw [if_neg c1, if_neg c1]
    exact ⟨rfl, zREL_same H⟩
theorem m_placed {h : zHp} {b : Nat} {k : zHp} {r n : Nat} {K : Nat} (R : zmr h b k r n (q_all n) K) : o_Mesh_placedSet h b = o_Model_withOffset k r := by
  have h8 := m_8 R
  unfold o_Mesh_placedSet o_Model_withOffset
  rw [(m_cnt R).1, (m_cnt R).2]
  refine q_congr n (fun i s hi => ?_)
  rw [(m_rowAll R hi).2.1]
  by_cases c : k r i = -9
  · rw [if_pos c, if_pos c, q_or_0]
  · rw [if_neg c, if_neg c]
theorem op_about (H : zREL K C M x y) (a : Int32) : o_Slots_about C a = (o_Model_about M a).1 ∧ zREL (K + 40) C (o_Model_about M a).2 x y := by
  have fM : ∀ c j, ¬ zscrM c j → (o_Model_about M a).2 c j = M c j := fun c j q => by
    unfold zscrM at q
    apply fr_Model_about <;> omega
  refine ⟨?_, zREL_same (zREL_fr (fun _ _ _ => rfl) fM H)⟩
  obtain ⟨n, R, h2, h3, h4, h5, h6, h7⟩ := id H
  have h8 := m_8 R
  have R2 := m_layNear (those := o_Model_all M) (Or.inl rfl) R
  have D2 := q_layNear (k := M) (r := 54) (those := o_Model_all M) (Or.inl rfl) R.1.2.1 h8
  rw [m_all R.1.2.1] at R2 D2
  unfold o_Slots_about o_Model_about
  rw [m_all R.1.2.1]
  simp only [apply_ite Prod.fst]
  refine ite_congr rfl (fun _ => ?_) (fun _ => ?_)
  · rw [R.1.1, R.1.2.1]
  refine ite_congr rfl (fun _ => ?_) (fun _ => ?_)
  · exact m_links R
  refine ite_congr rfl (fun _ => ?_) (fun _ => ?_)
  · exact m_conf (Or.inl rfl) R2
  refine ite_congr rfl (fun _ => ?_) (fun _ => ?_)
  · exact R.2.1.1
  refine ite_congr rfl (fun _ => ?_) (fun _ => ?_)
  · exact m_uns R2 D2
  refine ite_congr rfl (fun _ => ?_) (fun _ => ?_)
  · exact m_placed R
  refine ite_congr rfl (fun _ => ?_) (fun _ => ?_)
  · rw [m_quiet R2 D2]
  refine ite_congr rfl (fun _ => ?_) (fun _ => ?_)
  · exact m_nets R
  refine ite_congr rfl (fun _ => ?_) (fun _ => ?_)
  · obtain ⟨w, s, hw, hs, c1, m1, c2, m2, -⟩ := h5
    rw [c2, m2]
  refine ite_congr rfl (fun _ => ?_) (fun _ => ?_)
  · obtain ⟨q, hq, o1, o2, -⟩ := h4
    rw [o1, o2]
  refine ite_congr rfl (fun _ => ?_) (fun _ => rfl)
  obtain ⟨L, hL, t1, t2, -⟩ := h2
  rw [t1, t2]
theorem op_station (H : zREL K C M x y) (s a : Int32) : o_Slots_station C s a = (o_Model_station M s a).1 ∧ zREL (K + 40) C (o_Model_station M s a).2 x y := by
  have fM : ∀ c j, ¬ zscrM c j → (o_Model_station M s a).2 c j = M c j := fun c j q => by
    unfold zscrM at q
    apply fr_Model_station <;> omega
  refine ⟨?_, zREL_same (zREL_fr (fun _ _ _ => rfl) fM H)⟩
  obtain ⟨n, R, h2, h3, h4, h5, h6, h7⟩ := id H
  have h8 := m_8 R
  have R2 := m_layNear (those := o_Model_all M) (Or.inl rfl) R
  have D2 := q_layNear (k := M) (r := 54) (those := o_Model_all M) (Or.inl rfl) R.1.2.1 h8
  rw [m_all R.1.2.1] at R2 D2
  unfold o_Slots_station o_Model_station
  rw [m_all R.1.2.1, m_exE R]
  by_cases c : o_Model_isStation M s = true
  · rw [if_pos c, if_pos c]
    obtain ⟨v, hv, ev, zv⟩ := m_exT R c
    rw [zv]
    have hon := m_on_all h8 hv
    obtain ⟨r1, r2, r3⟩ := m_rowAll R hv
    simp only [apply_ite Prod.fst]
    refine ite_congr rfl (fun _ => ?_) (fun _ => ?_)
    · exact (R.1.2.2.2 v hv).1
    refine ite_congr rfl (fun _ => ?_) (fun _ => ?_)
    · exact r2
    refine ite_congr rfl (fun _ => ?_) (fun _ => ?_)
    · exact r3
    refine ite_congr rfl (fun _ => ?_) (fun _ => ?_)
    · exact m_tick R hv hon
    refine ite_congr rfl (fun _ => ?_) (fun _ => ?_)
    · exact m_occ R hv hon
    refine ite_congr rfl (fun _ => ?_) (fun _ => ?_)
    · exact r1
    refine ite_congr rfl (fun _ => ?_) (fun _ => ?_)
    · exact m_near R2 D2 hv
    refine ite_congr rfl (fun _ => ?_) (fun _ => ?_)
    · rw [ev, ← R.2.1.1]
      exact (R.2.2.2.2.2.2.1 v hv).2.1
    refine ite_congr rfl (fun _ => ?_) (fun _ => ?_)
    · exact m_free R2 D2 hv
    refine ite_congr rfl (fun _ => ?_) (fun _ => rfl)
    rw [ev, m_net R hv, m_netM R.1.2.1 h8]
  · rw [if_neg c, if_neg c]
theorem op_ahead (H : zREL K C M x y) (hK : K < 2 ^ 17) (a : Int32) : (o_Slots_ahead C a).1 = (o_Model_ahead M a).1 ∧ zREL (K + 40) (o_Slots_ahead C a).2 (o_Model_ahead M a).2 x y := by
  have fM : ∀ c j, ¬ zscrM c j → (o_Model_ahead M a).2 c j = M c j := fun c j q => by
    unfold zscrM at q
    apply fr_Model_ahead <;> omega
  have fC : ∀ c j, ¬ zscrC c j → (o_Slots_ahead C a).2 c j = C c j := fun c j q => by
    unfold zscrC at q
    apply fr_Slots_ahead <;> omega
  refine ⟨?_, zREL_same (zREL_fr fC fM H)⟩
  obtain ⟨n, R, h2, h3, h4, h5, h6, h7⟩ := id H
  have h8 := m_8 R
  have R1 := m_copyM (r2 := 56) (Or.inl rfl) (Or.inr (Or.inr rfl)) (by decide) (m_copyC (b := 27) (o := 3) (Or.inr (Or.inr rfl)) (Or.inl rfl) (by decide) R)
  have R2 := m_layNear (those := o_Model_all M) (Or.inr (Or.inr rfl)) R1
  have D2 := q_layNear (k := o_Model_copy M 54 56) (r := 56) (those := o_Model_all M) (Or.inr (Or.inr rfl)) R1.1.2.1 h8
  rw [m_all R.1.2.1] at R2 D2
  obtain ⟨a1, a2, a3, a4⟩ := m_run R2 D2 (Or.inr (Or.inr rfl)) (by omega)
  have hC3 : ∀ j, (o_Mesh_settle (o_Mesh_copyFrom C 27 3) 27).2 6 j = C 6 j := fun j => by
    rw [fr_Mesh_settle _ _ (by omega) (by omega) (by omega) (by omega) (by omega) (by omega) (by omega) (by omega) (by omega)]
    exact fr_Mesh_copyFrom _ _ (by omega) (by omega) (by omega) (by omega) (by omega) (by omega) (by omega) (by omega) (by omega) (by omega) (by omega) (by omega)
  unfold o_Slots_ahead o_Model_ahead
  rw [m_all R.1.2.1]
  have e0 : (0 : Int32).toInt = 0 := rfl
  have e3 : (3 : Int32).toInt = 3 := rfl
  have e9 : (0 : Int64).toInt = 0 := rfl
  have e7 : (3 : Int64).toInt = 3 := rfl
  by_cases c1 : a < 0
  · rw [if_pos c1, if_neg (fun z => by rw [q_inI] at z; rw [Int32.lt_iff_toInt_lt] at c1; omega)]
  · rw [if_neg c1]
    by_cases c2 : a ≤ 3
    · rw [if_pos c2, if_pos (c := o_Model_in (Int32.toInt64 a) 0 3 = true) (by rw [q_inI]; rw [Int32.lt_iff_toInt_lt] at c1; rw [Int32.le_iff_toInt_le] at c2; omega)]
      rw [a3]
      by_cases c3 : (o_Model_runOf (o_Model_layNear (o_Model_copy M 54 56) 56 (q_all n)) 56).1 = -9
      · rw [if_pos c3, if_pos c3]
        exact c3.symm
      · rw [if_neg c3, if_neg c3]
        by_cases d0 : a = 0
        · rw [if_pos d0, if_pos d0]
        · rw [if_neg d0, if_neg d0]
          dsimp only
          simp only [apply_ite Prod.fst]
          refine ite_congr rfl (fun _ => ?_) (fun _ => ?_)
          · exact m_placed a1
          refine ite_congr rfl (fun _ => ?_) (fun _ => ?_)
          · unfold o_Mesh_differenceTo
            rw [(m_cnt a1).1, (m_cnt R).2]
            refine q_congr n (fun i s hi => ?_)
            rw [(m_rowAll a1 hi).2.1, show (3 + 3 : Nat) = 6 from rfl, hC3, show C 6 i = M 54 i from (m_rowAll R hi).2.1]
            by_cases q : (o_Model_runOf (o_Model_layNear (o_Model_copy M 54 56) 56 (q_all n)) 56).2 56 i = M 54 i
            · rw [if_pos q, if_pos q, q_or_0]
            · rw [if_neg q, if_neg q]
          · exact a4
    · rw [if_neg c2, if_neg (fun z => by rw [q_inI] at z; rw [Int32.le_iff_toInt_le] at c2; omega)]
theorem op_seed (H : zREL K C M x y) (v : Int64) : x = y ∧ zREL (K + 40) C M v v := by
  obtain ⟨n, R, h2, h3, h4, h5, h6, h7⟩ := zREL_same H
  exact ⟨h7, n, R, h2, h3, h4, h5, h6, rfl⟩
end ZO
