/-! The calls: the field's text, acts. -/
theorem q_inI {x : Int32} {lo hi : Int64} : o_Model_in x.toInt64 lo hi = true ↔ lo.toInt ≤ x.toInt ∧ x.toInt ≤ hi.toInt := by
  rw [zin0, Int64.le_iff_toInt_le, Int64.le_iff_toInt_le, Int32.toInt_toInt64]
theorem q_nat {x : Int32} {N : Nat} (h0 : ¬ x < 0) (h1 : ¬ nI N ≤ x) (hN : N < 2 ^ 31) : ∃ j, j < N ∧ x = nI j := by
  obtain ⟨j, hj, e⟩ := nI_of h0
  refine ⟨j, ?_, e⟩
  rw [e] at h1
  rcases Nat.lt_or_ge j N with q | q
  · exact q
  · exact absurd (nI_le q hj) h1
/-- the acts remembered, with one more -/
theorem m_noteA {C M : zHp} {n K : Nat} (R : zmr C 3 M 54 n (q_all n) K) (A : zACT C M n K) : zACT (o_Acts_remember C 3) (o_Model_note M) n K := by
  have h8 := m_8 R
  obtain ⟨w, s, hw, hs, c1, m1, c2, m2, c3, rows⟩ := A
  have ew : zrem (C 41 0 + 1) 14 = nI ((w + 1) % 14) := zn_rem (y := 14) (b := 14) (zn_add c1 rfl) rfl (by omega) (by decide) (by decide)
  have ewm : zrem (M 51 3 + 1) 14 = nI ((w + 1) % 14) := zn_rem (y := 14) (b := 14) (zn_add m1 rfl) rfl (by omega) (by decide) (by decide)
  have hw2 : (w + 1) % 14 < 14 := Nat.mod_lt _ (by decide)
  generalize hW : (w + 1) % 14 = w2 at ew ewm hw2
  -- the class' side
  have C1 : ∀ c j, o_Acts_remember C 3 c j = if c = 41 ∧ j = 1 then nI (min (s + 1) 14) else if c = 42 ∧ j = 1 then C 42 1 ||| zshl 1 (nI w2) else if c = 43 ∧ j = w2 * 25 + 24 then C 3 1 else if c = 43 ∧ w2 * 25 + 16 ≤ j ∧ j < w2 * 25 + 24 then C 7 (j - (w2 * 25 + 16)) else if c = 43 ∧ w2 * 25 + 8 ≤ j ∧ j < w2 * 25 + 16 then C 6 (j - (w2 * 25 + 8)) else if c = 43 ∧ w2 * 25 ≤ j ∧ j < w2 * 25 + 8 then C 5 (j - w2 * 25) else if c = 41 ∧ j = 0 then nI w2 else C c j := by
    intro c j
    unfold o_Acts_remember o_Shelf42_put
    rw [ew, if_neg (nI_pos (by omega)), zup_fr (h := C) (c2 := 42) (k2 := 0) (by omega), c3, if_pos (nI_lt (by omega) (by omega)), zcn_nI (by omega), zup_fr (h := C) (c2 := 42) (k2 := 1) (by omega), zup_fr (h := C) (c2 := 3) (k2 := 1) (by omega)]
    by_cases q1 : c = 41 ∧ j = 1
    · obtain ⟨rfl, rfl⟩ := q1
      rw [zup_at, if_pos (c := 41 = 41 ∧ 1 = 1) ⟨rfl, rfl⟩]
      exact zn_min (x := C 41 1 + 1) (y := 14) (a := s + 1) (b := 14) (zn_add c2 rfl) rfl (by omega) (by decide)
    · rw [zup_fr (by omega), if_neg q1]
      by_cases q2 : c = 42 ∧ j = 1
      · obtain ⟨rfl, rfl⟩ := q2
        rw [zup_at, if_pos ⟨rfl, rfl⟩]
      · rw [zup_fr (by omega), if_neg q2, q_put (by decide)]
        by_cases q3 : c = 43 ∧ j = w2 * 25 + 24
        · rw [if_pos q3, if_pos q3]
        · rw [if_neg q3, if_neg q3]
          by_cases q4 : c = 43 ∧ w2 * 25 + 16 ≤ j ∧ j < w2 * 25 + 24
          · rw [if_pos q4, if_pos q4]
            exact zup_fr (by omega)
          · rw [if_neg q4, if_neg q4]
            by_cases q5 : c = 43 ∧ w2 * 25 + 8 ≤ j ∧ j < w2 * 25 + 16
            · rw [if_pos q5, if_pos q5]
              exact zup_fr (by omega)
            · rw [if_neg q5, if_neg q5]
              by_cases q6 : c = 43 ∧ w2 * 25 ≤ j ∧ j < w2 * 25 + 8
              · rw [if_pos q6, if_pos q6]
                exact zup_fr (by omega)
              · rw [if_neg q6, if_neg q6]
                by_cases q7 : c = 41 ∧ j = 0
                · obtain ⟨rfl, rfl⟩ := q7
                  rw [zup_at, if_pos ⟨rfl, rfl⟩]
                · rw [zup_fr (by omega), if_neg q7]
  have M1 : ∀ c j, o_Model_note M c j = if c = 51 ∧ j = 2 then nI (min (s + 1) 14) else if c = 51 ∧ j = 3 then nI w2 else if c = 57 ∧ 25 * w ≤ j ∧ j < 25 * w + 25 then M 54 (j - 25 * w) else M c j := by
    intro c j
    unfold o_Model_note
    rw [ewm, m1, zcn_nI (by omega)]
    have e := q_rowS (h := M) (c := 57) (m := 25 * w) (F := fun i _ => M 54 i) (G := fun i => M 54 i) 25 (fun _ _ _ _ => rfl)
    by_cases q1 : c = 51 ∧ j = 2
    · obtain ⟨rfl, rfl⟩ := q1
      rw [zup_at, if_pos (c := 51 = 51 ∧ 2 = 2) ⟨rfl, rfl⟩, m2]
      by_cases q : s = 14
      · subst q
        rfl
      · rw [if_neg (c := 14 ≤ nI s) (nI_ge (a := s) (b := 14) (by omega) (by omega)), nI_1, Nat.min_eq_left (by omega)]
    · rw [zup_fr (by omega), if_neg q1]
      by_cases q2 : c = 51 ∧ j = 3
      · obtain ⟨rfl, rfl⟩ := q2
        rw [zup_at, if_pos ⟨rfl, rfl⟩]
      · rw [zup_fr (by omega), if_neg q2, e]
  refine ⟨w2, min (s + 1) 14, hw2, by omega, ?_, ?_, ?_, ?_, ?_, fun i hi => ⟨?_, ?_⟩⟩
  · rw [C1, if_neg (by omega), if_neg (by omega), if_neg (by omega), if_neg (by omega), if_neg (by omega), if_neg (by omega), if_pos ⟨rfl, rfl⟩]
  · rw [M1, if_neg (by omega), if_pos ⟨rfl, rfl⟩]
  · rw [C1, if_pos ⟨rfl, rfl⟩]
  · rw [M1, if_pos ⟨rfl, rfl⟩]
  · rw [C1, if_neg (by omega), if_neg (by omega), if_neg (by omega), if_neg (by omega), if_neg (by omega), if_neg (by omega), if_neg (by omega)]
    exact c3
  · rw [C1, if_neg (by omega), if_pos ⟨rfl, rfl⟩, b_or]
    by_cases q : i = 0
    · subst q
      rw [show (w2 + 14 - 0) % 14 = w2 by omega, q_one (by omega) (by omega), decide_eq_true (rfl : w2 = w2), Bool.or_true]
    · rw [show (w2 + 14 - i) % 14 = (w + 14 - (i - 1)) % 14 by omega, (rows (i - 1) (by omega)).1, Bool.true_or]
  · by_cases q : i = 0
    · subst q
      rw [show (w2 + 14 - 0) % 14 = w2 by omega, show (w2 + 13 - 0) % 14 = w by omega]
      refine q_lay R (fun v hv => ⟨?_, ?_, ?_⟩) ?_ (fun j hj => ?_) (fun v hv => ?_)
      · rw [C1, if_neg (by omega), if_neg (by omega), if_neg (by omega), if_neg (by omega), if_neg (by omega), if_pos ⟨rfl, by omega, by omega⟩, show 25 * w2 + v - w2 * 25 = v by omega]
      · rw [C1, if_neg (by omega), if_neg (by omega), if_neg (by omega), if_neg (by omega), if_pos ⟨rfl, by omega, by omega⟩, show 25 * w2 + 8 + v - (w2 * 25 + 8) = v by omega]
      · rw [C1, if_neg (by omega), if_neg (by omega), if_neg (by omega), if_pos ⟨rfl, by omega, by omega⟩, show 25 * w2 + 16 + v - (w2 * 25 + 16) = v by omega]
      · rw [C1, if_neg (by omega), if_neg (by omega), if_pos ⟨rfl, by omega⟩]
      · rw [M1, if_neg (by omega), if_neg (by omega), if_pos ⟨rfl, by omega, by omega⟩, show 25 * w + j - 25 * w = j by omega]
      · rw [M1, if_neg (by omega), if_neg (by omega), if_neg (by omega)]
    · have old := (rows (i - 1) (by omega)).2
      rw [show (w2 + 14 - i) % 14 = (w + 14 - (i - 1)) % 14 by omega, show (w2 + 13 - i) % 14 = (w + 13 - (i - 1)) % 14 by omega]
      refine zsr_fr (fun j h1 h2 => ?_) (fun j h1 h2 => ?_) (fun v hv => ?_) h8 old
      · rw [C1, if_neg (by omega), if_neg (by omega), if_neg (by omega), if_neg (by omega), if_neg (by omega), if_neg (by omega), if_neg (by omega)]
      · rw [M1, if_neg (by omega), if_neg (by omega), if_neg (by omega)]
      · rw [M1, if_neg (by omega), if_neg (by omega), if_neg (by omega)]
theorem m_noteR {C M : zHp} {n K : Nat} (R : zmr C 3 M 54 n (q_all n) K) : zmr (o_Acts_remember C 3) 3 (o_Model_note M) 54 n (q_all n) K := by
  have f : ∀ c j, c ≠ 41 → c ≠ 42 → c ≠ 43 → o_Acts_remember C 3 c j = C c j := fun c j q1 q2 q3 => fr_Acts_remember _ _ (by omega) (by omega) (by omega) (by omega)
  have g : ∀ c j, ¬ (c = 51 ∧ (j = 2 ∨ j = 3)) → c ≠ 57 → o_Model_note M c j = M c j := fun c j q1 q2 => fr_Model_note _ _ (by omega) (by omega) q2
  refine zmr_frM (g _ _ (by omega) (by omega)) (fun v _ => g _ _ (by omega) (by omega)) (fun v _ => ⟨g _ _ (by omega) (by omega), g _ _ (by omega) (by omega), g _ _ (by omega) (by omega)⟩) (g _ _ (by omega) (by omega)) ?_
  exact zmr_frC (fun j hj => f _ _ (by omega) (by omega) (by omega)) (fun i v h1 h2 => f _ _ (by omega) (by omega) (by omega)) R
/-- the state behind an act -/
theorem zREL_act {K K2 : Nat} {C M C2 M2 : zHp} {x y : Int64} {n : Nat} (hK : K ≤ K2) (R : zmr C 3 M 54 n (q_all n) K) (h2 : zTXT C M) (h3 : zfit M 51 8 7) (h4 : zOBS C M) (h5 : zACT C M n K) (h6 : zSLO C M n K) (h7 : x = y) (R2 : zmr C2 3 M2 54 n (q_all n) K2) (eC : ∀ c j, ¬ zscrC c j → ¬ (3 ≤ c ∧ c ≤ 13) → C2 c j = o_Acts_remember C 3 c j) (eM : ∀ c j, ¬ zscrM c j → c ≠ 54 → M2 c j = o_Model_note M c j) : zREL K2 C2 M2 x y := by
  have h8 := m_8 R
  have f : ∀ c j, c ≠ 41 → c ≠ 42 → c ≠ 43 → o_Acts_remember C 3 c j = C c j := fun c j q1 q2 q3 => fr_Acts_remember _ _ (by omega) (by omega) (by omega) (by omega)
  have g : ∀ c j, ¬ (c = 51 ∧ (j = 2 ∨ j = 3)) → c ≠ 57 → o_Model_note M c j = M c j := fun c j q1 q2 => fr_Model_note _ _ (by omega) (by omega) q2
  have eC' : ∀ c j, ¬ zscrC c j → ¬ (3 ≤ c ∧ c ≤ 13) → c ≠ 41 → c ≠ 42 → c ≠ 43 → C2 c j = C c j := fun c j q1 q2 q3 q4 q5 => (eC c j q1 q2).trans (f c j q3 q4 q5)
  have eM' : ∀ c j, ¬ zscrM c j → c ≠ 54 → ¬ (c = 51 ∧ (j = 2 ∨ j = 3)) → c ≠ 57 → M2 c j = M c j := fun c j q1 q2 q3 q4 => (eM c j q1 q2).trans (g c j q3 q4)
  refine ⟨n, R2, ?_, ?_, ?_, ?_, ?_, h7⟩
  · exact zTXT_fr (eC' _ _ (by unfold zscrC; omega) (by omega) (by omega) (by omega) (by omega)) (fun j => eC' _ _ (by unfold zscrC; omega) (by omega) (by omega) (by omega) (by omega)) (eM' _ _ (by unfold zscrM; omega) (by omega) (by omega) (by omega)) (fun j => eM' _ _ (by unfold zscrM; omega) (by omega) (by omega) (by omega)) h2
  · exact zfit_fr (eM' _ _ (by unfold zscrM; omega) (by omega) (by omega) (by omega)) h3
  · exact zOBS_fr (eC' _ _ (by unfold zscrC; omega) (by omega) (by omega) (by omega) (by omega)) (fun j => ⟨eC' _ _ (by unfold zscrC; omega) (by omega) (by omega) (by omega) (by omega), eC' _ _ (by unfold zscrC; omega) (by omega) (by omega) (by omega) (by omega), eC' _ _ (by unfold zscrC; omega) (by omega) (by omega) (by omega) (by omega)⟩) (eM' _ _ (by unfold zscrM; omega) (by omega) (by omega) (by omega)) (fun j => ⟨eM' _ _ (by unfold zscrM; omega) (by omega) (by omega) (by omega), eM' _ _ (by unfold zscrM; omega) (by omega) (by omega) (by omega), eM' _ _ (by unfold zscrM; omega) (by omega) (by omega) (by omega)⟩) h4
  · refine zACT_mono hK ?_
    exact zACT_fr h8 (eC _ _ (by unfold zscrC; omega) (by omega)) (eC _ _ (by unfold zscrC; omega) (by omega)) (eC _ _ (by unfold zscrC; omega) (by omega)) (eC _ _ (by unfold zscrC; omega) (by omega)) (fun j => eC _ _ (by unfold zscrC; omega) (by omega)) (eM _ _ (by unfold zscrM; omega) (by omega)) (eM _ _ (by unfold zscrM; omega) (by omega)) (fun j => eM _ _ (by unfold zscrM; omega) (by omega)) (fun v _ => eM _ _ (by unfold zscrM; omega) (by omega)) (m_noteA R h5)
  · refine zSLO_mono hK ?_
    exact zSLO_fr h8 (eC' _ _ (by unfold zscrC; omega) (by omega) (by omega) (by omega) (by omega)) (eC' _ _ (by unfold zscrC; omega) (by omega) (by omega) (by omega) (by omega)) (fun j => eC' _ _ (by unfold zscrC; omega) (by omega) (by omega) (by omega) (by omega)) (fun j => eM' _ _ (by unfold zscrM; omega) (by omega) (by omega) (by omega)) (fun j => eM' _ _ (by unfold zscrM; omega) (by omega) (by omega) (by omega)) (fun v _ => eM' _ _ (by unfold zscrM; omega) (by omega) (by omega) (by omega)) h6
section ZO
variable {K : Nat} {C M : zHp} {x y : Int64}
theorem op_round (H : zREL K C M x y) (hK : K < 2 ^ 17) : (o_Slots_round C).1 = (o_Model_round M).1 ∧ zREL (K + 40) (o_Slots_round C).2 (o_Model_round M).2 x y := by
  obtain ⟨n, R, h2, h3, h4, h5, h6, h7⟩ := H
  have h8 := m_8 R
  have R1 := m_noteR R
  have R2 := m_layNear (those := o_Model_all M) (Or.inl rfl) R1
  have D2 := q_layNear (k := o_Model_note M) (r := 54) (those := o_Model_all M) (Or.inl rfl) R1.1.2.1 h8
  rw [m_all R.1.2.1] at R2 D2
  obtain ⟨a1, a2, a3, a4⟩ := m_round R2 D2 (Or.inl rfl) (by omega)
  unfold o_Slots_round o_Model_round
  dsimp only
  rw [m_all R.1.2.1]
  refine ⟨a3, zREL_act (K2 := K + 40) (by omega) R h2 h3 h4 h5 h6 h7 (zmr_mono (by omega) a1) (fun c j q1 q2 => ?_) (fun c j q1 q2 => ?_)⟩
  · unfold zscrC at q1
    exact fr_Mesh_advance _ _ (by omega) (by omega) (by omega) (by omega) (by omega) (by omega) (by omega) (by omega)
  · unfold zscrM at q1
    exact (fr_Model_roundOf _ _ (by omega) (by omega) (by omega) (by omega)).trans (fr_Model_layNear _ _ (by omega) (by omega))
theorem op_run (H : zREL K C M x y) (hK : K < 2 ^ 17) : (o_Slots_run C).1 = (o_Model_run M).1 ∧ zREL (K + 40) (o_Slots_run C).2 (o_Model_run M).2 x y := by
  obtain ⟨n, R, h2, h3, h4, h5, h6, h7⟩ := H
  have h8 := m_8 R
  have R1 := m_noteR R
  have R2 := m_layNear (those := o_Model_all M) (Or.inl rfl) R1
  have D2 := q_layNear (k := o_Model_note M) (r := 54) (those := o_Model_all M) (Or.inl rfl) R1.1.2.1 h8
  rw [m_all R.1.2.1] at R2 D2
  obtain ⟨a1, a2, a3, a4⟩ := m_run R2 D2 (Or.inl rfl) (by omega)
  unfold o_Slots_run o_Model_run
  dsimp only
  rw [m_all R.1.2.1]
  refine ⟨a3, zREL_act (K2 := K + 40) (by omega) R h2 h3 h4 h5 h6 h7 (m_drop a1 (Or.inl rfl)) (fun c j q1 q2 => ?_) (fun c j q1 q2 => ?_)⟩
  · unfold zscrC at q1
    exact (fr_Mesh_dropOlds _ _ (by omega) (by omega) (by omega)).trans (fr_Mesh_settle _ _ (by omega) (by omega) (by omega) (by omega) (by omega) (by omega) (by omega) (by omega) (by omega))
  · unfold zscrM at q1
    exact (fr_Model_dropOld _ _ (by omega)).trans ((fr_Model_runOf _ _ (by omega) (by omega) (by omega) (by omega) (by omega)).trans (fr_Model_layNear _ _ (by omega) (by omega)))
/-- the errors of a pair -/
theorem q_pairE {n : Nat} (R : zmr C 3 M 54 n (q_all n) K) {i j : Int32} : (o_Model_isStation M i = true ∧ o_Model_isStation M j = true ∧ ¬ i = j ∧ o_Mesh_pairError C 3 i j = 0) ∨ (o_Model_isStation M i = true ∧ o_Model_isStation M j = true ∧ i = j ∧ o_Mesh_pairError C 3 i j = -2) ∨ (¬ (o_Model_isStation M i = true ∧ o_Model_isStation M j = true) ∧ o_Mesh_pairError C 3 i j = -1) := by
  unfold o_Mesh_pairError
  rw [m_exE R, m_exE R]
  by_cases c1 : o_Model_isStation M i = true
  · by_cases c2 : o_Model_isStation M j = true
    · by_cases c3 : i = j
      · exact Or.inr (Or.inl ⟨c1, c2, c3, by rw [if_pos c1, if_pos c2, if_pos c3]⟩)
      · exact Or.inl ⟨c1, c2, c3, by rw [if_pos c1, if_pos c2, if_neg c3]⟩
    · exact Or.inr (Or.inr ⟨fun q => c2 q.2, by rw [if_pos c1, if_neg c2]⟩)
  · exact Or.inr (Or.inr ⟨fun q => c1 q.1, by rw [if_neg c1]⟩)
theorem zREL_same (H : zREL K C M x y) : zREL (K + 40) C M x y := zREL_mono (by omega) H
theorem op_turn (H : zREL K C M x y) (hK : K < 2 ^ 17) (i j : Int32) : (o_Slots_turn C i j).1 = (o_Model_turn M i j).1 ∧ zREL (K + 40) (o_Slots_turn C i j).2 (o_Model_turn M i j).2 x y := by
  obtain ⟨n, R, h2, h3, h4, h5, h6, h7⟩ := id H
  have h8 := m_8 R
  unfold o_Slots_turn o_Model_turn
  rcases q_pairE R (i := i) (j := j) with ⟨c1, c2, c3, e⟩ | ⟨c1, c2, c3, e⟩ | ⟨c1, e⟩
  · rw [e, if_pos rfl, if_pos c1, if_pos c2, if_neg c3]
    dsimp only
    obtain ⟨a, ha, ea, za⟩ := m_exT R c1
    obtain ⟨b, hb, eb, zb'⟩ := m_exT R c2
    have hab : a ≠ b := fun q => c3 (by rw [ea, eb, q])
    rw [za, zb']
    have R2 := m_flip (m_noteR R) (Or.inl rfl) (by omega) ha hb hab
    refine ⟨?_, zREL_act (K2 := K + 40) (by omega) R h2 h3 h4 h5 h6 h7 (zmr_mono (by omega) R2) (fun c j q1 q2 => ?_) (fun c j q1 q2 => ?_)⟩
    · have e2 := (m_rowAll R2 ha).1
      rw [show (3 + 2 : Nat) = 5 from rfl] at e2
      rw [e2, eb, q_has (by omega), q_zb1 _ _ (by omega)]
    · unfold zscrC at q1
      exact fr_Mesh_flipLink _ _ (by omega) (by omega) (by omega) (by omega) (by omega) (by omega) (by omega)
    · exact (fr_Model_turnOf _ _ (by omega)).trans (fr_Model_dropOld _ _ (by omega))
  · rw [e, if_neg (by decide), if_pos c1, if_pos c2, if_pos c3]
    exact ⟨rfl, zREL_same H⟩
  · rw [e, if_neg (by decide)]
    by_cases d1 : o_Model_isStation M i = true
    · rw [if_pos d1, if_neg (fun q => c1 ⟨d1, q⟩)]
      exact ⟨rfl, zREL_same H⟩
    · rw [if_neg d1]
      exact ⟨rfl, zREL_same H⟩
theorem q_offE {n b : Nat} {h k : zHp} {r : Nat} {on : Int32} {K : Nat} (R : zmr h b k r n on K) {s o : Int32} : (∃ v, v < n ∧ s = nI v ∧ zcn s = v ∧ o_Model_isStation k s = true ∧ zoff (k 53 v) o ∧ o_Model_isOffset k v o = true ∧ o_Mesh_offsetError h b s o = 0) ∨ (∃ v, v < n ∧ s = nI v ∧ zcn s = v ∧ o_Model_isStation k s = true ∧ ¬ o_Model_isOffset k v o = true ∧ o_Mesh_offsetError h b s o = -2) ∨ (¬ o_Model_isStation k s = true ∧ o_Mesh_offsetError h b s o = -1) := by
  have h8 := m_8 R
  unfold o_Mesh_offsetError
  rw [m_exE R]
  by_cases c1 : o_Model_isStation k s = true
  · rw [if_pos c1]
    obtain ⟨v, hv, ev, zv⟩ := m_exT R c1
    rw [zv, (R.1.2.2.2 v hv).1]
    have hp := (R.1.2.2.2 v hv).2.1
    have hP := zprd_pos hp
    have io : o_Model_isOffset k v o = true ↔ o = -9 ∨ (0 ≤ o.toInt ∧ o.toInt ≤ (zcn (k 53 v) : Int) - 1) := by
      unfold o_Model_isOffset
      rw [Bool.or_eq_true, decide_eq_true_eq, q_inI]
      have e4 : (k 53 v - 1).toInt64.toInt = (zcn (k 53 v) : Int) - 1 := by
        rw [Int32.toInt_toInt64, hP.2.2.1, zcn_nI (by omega)]
        exact pk_sub_toInt (a := zcn (k 53 v)) (b := 1) (by omega) (by omega)
      rw [e4]
      exact Iff.rfl
    have e0 : (0 : Int32).toInt = 0 := rfl
    have ep : (k 53 v).toInt = (zcn (k 53 v) : Int) := by rw [hP.2.2.1, zcn_nI (by omega)]; exact nI_toInt (by omega)
    by_cases c2 : o = -9
    · rw [if_pos c2]
      exact Or.inl ⟨v, hv, ev, rfl, c1, Or.inl c2, io.mpr (Or.inl c2), rfl⟩
    · rw [if_neg c2]
      by_cases c3 : o < 0
      · rw [if_pos c3]
        refine Or.inr (Or.inl ⟨v, hv, ev, rfl, c1, fun q => ?_, rfl⟩)
        rcases io.mp q with z | z
        · exact c2 z
        · rw [Int32.lt_iff_toInt_lt] at c3
          omega
      · rw [if_neg c3]
        by_cases c4 : k 53 v ≤ o
        · rw [if_pos c4]
          refine Or.inr (Or.inl ⟨v, hv, ev, rfl, c1, fun q => ?_, rfl⟩)
          rcases io.mp q with z | z
          · exact c2 z
          · rw [Int32.le_iff_toInt_le] at c4
            omega
        · rw [if_neg c4]
          have h0 : 0 ≤ o.toInt := by
            rw [Int32.lt_iff_toInt_lt] at c3
            omega
          have h1 : o.toInt < (zcn (k 53 v) : Int) := by
            rw [Int32.le_iff_toInt_le] at c4
            omega
          refine Or.inl ⟨v, hv, ev, rfl, c1, Or.inr ⟨zcn o, ?_, zix c3⟩, io.mpr (Or.inr ⟨h0, by omega⟩), rfl⟩
          have : zcn o = o.toInt.toNat := rfl
          omega
  · rw [if_neg c1]
    exact Or.inr (Or.inr ⟨c1, rfl⟩)
theorem op_lay (H : zREL K C M x y) (hK : K < 2 ^ 17) (s o : Int32) : (o_Slots_lay C s o).1 = (o_Model_lay M s o).1 ∧ zREL (K + 40) (o_Slots_lay C s o).2 (o_Model_lay M s o).2 x y := by
  obtain ⟨n, R, h2, h3, h4, h5, h6, h7⟩ := id H
  have h8 := m_8 R
  unfold o_Slots_lay o_Model_lay
  rcases q_offE R (s := s) (o := o) with ⟨v, hv, ev, zv, c1, c2, c3, e⟩ | ⟨v, hv, ev, zv, c1, c2, e⟩ | ⟨c1, e⟩
  · rw [e, if_pos rfl, if_pos c1, zv, if_pos c3]
    dsimp only
    have R1 := m_noteR R
    have e53 : o_Model_note M 53 v = M 53 v := fr_Model_note _ _ (by omega) (by omega) (by omega)
    have R2 := m_place R1 (Or.inl rfl) hv (o := o) (by rw [e53]; exact c2)
    refine ⟨?_, zREL_act (K2 := K + 40) (by omega) R h2 h3 h4 h5 h6 h7 (zmr_mono (by omega) R2) (fun c j q1 q2 => ?_) (fun c j q1 q2 => ?_)⟩
    · have e2 := (m_rowAll R hv).2.1
      rw [q_dropOldM, if_neg (by omega), fr_Model_note _ _ (by omega) (by omega) (by omega)]
      exact e2
    · unfold zscrC at q1
      exact fr_Mesh_place _ _ (by omega) (by omega) (by omega) (by omega)
    · exact (zup_fr (by omega)).trans (fr_Model_dropOld _ _ (by omega))
  · rw [e, if_neg (by decide), if_pos c1, zv, if_neg c2]
    exact ⟨rfl, zREL_same H⟩
  · rw [e, if_neg (by decide), if_neg c1]
    exact ⟨rfl, zREL_same H⟩
end ZO
