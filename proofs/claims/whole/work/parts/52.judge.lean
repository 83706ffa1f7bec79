/-! judge: the whole call. -/
theorem q_tens : ∀ k, k ≤ 4 → o_Model_tenThousands (nI k) = lN (10000 ^ k) := by decide +kernel
theorem q_tens2 {N k : Nat} (hN : N ≤ 4) (hk : k < N) : o_Model_tenThousands (nI N - 1 - nI k) = lN (10000 ^ (N - 1 - k)) := by
  have key : ∀ m, m ≤ 4 → ∀ k, k < m → o_Model_tenThousands (nI m - 1 - nI k) = lN (10000 ^ (m - 1 - k)) := by decide +kernel
  exact key N hN k hk
section ZJ
variable {K : Nat} {C M : zHp} {x y : Int64}
theorem q_fours (h : zHp) {N m : Nat} (hm : m < 2 ^ 63) : ∀ i, i ≤ N → (zrep (fun (i : Nat) (s : Int64 × zHp) => (s.1 / 10000, zup s.2 50 (N - 1 - i) (Int64.toInt32 (zlrem s.1 10000)))) (lN m, h) i).1 = lN (m / 10000 ^ i) ∧ (∀ c j, c ≠ 50 → (zrep (fun (i : Nat) (s : Int64 × zHp) => (s.1 / 10000, zup s.2 50 (N - 1 - i) (Int64.toInt32 (zlrem s.1 10000)))) (lN m, h) i).2 c j = h c j) ∧ ∀ k, k < i → (zrep (fun (i : Nat) (s : Int64 × zHp) => (s.1 / 10000, zup s.2 50 (N - 1 - i) (Int64.toInt32 (zlrem s.1 10000)))) (lN m, h) i).2 50 (N - 1 - k) = nI (m / 10000 ^ k % 10000) := by
  intro i
  induction i with
  | zero => exact fun _ => ⟨by show lN m = lN (m / 1); rw [Nat.div_one], fun _ _ _ => rfl, fun k hk => absurd hk (Nat.not_lt_zero k)⟩
  | succ i ih =>
    intro hi
    obtain ⟨i1, i2, i3⟩ := ih (by omega)
    have hlt : m / 10000 ^ i < 2 ^ 63 := Nat.lt_of_le_of_lt (Nat.div_le_self _ _) hm
    have e1 : ∀ (s : Int64 × zHp), s.1 = lN (m / 10000 ^ i) → s.1 / 10000 = lN (m / 10000 ^ (i + 1)) ∧ Int64.toInt32 (zlrem s.1 10000) = nI (m / 10000 ^ i % 10000) := fun s q => by
      rw [q]
      refine ⟨?_, ?_⟩
      · rw [show (10000 : Int64) = lN 10000 from rfl, pk_lDiv hlt (by decide) (by decide), Nat.div_div_eq_div_mul, Nat.pow_succ]
      · rw [show (10000 : Int64) = lN 10000 from rfl, q_zlrem hlt (by decide) (by decide), lN_i]
    rw [zrep]
    generalize zrep (fun (i : Nat) (s : Int64 × zHp) => (s.1 / 10000, zup s.2 50 (N - 1 - i) (Int64.toInt32 (zlrem s.1 10000)))) (lN m, h) i = s at i1 i2 i3 ⊢
    obtain ⟨a1, a2⟩ := e1 s i1
    dsimp only
    rw [a1, a2]
    refine ⟨rfl, fun c j q => ?_, fun k hk => ?_⟩
    · rw [zup_fr (Or.inl q)]
      exact i2 c j q
    · by_cases ek : k = i
      · rw [ek, zup_at]
      · rw [zup_fr (Or.inr (by omega))]
        exact i3 k (by omega)
theorem op_judge (H : zREL K C M x y) (hK : K + 4 < 2 ^ 17) (n : Int32) (row : Int64) : (o_Slots_judge C n row).1 = (o_Model_judge M n row).1 ∧ zREL (K + 40) (o_Slots_judge C n row).2 (o_Model_judge M n row).2 x y := by
  have hS : zREL (K + 40) (o_Slots_judge C n row).2 (o_Model_judge M n row).2 x y := by
    refine zREL_mono (by omega) (zREL_fr (fun c j q => ?_) (fun c j q => ?_) H)
    · unfold zscrC at q
      apply fr_Slots_judge <;> omega
    · unfold zscrM at q
      apply fr_Model_judge <;> omega
  refine ⟨?_, hS⟩
  clear hS
  obtain ⟨n0, R, -, -, -, -, -, -⟩ := H
  unfold o_Slots_judge o_Model_judge
  by_cases c1 : n < 1
  · rw [if_pos c1, if_neg (fun q => ?_)]
    rw [q_inI] at q
    rw [Int32.lt_iff_toInt_lt] at c1
    have e1 : (1 : Int64).toInt = 1 := rfl
    have e2 : (1 : Int32).toInt = 1 := rfl
    omega
  rw [if_neg c1]
  by_cases c2 : 4 < n
  · rw [if_pos c2, if_neg (fun q => ?_)]
    rw [q_inI] at q
    rw [Int32.lt_iff_toInt_lt] at c2
    have e1 : (4 : Int64).toInt = 4 := rfl
    have e2 : (4 : Int32).toInt = 4 := rfl
    omega
  rw [if_neg c2]
  obtain ⟨N, hN1, hN4, rfl⟩ : ∃ N, 1 ≤ N ∧ N ≤ 4 ∧ n = nI N := by
    obtain ⟨N, hN, e⟩ := nI_of (x := n) (fun q => by
      rw [Int32.lt_iff_toInt_lt] at c1 q
      have e2 : (1 : Int32).toInt = 1 := rfl
      have e3 : (0 : Int32).toInt = 0 := rfl
      omega)
    subst e
    refine ⟨N, ?_, ?_, rfl⟩
    · exact Nat.not_lt.mp (fun q => c1 (nI_lt (a := N) (b := 1) q (by omega)))
    · exact Nat.not_lt.mp (fun q => c2 (nI_lt (a := 4) (b := N) q (by omega)))
  have hz : zcn (nI N) = N := zcn_nI (by omega)
  rw [if_pos (c := o_Model_in (nI N).toInt64 1 4 = true) (by
    rw [q_inI, nI_toInt (by omega)]
    have e1 : (1 : Int64).toInt = 1 := rfl
    have e2 : (4 : Int64).toInt = 4 := rfl
    omega), hz, show N - 1 + 1 = N by omega]
  by_cases c3 : (0 : Int64) ≤ row
  · rw [if_pos ((lg_cmp_ge row 0).mpr c3)]
    obtain ⟨m, hm, rfl⟩ := pk_lOf (x := row) (Int64.not_lt.mpr c3)
    obtain ⟨f1, f2, f3⟩ := q_fours C (N := N) hm N (Nat.le_refl N)
    have hpow : 10000 ^ N ≤ 10000 ^ 4 := Nat.pow_le_pow_right (by decide) hN4
    have hp0 : 0 < 10000 ^ N := Nat.pow_pos (by decide)
    have hin : o_Model_in (lN m) 0 (o_Model_tenThousands (nI N) - 1) = true ↔ m / 10000 ^ N = 0 := by
      rw [zin0, q_tens N hN4, Int64.le_iff_toInt_le, Int64.le_iff_toInt_le, pk_lT hm]
      have e0 : (0 : Int64).toInt = 0 := rfl
      have e1 : (lN (10000 ^ N) - 1).toInt = (10000 ^ N : Int) - 1 := by
        have : ∀ k, k ≤ 4 → (lN (10000 ^ k) - 1).toInt = (10000 ^ k : Int) - 1 := by decide +kernel
        exact this N hN4
      rw [e0, e1, Nat.div_eq_zero_iff]
      have e2 : (10000 ^ N : Int) = ((10000 ^ N : Nat) : Int) := by rw [Int.natCast_pow]; rfl
      rw [e2]
      omega
    by_cases c4 : m / 10000 ^ N = 0
    · have cC : lg_cmp (zrep (fun (i : Nat) (s : Int64 × zHp) => (s.1 / 10000, zup s.2 50 (N - 1 - i) (Int64.toInt32 (zlrem s.1 10000)))) (lN m, C) N).1 0 = 0 := by
        rw [lg_cmp_eq, f1, c4]
        rfl
      rw [if_pos cC, if_pos (hin.mpr c4)]
      generalize (zrep (fun (i : Nat) (s : Int64 × zHp) => (s.1 / 10000, zup s.2 50 (N - 1 - i) (Int64.toInt32 (zlrem s.1 10000)))) (lN m, C) N).2 = C2 at f2 f3 ⊢
      have R0 : zmr (o_Mesh_copyFrom C2 15 3) 15 (o_Model_copy M 54 55) 55 n0 (q_all n0) (K + 0) := by
        refine m_copyM (Or.inl rfl) (Or.inr (Or.inl rfl)) (by decide) (m_copyC (b := 15) (o := 3) (Or.inr (Or.inl rfl)) (Or.inl rfl) (by decide) ?_)
        exact zmr_frC (fun j hj => f2 _ _ (by omega)) (fun i v h1 h2 => f2 _ _ (by omega)) R
      have Q := q_xrel (fun k s t => zmr s 15 t 55 n0 (q_all n0) (K + k)) (fun (u w : Int32 × zHp) => u.1 = w.1) (f := fun (i : Nat) (s : zHp) => ((if (o_Slots_isTrue s (C2 50 i)).1 = true then .inl (o_Slots_isTrue s (C2 50 i)).2 else .inr (nI i, (o_Slots_isTrue s (C2 50 i)).2)) : zHp ⊕ (Int32 × zHp))) (g := fun (i : Nat) (s : zHp) => ((if (o_Model_judged s ((Int64.toInt32 (zlrem (lN m / (o_Model_tenThousands ((nI N - 1) - nI i))) 10000)) / 1000) (zrem ((Int64.toInt32 (zlrem (lN m / (o_Model_tenThousands ((nI N - 1) - nI i))) 10000)) / 100) 10) (zrem ((Int64.toInt32 (zlrem (lN m / (o_Model_tenThousands ((nI N - 1) - nI i))) 10000)) / 10) 10) (zrem (Int64.toInt32 (zlrem (lN m / (o_Model_tenThousands ((nI N - 1) - nI i))) 10000)) 10)).1 = true then .inl (o_Model_judged s ((Int64.toInt32 (zlrem (lN m / (o_Model_tenThousands ((nI N - 1) - nI i))) 10000)) / 1000) (zrem ((Int64.toInt32 (zlrem (lN m / (o_Model_tenThousands ((nI N - 1) - nI i))) 10000)) / 100) 10) (zrem ((Int64.toInt32 (zlrem (lN m / (o_Model_tenThousands ((nI N - 1) - nI i))) 10000)) / 10) 10) (zrem (Int64.toInt32 (zlrem (lN m / (o_Model_tenThousands ((nI N - 1) - nI i))) 10000)) 10)).2 else .inr (nI i, (o_Model_judged s ((Int64.toInt32 (zlrem (lN m / (o_Model_tenThousands ((nI N - 1) - nI i))) 10000)) / 1000) (zrem ((Int64.toInt32 (zlrem (lN m / (o_Model_tenThousands ((nI N - 1) - nI i))) 10000)) / 100) 10) (zrem ((Int64.toInt32 (zlrem (lN m / (o_Model_tenThousands ((nI N - 1) - nI i))) 10000)) / 10) 10) (zrem (Int64.toInt32 (zlrem (lN m / (o_Model_tenThousands ((nI N - 1) - nI i))) 10000)) 10)).2)) : zHp ⊕ (Int32 × zHp))) (a := o_Mesh_copyFrom C2 15 3) (b := o_Model_copy M 54 55) N R0 (fun i s t hi hI => by
        have hk : m / 10000 ^ (N - 1 - i) < 2 ^ 63 := Nat.lt_of_le_of_lt (Nat.div_le_self _ _) hm
        have hp : 10000 ^ (N - 1 - i) ≤ 10000 ^ 4 := Nat.pow_le_pow_right (by decide) (by omega)
        rw [q_tens2 hN4 hi, pk_lDiv hm (Nat.pow_pos (by decide)) (by omega), show (10000 : Int64) = lN 10000 from rfl, q_zlrem hk (by decide) (by decide), lN_i]
        have f4 := f3 (N - 1 - i) (by omega)
        rw [show N - 1 - (N - 1 - i) = i by omega] at f4
        rw [f4]
        have hd : m / 10000 ^ (N - 1 - i) % 10000 < 10000 := Nat.mod_lt _ (by decide)
        generalize m / 10000 ^ (N - 1 - i) % 10000 = d at hd ⊢
        have d1 : nI d / 1000 = nI (d / 1000) := pk_div (a := d) (d := 1000) (by omega) (by decide) (by decide)
        have d2 : zrem (nI d / 100) 10 = nI (d / 100 % 10) := zn_rem (b := 10) (pk_div (a := d) (d := 100) (by omega) (by decide) (by decide)) rfl (by omega) (by decide) (by decide)
        have d3 : zrem (nI d / 10) 10 = nI (d / 10 % 10) := zn_rem (b := 10) (pk_div (a := d) (d := 10) (by omega) (by decide) (by decide)) rfl (by omega) (by decide) (by decide)
        have d4 : zrem (nI d) 10 = nI (d % 10) := zn_rem (b := 10) rfl rfl (by omega) (by decide) (by decide)
        obtain ⟨j1, j2⟩ := m_judged hI (by omega) (hh := d / 1000) (a := d / 100 % 10) (b := d / 10 % 10) (v := d % 10) (by omega) (by omega) (by omega) (by omega) d1 d2 d3 d4
        rw [d1, d2, d3, d4, ← j1]
        by_cases cc : (o_Slots_isTrue s (nI d)).1 = true
        · rw [if_pos cc, if_pos cc]
          exact Or.inl ⟨_, _, rfl, rfl, j2 cc⟩
        · rw [if_neg cc, if_neg cc]
          exact Or.inr ⟨_, _, rfl, rfl, rfl⟩)
      rcases Q with ⟨s2, t2, e1, e2, -⟩ | ⟨u, w, e1, e2, hE⟩
      · rw [e1, e2]
        rfl
      · rw [e1, e2]
        exact hE
    · rw [if_neg (c := lg_cmp _ 0 = 0) (fun q => c4 (by
        rw [lg_cmp_eq, f1] at q
        exact (pk_lEQ (b := 0) (Nat.lt_of_le_of_lt (Nat.div_le_self _ _) hm) (by decide)).mp q)), if_neg (fun q => c4 (hin.mp q))]
  · rw [if_neg (fun q => c3 ((lg_cmp_ge row 0).mp q)), if_neg (fun q => c3 (zin0.mp q).1)]
end ZJ
