/-! fault and field. -/
section ZM
theorem q_bytE {h s : zHp} (e1 : s 1 0 = h 1 0) (e2 : ∀ j, s 2 j = h 2 j) (p : Int32) : o_Text_byteAt s p = o_Text_byteAt h p := by
  unfold o_Text_byteAt
  rw [e1, e2]
theorem rd_formC (h : zHp) : ∃ f : Nat → zHp → zHp ⊕ (Int32 × zHp), o_Text_readInto h 15 = Sum.elim (fun r => (-9, r)) (fun q => q) (zrex f (o_Mesh_clear h 15) ((zcn (h 1 0) + 2) / 3)) ∧ ∀ i s, (s 1 0 = h 1 0 ∧ ∀ j, s 2 j = h 2 j) → f i s = if 3 ≤ q_rgt s (nI (3 * i)) then .inl (q_aft s (nI (3 * i))) else .inr (nI (3 * i) + q_rgt s (nI (3 * i)), q_aft s (nI (3 * i))) :=
  ⟨_, rfl, fun i s e => by
    unfold q_rgt q_aft
    rw [q_bytE e.1 e.2]⟩
theorem rd_formM (h : zHp) : ∃ f : Nat → zHp → zHp ⊕ (Int32 × zHp), o_Model_readText h = Sum.elim (fun r => ((if (r 51 7) = 0 then (-9) else (h 51 0)), r)) (fun q => q) (zrex f (zup (zup h 51 5 0) 51 7 0) (zcn (h 51 0))) ∧ ∀ i t, f i t = if (q_take t (h 52 i)).1 = true then .inl (q_take t (h 52 i)).2 else .inr (nI i, (q_take t (h 52 i)).2) :=
  ⟨_, rfl, fun i t => by
    unfold q_take
    by_cases c7 : t 51 7 = 0
    · rw [if_pos c7, if_pos c7, if_pos c7]
    · rw [if_neg c7, if_neg c7, if_neg c7]
      by_cases c6 : t 51 6 = 83
      · rw [if_pos c6, if_pos c6, if_pos c6]
      · rw [if_neg c6, if_neg c6, if_neg c6]⟩
theorem q_aft_fr {s : zHp} {p : Int32} {c j : Nat} (hc : c < 15) : q_aft s p c j = s c j := by
  unfold q_aft
  have f1 : (o_Text_readLink s p 15).2 c j = s c j := by apply fr_Text_readLink <;> omega
  have f2 : (o_Text_readStation s p 15).2 c j = s c j := by apply fr_Text_readStation <;> omega
  by_cases c1 : o_Text_byteAt s p = 83
  · rw [if_pos c1]
    by_cases c2 : 8 ≤ s 15 0
    · rw [if_pos c2]
      by_cases c3 : o_Text_byteAt s p = 76
      · rw [if_pos c3]
        by_cases c4 : o_Mesh_lacksLink s 15 = true
        · rw [if_pos c4, f1]
        · rw [if_neg c4]
      · rw [if_neg c3]
    · rw [if_neg c2, f2]
  · rw [if_neg c1]
    by_cases c3 : o_Text_byteAt s p = 76
    · rw [if_pos c3]
      by_cases c4 : o_Mesh_lacksLink s 15 = true
      · rw [if_pos c4, f1]
      · rw [if_neg c4]
    · rw [if_neg c3]
variable {C M : zHp}
theorem q_byt {s : zHp} {L : Nat} (hL : L ≤ 110) (e1 : s 1 0 = nI L) (e2 : ∀ i, i < L → M 52 i = s 2 i ∧ ∃ m, m < 256 ∧ s 2 i = nI m) {p : Nat} (hp : p < 2 ^ 20) : (p < L → o_Text_byteAt s (nI p) = M 52 p) ∧ (¬ p < L → o_Text_byteAt s (nI p) = -1) ∧ q_let (o_Text_byteAt s (nI p)) := by
  have key : (p < L → o_Text_byteAt s (nI p) = M 52 p) ∧ (¬ p < L → o_Text_byteAt s (nI p) = -1) := by
    refine ⟨fun q => ?_, fun q => ?_⟩
    · unfold o_Text_byteAt
      rw [if_neg (Int32.not_lt.mpr (nI_pos' (by omega))), e1, if_neg (fun z => by have := (nI_leI (by omega) (by omega)).mp z; omega), if_neg (fun z => by have := (nI_leI (by omega) (by omega)).mp z; omega), zcn_nI (by omega), (e2 p q).1]
    · unfold o_Text_byteAt
      rw [if_neg (Int32.not_lt.mpr (nI_pos' (by omega))), e1, if_pos (nI_le (by omega) (by omega))]
  refine ⟨key.1, key.2, ?_⟩
  by_cases q : p < L
  · obtain ⟨a, m, hm, em⟩ := e2 p q
    rw [key.1 q, a, em]
    exact Or.inr ⟨m, hm, rfl⟩
  · rw [key.2 q]
    exact Or.inl rfl
theorem q_rgt1 {s : zHp} {p : Int32} (h : o_Text_byteAt s (p + 1) = -1) : q_rgt s p = 0 ∨ q_rgt s p = 1 := by
  have f1 : (o_Text_readLink s p 15).1 = 1 := by
    unfold o_Text_readLink o_Mesh_exists
    rw [h, if_neg (by rw [decide_eq_true (by decide +kernel : (-1 : Int32) - 48 < 0), Bool.not_true, Bool.false_and]; decide)]
  have f2 : (o_Text_readStation s p 15).1 = 1 := by
    unfold o_Text_readStation
    rw [h, if_pos (by decide +kernel)]
  unfold q_rgt
  rw [f1, f2]
  by_cases c1 : o_Text_byteAt s p = 83
  · rw [if_pos c1]
    by_cases c2 : 8 ≤ s 15 0
    · rw [if_pos c2]
      by_cases c3 : o_Text_byteAt s p = 76
      · rw [if_pos c3]
        by_cases c4 : o_Mesh_lacksLink s 15 = true
        · rw [if_pos c4]; exact Or.inr rfl
        · rw [if_neg c4]; exact Or.inl rfl
      · rw [if_neg c3]; exact Or.inl rfl
    · rw [if_neg c2]; exact Or.inr rfl
  · rw [if_neg c1]
    by_cases c3 : o_Text_byteAt s p = 76
    · rw [if_pos c3]
      by_cases c4 : o_Mesh_lacksLink s 15 = true
      · rw [if_pos c4]; exact Or.inr rfl
      · rw [if_neg c4]; exact Or.inl rfl
    · rw [if_neg c3]; exact Or.inl rfl
theorem q_rgt2 {s : zHp} {p : Int32} (h : o_Text_byteAt s (p + 2) = -1) : ¬ q_rgt s p = 3 := by
  have h1 : ¬ (1 : Int32) = 3 := by decide
  have h2 : ¬ (2 : Int32) = 3 := by decide
  have h0 : ¬ (0 : Int32) = 3 := by decide
  have f1 : ¬ (o_Text_readLink s p 15).1 = 3 := by
    unfold o_Text_readLink
    have hx : ¬ o_Mesh_exists s 15 (o_Text_byteAt s (p + 2) - 48) = true := by
      unfold o_Mesh_exists
      rw [h, decide_eq_true (by decide +kernel : (-1 : Int32) - 48 < 0), Bool.not_true, Bool.false_and]
      decide
    rw [if_neg hx]
    by_cases c1 : o_Mesh_exists s 15 (o_Text_byteAt s (p + 1) - 48) = true
    · rw [if_pos c1]
      by_cases c2 : o_Mesh_isLinkedWithAll s 15 (zcn (o_Text_byteAt s (p + 1) - 48)) = true
      · rw [if_pos c2]
        exact h1
      · rw [if_neg c2]
        exact h2
    · rw [if_neg c1]
      exact h1
  have f2 : ¬ (o_Text_readStation s p 15).1 = 3 := by
    unfold o_Text_readStation
    rw [h]
    by_cases c1 : o_Text_byteAt s (p + 1) - 48 < 1
    · rw [if_pos c1]
      exact h1
    · rw [if_neg c1]
      by_cases c2 : o_Text_byteAt s (p + 1) - 48 ≤ 3
      · rw [if_pos c2, if_neg (by decide), if_pos (by decide)]
        exact h2
      · rw [if_neg c2]
        exact h1
  unfold q_rgt
  by_cases c1 : o_Text_byteAt s p = 83
  · rw [if_pos c1]
    by_cases c2 : 8 ≤ s 15 0
    · rw [if_pos c2]
      by_cases c3 : o_Text_byteAt s p = 76
      · rw [if_pos c3]
        by_cases c4 : o_Mesh_lacksLink s 15 = true
        · rw [if_pos c4]; exact f1
        · rw [if_neg c4]; exact h0
      · rw [if_neg c3]; exact h0
    · rw [if_neg c2]; exact f2
  · rw [if_neg c1]
    by_cases c3 : o_Text_byteAt s p = 76
    · rw [if_pos c3]
      by_cases c4 : o_Mesh_lacksLink s 15 = true
      · rw [if_pos c4]; exact f1
      · rw [if_neg c4]; exact h0
    · rw [if_neg c3]; exact h0
theorem rd_zero (C M : zHp) : q_rd (o_Mesh_clear C 15) (zup (zup M 51 5 0) 51 7 0) 0 := by
  have e0 : o_Mesh_clear C 15 15 0 = 0 := by
    unfold o_Mesh_clear
    rw [zup_fr (by omega), zup_at]
  have e1 : o_Mesh_clear C 15 15 1 = 0 := by
    unfold o_Mesh_clear
    rw [zup_at]
  refine ⟨⟨e0, ?_, by omega, fun v hv => absurd hv (Nat.not_lt_zero v)⟩, ⟨e1, 0, by omega, rfl⟩, fun v hv => absurd hv (Nat.not_lt_zero v), fun v hv => absurd hv (Nat.not_lt_zero v), fun v hv => absurd hv (Nat.not_lt_zero v), y_on_all (by omega), fun v hv => absurd hv (Nat.not_lt_zero v), fun v hv => absurd hv (Nat.not_lt_zero v)⟩
  rw [v_cnt, zup_fr (by omega), zup_at]
  rfl
theorem rd_text (H : zTXT C M) : (o_Text_readInto C 15).1 = (o_Model_readText M).1 ∧ ((o_Text_readInto C 15).1 = -9 → ∃ n, q_rd (o_Text_readInto C 15).2 (o_Model_readText M).2 n) := by
  obtain ⟨L, hL, e1, e2, e3⟩ := H
  obtain ⟨f, f1, f2⟩ := rd_formC C
  obtain ⟨g, g1, g2⟩ := rd_formM M
  rw [f1, g1, e1, e2, zcn_nI (by omega)]
  clear f1 g1
  have stp : ∀ k s t n, 3 * k < L → q_rd s t n → t 51 7 = 0 → (s 1 0 = C 1 0 ∧ ∀ j, s 2 j = C 2 j) → q_part s t (nI (3 * k)) (o_Text_byteAt s (nI (3 * k) + 1)) (o_Text_byteAt s (nI (3 * k) + 2)) (M 52 (3 * k)) ∧ o_Text_byteAt s (nI (3 * k) + 1) = o_Text_byteAt s (nI (3 * k + 1)) ∧ o_Text_byteAt s (nI (3 * k) + 2) = o_Text_byteAt s (nI (3 * k + 2)) := fun k s t n hk R h7 fr => by
    have w1 : nI (3 * k) + 1 = nI (3 * k + 1) := nI_add _ 1
    have w2 : nI (3 * k) + 2 = nI (3 * k + 2) := nI_add _ 2
    have E2 : ∀ i, i < L → M 52 i = s 2 i ∧ ∃ m, m < 256 ∧ s 2 i = nI m := fun i hi => by
      rw [fr.2 i]
      exact e3 i hi
    have y0 := q_byt (p := 3 * k) hL (fr.1.trans e1) E2 (by omega)
    have y1 := q_byt (p := 3 * k + 1) hL (fr.1.trans e1) E2 (by omega)
    have y2 := q_byt (p := 3 * k + 2) hL (fr.1.trans e1) E2 (by omega)
    refine ⟨rd_part R h7 (y0.1 hk) rfl rfl ?_ ?_, by rw [w1], by rw [w2]⟩
    · rw [w1]
      exact y1.2.2
    · rw [w2]
      exact y2.2.2
  have byt : ∀ p s, p < L → (s 1 0 = C 1 0 ∧ ∀ j, s 2 j = C 2 j) → o_Text_byteAt s (nI p) = M 52 p := fun p s hp fr => (q_byt hL (fr.1.trans e1) (fun i hi => by rw [fr.2 i]; exact e3 i hi) (by omega)).1 hp
  have byE : ∀ p s, ¬ p < L → p < 2 ^ 20 → (s 1 0 = C 1 0 ∧ ∀ j, s 2 j = C 2 j) → o_Text_byteAt s (nI p) = -1 := fun p s hp hp2 fr => (q_byt hL (fr.1.trans e1) (fun i hi => by rw [fr.2 i]; exact e3 i hi) hp2).2.1 hp
  have gT : ∀ i t, (q_take t (M 52 i)).1 = true → g i t = .inl (q_take t (M 52 i)).2 := fun i t q => by rw [g2, if_pos q]
  have gF : ∀ i t, (q_take t (M 52 i)).1 = false → g i t = .inr (nI i, (q_take t (M 52 i)).2) := fun i t q => by rw [g2, if_neg (by rw [q]; decide)]
  have zs : ∀ {σ ρ : Type} (F : Nat → σ → σ ⊕ ρ) (a : σ) (m : Nat), zrex F a (m + 1) = (match zrex F a m with | .inl s => F m s | .inr r => .inr r) := fun F a m => rfl
  have n03 : ¬ (3 : Int32) ≤ 0 := by decide
  have n13 : ¬ (3 : Int32) ≤ 1 := by decide
  have n23 : ¬ (3 : Int32) ≤ 2 := by decide
  have n33 : (3 : Int32) ≤ 3 := by decide
  have pe : ∀ {σ ρ : Type} (F : Nat → σ → σ ⊕ ρ) (a : σ) (m : Nat) (r : ρ), zrex F a m = .inr r → ∀ d, zrex F a (m + d) = .inr r := fun F a m r h d => by
    induction d with
    | zero => exact h
    | succ d ih => rw [← Nat.add_assoc, zs, ih]
  have il : ∀ {σ ρ : Type} (F : Nat → σ → σ ⊕ ρ) (a : σ) (m : Nat) (s : σ), zrex F a m = .inl s → zrex F a (m + 1) = F m s := fun F a m s h => by rw [zs, h]
  have R0 := rd_zero C M
  have fr0 : (o_Mesh_clear C 15) 1 0 = C 1 0 ∧ ∀ j, (o_Mesh_clear C 15) 2 j = C 2 j := by
    refine ⟨?_, fun j => ?_⟩
    · unfold o_Mesh_clear
      rw [zup_fr (by omega), zup_fr (by omega)]
    · unfold o_Mesh_clear
      rw [zup_fr (by omega), zup_fr (by omega)]
  have p0 : zup (zup M 51 5 0) 51 7 0 51 7 = 0 := zup_at
  generalize o_Mesh_clear C 15 = a0 at R0 fr0 ⊢
  generalize zup (zup M 51 5 0) 51 7 0 = b0 at R0 p0 ⊢
  -- one part, both sides, whatever stands behind it
  have one : ∀ k s t n, 3 * k < L → zrex f a0 k = .inl s → zrex g b0 (3 * k) = .inl t → q_rd s t n → t 51 7 = 0 → (s 1 0 = C 1 0 ∧ ∀ j, s 2 j = C 2 j) →
      (∃ m u w, m < 3 * k + 3 ∧ zrex f a0 (k + 1) = .inr (nI m, u) ∧ m < L ∧ zrex g b0 (m + 1) = .inr (nI m, w)) ∨
      (∃ u t2, L < 3 * k + 3 ∧ zrex f a0 (k + 1) = .inr (nI L, u) ∧ zrex g b0 L = .inl t2 ∧ ¬ t2 51 7 = 0) ∨
      (∃ s2 t2 n2, 3 * k + 3 ≤ L ∧ zrex f a0 (k + 1) = .inl s2 ∧ zrex g b0 (3 * k + 3) = .inl t2 ∧ q_rd s2 t2 n2 ∧ t2 51 7 = 0 ∧ (s2 1 0 = C 1 0 ∧ ∀ j, s2 2 j = C 2 j)) := fun k s t n hk es et R h7 fr => by
    obtain ⟨P, w1, w2⟩ := stp k s t n hk R h7 fr
    have ef := (il f a0 k s es).trans (f2 k s fr)
    have eg := il g b0 (3 * k) t et
    rcases P with ⟨r0, T0⟩ | ⟨T0, z0, P⟩
    · rw [r0, if_neg n03, Int32.add_zero] at ef
      rw [gF _ _ T0] at eg
      exact Or.inl ⟨3 * k, _, _, by omega, ef, hk, eg⟩
    rw [gT _ _ T0] at eg
    generalize (q_take t (M 52 (3 * k))).2 = t1 at P z0 eg
    by_cases k1 : 3 * k + 1 < L
    · rw [w1, byt _ s k1 fr] at P
      have eg1 := il g b0 (3 * k + 1) t1 eg
      rcases P with ⟨r1, T1⟩ | ⟨T1, z1, P⟩
      · rw [r1, if_neg n13, show nI (3 * k) + 1 = nI (3 * k + 1) from nI_add _ 1] at ef
        rw [gF _ _ T1] at eg1
        exact Or.inl ⟨3 * k + 1, _, _, by omega, ef, k1, eg1⟩
      rw [gT _ _ T1] at eg1
      generalize (q_take t1 (M 52 (3 * k + 1))).2 = t2 at P z1 eg1
      by_cases k2 : 3 * k + 2 < L
      · rw [w2, byt _ s k2 fr] at P
        have eg2 := il g b0 (3 * k + 1 + 1) t2 eg1
        rcases P with ⟨r2, T2⟩ | ⟨r3, T2, z2, n2, R2⟩
        · rw [r2, if_neg n23, show nI (3 * k) + 2 = nI (3 * k + 2) from nI_add _ 2] at ef
          rw [show 3 * k + 1 + 1 = 3 * k + 2 from rfl, gF _ _ T2] at eg2
          exact Or.inl ⟨3 * k + 2, _, _, by omega, ef, k2, eg2⟩
        · rw [r3, if_pos n33] at ef
          rw [show 3 * k + 1 + 1 = 3 * k + 2 from rfl, gT _ _ T2] at eg2
          exact Or.inr (Or.inr ⟨_, _, n2, by omega, ef, eg2, R2, z2, (q_aft_fr (by omega)).trans fr.1, fun j => (q_aft_fr (by omega)).trans (fr.2 j)⟩)
      · have eL : L = 3 * k + 2 := by omega
        have em : o_Text_byteAt s (nI (3 * k) + 2) = -1 := w2.trans (byE _ s k2 (by omega) fr)
        rcases P with ⟨r2, T2⟩ | ⟨r3, -⟩
        · rw [r2, if_neg n23, show nI (3 * k) + 2 = nI (3 * k + 2) from nI_add _ 2, ← eL] at ef
          exact Or.inr (Or.inl ⟨_, t2, by omega, ef, by rw [eL]; exact eg1, z1⟩)
        · exact absurd r3 (q_rgt2 em)
    · have eL : L = 3 * k + 1 := by omega
      have em : o_Text_byteAt s (nI (3 * k) + 1) = -1 := w1.trans (byE _ s k1 (by omega) fr)
      have r01 := q_rgt1 em
      have h12 : ¬ (0 : Int32) = 1 := by decide
      have h02 : ¬ (0 : Int32) = 2 := by decide
      have h03 : ¬ (0 : Int32) = 3 := by decide
      have h13 : ¬ (1 : Int32) = 2 := by decide
      have h14 : ¬ (1 : Int32) = 3 := by decide
      rcases P with ⟨r1, T1⟩ | ⟨T1, z1, ⟨r2, -⟩ | ⟨r3, -⟩⟩
      · rw [r1, if_neg n13, show nI (3 * k) + 1 = nI (3 * k + 1) from nI_add _ 1, ← eL] at ef
        exact Or.inr (Or.inl ⟨_, t1, by omega, ef, by rw [eL]; exact eg, z0⟩)
      · rw [r2] at r01
        rcases r01 with q | q
        · exact absurd q.symm h02
        · exact absurd q.symm h13
      · rw [r3] at r01
        rcases r01 with q | q
        · exact absurd q.symm h03
        · exact absurd q.symm h14
  have main : ∀ k, 3 * k ≤ L → (∃ s t n, zrex f a0 k = .inl s ∧ zrex g b0 (3 * k) = .inl t ∧ q_rd s t n ∧ t 51 7 = 0 ∧ (s 1 0 = C 1 0 ∧ ∀ j, s 2 j = C 2 j)) ∨ (∃ m u w, m < 3 * k ∧ zrex f a0 k = .inr (nI m, u) ∧ zrex g b0 (3 * k) = .inr (nI m, w)) := by
    intro k
    induction k with
    | zero => exact fun _ => Or.inl ⟨a0, b0, 0, rfl, rfl, R0, p0, fr0⟩
    | succ k ih =>
      intro hk
      rcases ih (by omega) with ⟨s, t, n, es, et, R, h7, fr⟩ | ⟨m, u, w, hm, es, et⟩
      · rcases one k s t n (by omega) es et R h7 fr with ⟨m, u, w, hm, ef, hL2, eg⟩ | ⟨u, t2, hq, -⟩ | ⟨s2, t2, n2, -, ef, eg, R2, z2, fr2⟩
        · refine Or.inr ⟨m, u, w, by omega, ef, ?_⟩
          rw [show 3 * (k + 1) = m + 1 + (3 * k + 3 - (m + 1)) by omega]
          exact pe g b0 _ _ eg _
        · omega
        · exact Or.inl ⟨s2, t2, n2, ef, eg, R2, z2, fr2⟩
      · exact Or.inr ⟨m, u, w, by omega, pe f a0 k _ es 1, pe g b0 _ _ et 3⟩
  have no : ∀ m, m < 2 ^ 20 → ¬ nI m = -9 := fun m hm => q_nI_ne9 (by omega)
  have hk : 3 * (L / 3) ≤ L := by omega
  rcases main (L / 3) hk with ⟨s, t, n, es, et, R, h7, fr⟩ | ⟨m, u, w, hm, es, et⟩
  · by_cases c : 3 * (L / 3) = L
    · rw [show (L + 2) / 3 = L / 3 by omega, es]
      rw [c] at et
      rw [et]
      show (-9 : Int32) = (if t 51 7 = 0 then -9 else nI L) ∧ (_ → ∃ n, q_rd s t n)
      rw [if_pos h7]
      exact ⟨rfl, fun _ => ⟨n, R⟩⟩
    · rw [show (L + 2) / 3 = L / 3 + 1 by omega]
      rcases one (L / 3) s t n (by omega) es et R h7 fr with ⟨m, u, w, hm, ef, hL2, eg⟩ | ⟨u, t2, hq, ef, eg, z⟩ | ⟨s2, t2, n2, hq, -⟩
      · have eg2 := pe g b0 _ _ eg (L - (m + 1))
        rw [show m + 1 + (L - (m + 1)) = L by omega] at eg2
        rw [ef, eg2]
        exact ⟨rfl, fun q => absurd q (no m (by omega))⟩
      · rw [ef, eg]
        show nI L = (if t2 51 7 = 0 then -9 else nI L) ∧ (nI L = -9 → _)
        rw [if_neg z]
        exact ⟨rfl, fun q => absurd q (no L (by omega))⟩
      · omega
  · have es2 := pe f a0 _ _ es ((L + 2) / 3 - L / 3)
    have et2 := pe g b0 _ _ et (L - 3 * (L / 3))
    rw [show L / 3 + ((L + 2) / 3 - L / 3) = (L + 2) / 3 by omega] at es2
    rw [show 3 * (L / 3) + (L - 3 * (L / 3)) = L by omega] at et2
    rw [es2, et2]
    exact ⟨rfl, fun q => absurd q (no m (by omega))⟩
end ZM
