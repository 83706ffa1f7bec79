/-! which. -/
theorem q_two {m : Nat} (hm : m ≤ 8) : (if nI m < 2 then nI m else 2) = (if nI m ≤ 2 then nI m else 2) := by
  have key : ∀ m, m ≤ 8 → (if nI m < 2 then nI m else 2) = (if nI m ≤ 2 then nI m else 2) := by decide +kernel
  exact key m hm
theorem q_cntN {P : Nat → Bool} : ∀ {n : Nat}, ∃ c, c ≤ n ∧ zrep (fun i (s : Int32) => s + zb (P i)) 0 n = nI c
  | 0 => ⟨0, Nat.le_refl _, rfl⟩
  | n + 1 => by
    obtain ⟨c, h1, h2⟩ := q_cntN (P := P) (n := n)
    have e1 : zrep (fun i (s : Int32) => s + zb (P i)) 0 (n + 1) = nI c + zb (P n) := by rw [← h2]; rfl
    rw [e1]
    cases P n
    · exact ⟨c, by omega, Int32.add_zero _⟩
    · exact ⟨c + 1, by omega, nI_1 c⟩
section ZO
variable {K : Nat} {C M : zHp} {x y : Int64}
theorem m_agree {n v q i : Nat} {s W t : zHp} (R : zmr s 27 W 56 n (q_all n) K) (hv : v < n) (hi : i < zcn (M 53 v)) (hq : q ≤ 6) (o1 : C 46 0 = nI q) (o2 : M 51 4 = nI q) (o3 : ∀ i, i < q → (M 60 i = C 47 i ∧ M 61 i = C 48 i ∧ M 62 i = C 49 i) ∧ (∃ s, s < 8 ∧ C 47 i = nI s) ∧ (∃ t, t < 8 ∧ C 48 i = nI t) ∧ ∃ w, w ≤ 2 ∧ C 49 i = nI w) (hM : M 51 1 = nI n) (hs : ∀ c j, (c < 27 ∨ 38 < c) → s c j = C c j) (w1 : ∀ u, u < n → u ≠ v → W 56 u = M 54 u) (w2 : ∀ u, u < n → W 56 (16 + u) = M 54 (16 + u)) (w3 : ∀ u, u < n → W 53 u = M 53 u) (t1 : ∀ u, u < n → u ≠ v → t 56 u = M 54 u) (t2 : ∀ u, u < n → t 56 (16 + u) = M 54 (16 + u)) (t3 : ∀ c j, c ≠ 56 → t c j = M c j) : o_Obs_agreeWith (o_Mesh_place s 27 v (nI i)) 27 = zrep (fun (i48_10 : Nat) (s48_10 : Bool) => (s48_10 && (decide ((if (if (o_Model_isStation M (M 60 i48_10)) = true then (o_Model_senders (zup t 56 v (nI i)) 56 (zcn (M 60 i48_10)) (M 61 i48_10)) else (M 62 i48_10)) ≤ 2 then (if (o_Model_isStation M (M 60 i48_10)) = true then (o_Model_senders (zup t 56 v (nI i)) 56 (zcn (M 60 i48_10)) (M 61 i48_10)) else (M 62 i48_10)) else 2) = (M 62 i48_10))))) true (zcn (M 51 4)) := by
  have h8 := m_8 R
  have R1 := m_place R (Or.inr (Or.inr rfl)) hv (o := nI i) (Or.inr ⟨i, by rw [w3 v hv]; exact hi, rfl⟩)
  have hp : ∀ c j, (c < 27 ∨ 38 < c) → o_Mesh_place s 27 v (nI i) c j = C c j := fun c j z => by
    refine Eq.trans ?_ (hs c j z)
    apply fr_Mesh_place <;> omega
  unfold o_Obs_agreeWith
  rw [hp 46 0 (by omega), o1, o2, zcn_nI (by omega)]
  rw [q_xcongr (g := fun j (_ : Unit) => ((if (!(o_Model_isStation M (C 47 j)) || decide (o_Obs_sight (o_Mesh_place s 27 v (nI i)) 27 (zcn (C 47 j)) (C 48 j) = C 49 j)) = true then .inl () else .inr false) : Unit ⊕ Bool)) q (fun j u hj => ?_), q_allx]
  · refine q_congr q (fun j u hj => ?_)
    congr 1
    obtain ⟨⟨a1, a2, a3⟩, ⟨st, hst, b1⟩, ⟨tt, htt, b2⟩, ww, hww, b3⟩ := o3 j hj
    rw [a1, a2, a3, b1, b2, b3, zcn_nI (by omega)]
    by_cases c : o_Model_isStation M (nI st) = true
    · rw [if_pos c, c, Bool.not_true, Bool.false_or]
      obtain ⟨st2, hst2, e2, -⟩ := zist (zfit_of hM h8 (by decide)) c |> fun z => (⟨zcn (nI st), by have := z.2; rw [hM, zcn_nI (n := n) (by omega)] at this; exact this, zix z.1, trivial⟩ : ∃ v2, v2 < n ∧ nI st = nI v2 ∧ True)
      have hstn : st < n := by
        have := (nI_eq (a := st) (b := st2) (by omega) (by omega)).mp e2
        omega
      unfold o_Obs_sight
      rw [m_send R1 hstn (by omega), m_sen R1.1.2.1 h8 (by omega), m_sen (k := zup t 56 v (nI i)) (r := 56) (n := n) (by rw [zup_fr (by omega), t3 _ _ (by omega)]; exact hM) h8 (by omega)]
      have eA : zrep (fun u (z : Int32) => z + zb (q_nA (zup (o_Model_dropOld W 56) 56 v (nI i)) 56 st tt u)) 0 n = zrep (fun u (z : Int32) => z + zb (q_nA (zup t 56 v (nI i)) 56 st tt u)) 0 n := q_congr n (fun u z hu => by
        have l1 : zup (o_Model_dropOld W 56) 56 v (nI i) 56 (16 + st) = M 54 (16 + st) := by rw [zup_fr (by omega), q_dropOldM, if_neg (by omega)]; exact w2 st hstn
        have l2 : zup t 56 v (nI i) 56 (16 + st) = M 54 (16 + st) := by rw [zup_fr (by omega)]; exact t2 st hstn
        have p1 : zup (o_Model_dropOld W 56) 56 v (nI i) 53 u = M 53 u := by rw [zup_fr (by omega), q_dropOldM, if_neg (by omega)]; exact w3 u hu
        have p2 : zup t 56 v (nI i) 53 u = M 53 u := by rw [zup_fr (by omega)]; exact t3 _ _ (by omega)
        have k1 : zup (o_Model_dropOld W 56) 56 v (nI i) 56 u = zup t 56 v (nI i) 56 u := by
          by_cases e : u = v
          · rw [e, zup_at, zup_at]
          · rw [zup_fr (by omega), zup_fr (by omega), q_dropOldM, if_neg (by omega), w1 u hu e, t1 u hu e]
        unfold q_nA o_Model_ticks
        rw [l1, l2, p1, p2, k1])
      rw [eA]
      obtain ⟨cc, h1, h2⟩ := q_cntN (P := fun u => q_nA (zup t 56 v (nI i)) 56 st tt u) (n := n)
      rw [h2, q_two (by omega)]
    · rw [if_neg c, show o_Model_isStation M (nI st) = false by simpa using c, Bool.not_false, Bool.true_or, if_pos (show nI ww ≤ 2 from nI_le (a := ww) (b := 2) hww (by omega)), decide_eq_true rfl]
  · rw [hp 47 j (by omega), hp 48 j (by omega), hp 49 j (by omega), m_ex R1.1.1 hM h8]
    by_cases c : o_Model_isStation M (C 47 j) = true
    · rw [if_pos c]
      by_cases c2 : o_Obs_sight (o_Mesh_place s 27 v (nI i)) 27 (zcn (C 47 j)) (C 48 j) = C 49 j
      · rw [if_pos c2, if_pos (by simp [c2])]
      · rw [if_neg c2, if_neg (by simp [c, c2])]
    · rw [if_neg c, if_pos (by simp [c])]
theorem op_which (H : zREL K C M x y) (s : Int32) : (o_Slots_which C s).1 = (o_Model_which M s).1 ∧ zREL (K + 40) (o_Slots_which C s).2 (o_Model_which M s).2 x y := by
  have fM : ∀ c j, ¬ zscrM c j → (o_Model_which M s).2 c j = M c j := fun c j q => by
    unfold zscrM at q
    apply fr_Model_which <;> omega
  have fC : ∀ c j, ¬ zscrC c j → (o_Slots_which C s).2 c j = C c j := fun c j q => by
    unfold zscrC at q
    apply fr_Slots_which <;> omega
  refine ⟨?_, zREL_same (zREL_fr fC fM H)⟩
  obtain ⟨n, R, h2, h3, h4, h5, h6, h7⟩ := id H
  have h8 := m_8 R
  obtain ⟨q, hq, o1, o2, o3⟩ := h4
  unfold o_Slots_which o_Model_which
  rw [m_exE R]
  by_cases c : o_Model_isStation M s = true
  · rw [if_pos c, if_pos c]
    obtain ⟨v, hv, ev, zv⟩ := m_exT R c
    rw [zv, show C 4 v = M 53 v from (R.1.2.2.2 v hv).1]
    dsimp only
    have cM := q_copyM (k := M) (r := 54) (r2 := 56) (by omega) (by omega) (by decide)
    have key := q_rel (fun i (s : Int32 × zHp) (t : Int32 × zHp) => s.1 = t.1 ∧ (∀ c j, (c < 27 ∨ 38 < c) → s.2 c j = C c j) ∧ (∃ W, zmr s.2 27 W 56 n (q_all n) K ∧ (∀ u, u < n → u ≠ v → W 56 u = M 54 u) ∧ (∀ u, u < n → W 56 (16 + u) = M 54 (16 + u)) ∧ (∀ u, u < n → W 53 u = M 53 u)) ∧ (∀ u, u < n → u ≠ v → t.2 56 u = M 54 u) ∧ (∀ u, u < n → t.2 56 (16 + u) = M 54 (16 + u)) ∧ (∀ c j, c ≠ 56 → t.2 c j = M c j))
      (f := (fun (i28_3 : Nat) (s28_3 : Int32 × zHp) => ((if (o_Obs_agreeWith (o_Mesh_place s28_3.2 27 v (nI i28_3)) 27) = true then (s28_3.1 ||| (zshl 1 (nI i28_3))) else s28_3.1), (o_Mesh_place s28_3.2 27 v (nI i28_3)))))
      (g := (fun (i25_3 : Nat) (s25_3 : Int32 × zHp) => ((s25_3.1 ||| (if (zrep (fun (i48_10 : Nat) (s48_10 : Bool) => (s48_10 && (decide ((if (if (o_Model_isStation M (M 60 i48_10)) = true then (o_Model_senders (zup s25_3.2 56 v (nI i25_3)) 56 (zcn (M 60 i48_10)) (M 61 i48_10)) else (M 62 i48_10)) ≤ 2 then (if (o_Model_isStation M (M 60 i48_10)) = true then (o_Model_senders (zup s25_3.2 56 v (nI i25_3)) 56 (zcn (M 60 i48_10)) (M 61 i48_10)) else (M 62 i48_10)) else 2) = (M 62 i48_10))))) true (zcn (M 51 4))) = true then (zshl 1 (nI i25_3)) else 0)), (zup s25_3.2 56 v (nI i25_3)))))
      (a := (0, (o_Mesh_copyFrom C 27 3))) (b := (0, (o_Model_copy M 54 56))) (zcn (M 53 v))
      ⟨rfl, fun c j z => (by dsimp only; apply fr_Mesh_copyFrom <;> omega), ⟨o_Model_copy M 54 56, m_copyM (r2 := 56) (Or.inl rfl) (Or.inr (Or.inr rfl)) (by decide) (m_copyC (b := 27) (o := 3) (Or.inr (Or.inr rfl)) (Or.inl rfl) (by decide) R), fun u hu _ => by rw [cM, if_pos ⟨rfl, by omega⟩], fun u hu => by rw [cM, if_pos ⟨rfl, by omega⟩], fun u hu => by rw [cM, if_neg (by omega)]⟩, fun u hu _ => by dsimp only; rw [cM, if_pos ⟨rfl, by omega⟩], fun u hu => by dsimp only; rw [cM, if_pos ⟨rfl, by omega⟩], fun c j z => by dsimp only; rw [cM, if_neg (by omega)]⟩
      (fun i s t hi hI => by
        obtain ⟨I1, I2, ⟨W, I3, I4, I5, I6⟩, I7, I8, I9⟩ := hI
        have ag := m_agree I3 hv hi hq o1 o2 o3 R.1.2.1 I2 I4 I5 I6 I7 I8 I9
        have R1 := m_place I3 (Or.inr (Or.inr rfl)) hv (o := nI i) (Or.inr ⟨i, by rw [I6 v hv]; exact hi, rfl⟩)
        dsimp only
        rw [ag, I1]
        refine ⟨?_, fun c j z => ?_, ⟨_, R1, fun u hu z => ?_, fun u hu => ?_, fun u hu => ?_⟩, fun u hu z => ?_, fun u hu => ?_, fun c j z => ?_⟩
        · by_cases z : (zrep (fun (i48_10 : Nat) (s48_10 : Bool) => (s48_10 && (decide ((if (if (o_Model_isStation M (M 60 i48_10)) = true then (o_Model_senders (zup t.2 56 v (nI i)) 56 (zcn (M 60 i48_10)) (M 61 i48_10)) else (M 62 i48_10)) ≤ 2 then (if (o_Model_isStation M (M 60 i48_10)) = true then (o_Model_senders (zup t.2 56 v (nI i)) 56 (zcn (M 60 i48_10)) (M 61 i48_10)) else (M 62 i48_10)) else 2) = (M 62 i48_10))))) true (zcn (M 51 4))) = true
          · rw [if_pos z, if_pos z]
          · rw [if_neg z, if_neg z, q_or_0]
        · refine Eq.trans ?_ (I2 c j z)
          apply fr_Mesh_place <;> omega
        · rw [zup_fr (by omega), q_dropOldM, if_neg (by omega)]
          exact I4 u hu z
        · rw [zup_fr (by omega), q_dropOldM, if_neg (by omega)]
          exact I5 u hu
        · rw [zup_fr (by omega), q_dropOldM, if_neg (by omega)]
          exact I6 u hu
        · rw [zup_fr (by omega)]
          exact I7 u hu z
        · rw [zup_fr (by omega)]
          exact I8 u hu
        · rw [zup_fr (by omega)]
          exact I9 c j z)
    exact key.1
  · rw [if_neg c, if_neg c]
end ZO
