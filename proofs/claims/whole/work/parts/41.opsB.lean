/-! The calls: shift, join, undo, slots, observations, the random state, the text's length. -/
theorem q_distE {n b : Nat} {h k : zHp} {r : Nat} {on : Int32} {K : Nat} (R : zmr h b k r n on K) {s d : Int32} : (∃ v e, v < n ∧ s = nI v ∧ e < 8 ∧ d = nI e ∧ o_Model_isStation k s = true ∧ o_Model_in (Int32.toInt64 d) 0 7 = true ∧ o_Mesh_distanceError h b s d = 0) ∨ (o_Model_isStation k s = true ∧ ¬ o_Model_in (Int32.toInt64 d) 0 7 = true ∧ o_Mesh_distanceError h b s d = -2) ∨ (¬ o_Model_isStation k s = true ∧ o_Mesh_distanceError h b s d = -1) := by
  unfold o_Mesh_distanceError
  rw [m_exE R]
  have e0 : (0 : Int32).toInt = 0 := rfl
  have e7 : (7 : Int64).toInt = 7 := rfl
  have e8 : (8 : Int32).toInt = 8 := rfl
  have e9 : (0 : Int64).toInt = 0 := rfl
  by_cases c1 : o_Model_isStation k s = true
  · rw [if_pos c1]
    obtain ⟨v, hv, ev, zv⟩ := m_exT R c1
    by_cases c3 : d < 0
    · rw [if_pos c3]
      refine Or.inr (Or.inl ⟨c1, fun q => ?_, rfl⟩)
      rw [q_inI] at q
      rw [Int32.lt_iff_toInt_lt] at c3
      omega
    · rw [if_neg c3]
      by_cases c4 : 8 ≤ d
      · rw [if_pos c4]
        refine Or.inr (Or.inl ⟨c1, fun q => ?_, rfl⟩)
        rw [q_inI] at q
        rw [Int32.le_iff_toInt_le] at c4
        omega
      · rw [if_neg c4]
        obtain ⟨e, he, ee⟩ := q_nat (N := 8) c3 c4 (by decide)
        refine Or.inl ⟨v, e, hv, ev, he, ee, c1, ?_, rfl⟩
        rw [q_inI, ee, nI_toInt (by omega)]
        omega
  · rw [if_neg c1]
    exact Or.inr (Or.inr ⟨c1, rfl⟩)
theorem q_net_congr {L L2 : Nat → Int32} {n v : Nat} (h : ∀ e, e < n → L e = L2 e) : q_net L n v = q_net L2 n v := by
  unfold q_net q_G
  exact q_congr 8 (fun i s _ => q_congr n (fun e t he => by rw [h e he]))
theorem zrep_head {σ : Type} {f : Nat → σ → σ} {a : σ} : ∀ n, zrep f a (n + 1) = zrep (fun i s => f (1 + i) s) (f 0 a) n
  | 0 => rfl
  | n + 1 => by
    show f (n + 1) (zrep f a (n + 1)) = f (1 + n) (zrep (fun i s => f (1 + i) s) (f 0 a) n)
    rw [zrep_head n, Nat.add_comm 1 n]
theorem q_conf_small {h : zHp} {b n : Nat} (hn : h b 0 = nI n) (h8 : n ≤ 8) : ∃ m, m ≤ 64 ∧ o_Mesh_conflicts h b = nI m := by
  unfold o_Mesh_conflicts
  rw [hn, zcn_nI (by omega)]
  have key := zrep_inv (f := fun (i4_1 : Nat) (s4_1 : Int32) => (zrep (fun (i14_2 : Nat) (s14_2 : Int32) => (if (o_Slots_has (h (b + 6) i4_1) (nI i14_2)) = true then (if ((h (b + 9) i14_2) &&& (h (b + 9) i4_1)) = 0 then s14_2 else (s14_2 + 1)) else s14_2)) s4_1 i4_1)) (a := (0 : Int32)) (fun i s => ∃ m, m ≤ 8 * i ∧ s = nI m) n ⟨0, by omega, rfl⟩ (fun i s hi hI => by
    obtain ⟨m, hm, rfl⟩ := hI
    have k2 := zrep_inv (f := fun (i14_2 : Nat) (s14_2 : Int32) => (if (o_Slots_has (h (b + 6) i) (nI i14_2)) = true then (if ((h (b + 9) i14_2) &&& (h (b + 9) i)) = 0 then s14_2 else (s14_2 + 1)) else s14_2)) (a := nI m) (fun j s => ∃ m2, m2 ≤ m + j ∧ s = nI m2) i ⟨m, by omega, rfl⟩ (fun j s hj hJ => by
      obtain ⟨m2, hm2, rfl⟩ := hJ
      repeat' split
      · exact ⟨m2, by omega, rfl⟩
      · exact ⟨m2 + 1, by omega, nI_1 m2⟩
      · exact ⟨m2, by omega, rfl⟩)
    obtain ⟨m2, hm2, e⟩ := k2
    exact ⟨m2, by omega, e⟩)
  obtain ⟨m, hm, e⟩ := key
  exact ⟨m, by omega, e⟩
section ZO
variable {K : Nat} {C M : zHp} {x y : Int64}
/-- conflicts after a shift, on copies -/
theorem m_after {n : Nat} (R : zmr C 3 M 54 n (q_all n) K) {set d : Int32} {e : Nat} (hd : d = nI e) (he : e < 8) : (o_Slots_conflictsAfter C set d).1 = (o_Model_clashes (o_Model_shiftOf (o_Model_copy M 54 56) 56 set d) 56).1 := by
  have h8 := m_8 R
  have R2 := m_copyM (r2 := 56) (Or.inl rfl) (Or.inr (Or.inr rfl)) (by decide) (m_copyC (b := 27) (o := 3) (Or.inr (Or.inr rfl)) (Or.inl rfl) (by decide) R)
  have R3 := m_move R2 (Or.inr (Or.inr rfl)) (set := set) hd he
  unfold o_Slots_conflictsAfter
  dsimp only
  rw [m_conf (Or.inr (Or.inr rfl)) R3]
  have s1 := q_shiftOf (k := o_Model_dropOld (o_Model_copy M 54 56) 56) (r := 56) (net := set) (d := d) (Or.inr (Or.inr rfl)) (by rw [q_dropOldM, if_neg (by omega)]; exact R2.1.2.1) h8
  have s2 := q_shiftOf (k := o_Model_copy M 54 56) (r := 56) (net := set) (d := d) (Or.inr (Or.inr rfl)) R2.1.2.1 h8
  have g : ∀ c j, ¬ (c = 56 ∧ 8 ≤ j ∧ j < 16) → o_Model_dropOld (o_Model_copy M 54 56) 56 c j = o_Model_copy M 54 56 c j := fun c j q => by rw [q_dropOldM, if_neg q]
  have eq : ∀ c j, ¬ (c = 56 ∧ 8 ≤ j ∧ j < 16) → o_Model_shiftOf (o_Model_dropOld (o_Model_copy M 54 56) 56) 56 set d c j = o_Model_shiftOf (o_Model_copy M 54 56) 56 set d c j := fun c j q => by
    rw [s1, s2]
    by_cases a1 : c = 56 ∧ j < n
    · rw [if_pos a1, if_pos a1]
      unfold q_sh
      rw [g 56 j (by omega), g 53 j (by omega)]
    · rw [if_neg a1, if_neg a1, g _ _ q]
  exact q_clash_congr (Or.inr (Or.inr rfl)) h8 (by rw [s2, if_neg (by omega)]; exact R2.1.2.1) (by rw [s1, if_neg (by omega), g _ _ (by omega)]; exact R2.1.2.1) (fun v hv => eq _ _ (by omega)) (fun v hv => ⟨eq _ _ (by omega), eq _ _ (by omega)⟩)
theorem op_shifted (H : zREL K C M x y) (s d : Int32) : (o_Slots_shifted C s d).1 = (o_Model_shifted M s d).1 ∧ zREL (K + 40) (o_Slots_shifted C s d).2 (o_Model_shifted M s d).2 x y := by
  obtain ⟨n, R, -⟩ := id H
  have h8 := m_8 R
  have fC : ∀ c j, ¬ zscrC c j → (o_Slots_shifted C s d).2 c j = C c j := fun c j q => by
    unfold zscrC at q
    apply fr_Slots_shifted <;> omega
  have fM : ∀ c j, ¬ zscrM c j → (o_Model_shifted M s d).2 c j = M c j := fun c j q => by
    unfold zscrM at q
    apply fr_Model_shifted <;> omega
  refine ⟨?_, zREL_same (zREL_fr fC fM H)⟩
  unfold o_Slots_shifted o_Model_shifted
  dsimp only
  rcases q_distE R (s := s) (d := d) with ⟨v, e, hv, ev, he, ee, c1, c2, e1⟩ | ⟨c1, c2, e1⟩ | ⟨c1, e1⟩
  · rw [e1, if_pos rfl, if_pos c1, if_pos c2]
    dsimp only
    rw [m_after R ee he, ev, m_net R hv, m_netM (k := o_Model_copy M 54 56) (r := 56) (n := n) (by rw [q_copyM (by omega) (by omega) (by decide), if_neg (by omega)]; exact R.1.2.1) h8]
    have hL : q_net (fun e => o_Model_copy M 54 56 56 (16 + e)) n v = q_net (fun e => M 54 (16 + e)) n v := q_net_congr (fun e he2 => by
      show o_Model_copy M 54 56 56 (16 + e) = M 54 (16 + e)
      rw [q_copyM (by omega) (by omega) (by decide), if_pos ⟨rfl, by omega⟩])
    rw [hL]
  · rw [e1, if_neg (by decide), if_pos c1, if_neg c2]
  · rw [e1, if_neg (by decide), if_neg c1]
theorem op_shift (H : zREL K C M x y) (hK : K < 2 ^ 17) (s d : Int32) : (o_Slots_shift C s d).1 = (o_Model_shift M s d).1 ∧ zREL (K + 40) (o_Slots_shift C s d).2 (o_Model_shift M s d).2 x y := by
  obtain ⟨n, R, h2, h3, h4, h5, h6, h7⟩ := id H
  have h8 := m_8 R
  unfold o_Slots_shift o_Model_shift
  rcases q_distE R (s := s) (d := d) with ⟨v, e, hv, ev, he, ee, c1, c2, e1⟩ | ⟨c1, c2, e1⟩ | ⟨c1, e1⟩
  · rw [e1, if_pos rfl, if_pos c1, if_pos c2]
    dsimp only
    have R1 := m_noteR R
    have hnet : o_Mesh_netOf C 3 s = o_Model_netOf (o_Model_dropOld (o_Model_note M) 54) 54 s := by
      rw [ev, m_net R hv, m_netM (k := o_Model_dropOld (o_Model_note M) 54) (r := 54) (n := n) (by rw [q_dropOldM, if_neg (by omega)]; exact R1.1.2.1) h8]
      have e2 : (fun e => o_Model_dropOld (o_Model_note M) 54 54 (16 + e)) = fun e => M 54 (16 + e) := funext fun e => by
        rw [q_dropOldM, if_neg (by omega)]
        exact fr_Model_note _ _ (by omega) (by omega) (by omega)
      rw [e2]
    rw [hnet]
    have R2 := m_move R1 (Or.inl rfl) (set := o_Model_netOf (o_Model_dropOld (o_Model_note M) 54) 54 s) ee he
    refine ⟨m_conf (Or.inl rfl) R2, zREL_act (K2 := K + 40) (by omega) R h2 h3 h4 h5 h6 h7 (zmr_mono (by omega) (m_layNear (Or.inl rfl) R2)) (fun c j q1 q2 => ?_) (fun c j q1 q2 => ?_)⟩
    · unfold zscrC at q1
      exact fr_Mesh_moveAll _ _ (by omega) (by omega) (by omega) (by omega)
    · unfold zscrM at q1
      exact (fr_Model_layNear _ _ (by omega) (by omega)).trans ((fr_Model_shiftOf _ _ (by omega)).trans (fr_Model_dropOld _ _ (by omega)))
  · rw [e1, if_neg (by decide), if_pos c1, if_neg c2]
    exact ⟨rfl, zREL_same H⟩
  · rw [e1, if_neg (by decide), if_neg c1]
    exact ⟨rfl, zREL_same H⟩
/-- which of two nets goes -/
theorem q_goes {a b : Int32} {n i j : Nat} (h8 : n ≤ 8) (ga : y_on n a) (gb : y_on n b) (ha : bt a i = true) (hb : bt b j = true) : o_Slots_netToMove a b = (if (o_Model_ones a) < (o_Model_ones b) then a else (if (o_Model_ones a) = (o_Model_ones b) then (if (o_Model_leastOf a) ≤ (o_Model_leastOf b) then b else a) else b)) := by
  unfold o_Slots_netToMove
  rw [q_bc h8 ga, q_bc h8 gb]
  obtain ⟨p, hp, ep⟩ := zon a
  obtain ⟨q, hq, eq⟩ := zon b
  rw [ep, eq]
  rcases Nat.lt_trichotomy p q with c | c | c
  · have h1 : ¬ nI p - nI q = 0 := fun z => by
      have := congrArg Int32.toInt z
      rw [pk_sub_toInt (by omega) (by omega)] at this
      have e0 : (0 : Int32).toInt = 0 := rfl
      omega
    rw [if_neg h1, if_pos (nI_lt c (by omega)), if_neg (fun z => ?_)]
    exact absurd (pk_sneg (a := p) (b := q) (by omega) c) (Int32.not_lt.mpr z)
  · subst c
    rw [if_pos (Int32.sub_self _), if_neg (c := nI p < nI p) (nI_nlt (Nat.le_refl _) (by omega)), if_pos rfl]
    rcases q_least h8 ga with ⟨z, -⟩ | ⟨ka, hka, la, -, lowa, -⟩
    · rw [z, b_0] at ha
      cases ha
    · rcases q_least h8 gb with ⟨z, -⟩ | ⟨kb, hkb, lb, -, lowb, -⟩
      · rw [z, b_0] at hb
        cases hb
      · rw [la, lb, lowa, lowb]
        have key : ∀ x, x < 8 → ∀ y, y < 8 → (0 ≤ zshl 1 (nI y) - zshl 1 (nI x) ↔ nI x ≤ nI y) := by decide +kernel
        exact q_Pcongr (key ka (by omega) kb (by omega))
  · have h1 : ¬ nI p - nI q = 0 := fun z => by
      have := congrArg Int32.toInt z
      rw [pk_sub_toInt (by omega) (by omega)] at this
      have e0 : (0 : Int32).toInt = 0 := rfl
      omega
    have h2 : 0 ≤ nI p - nI q := by
      rw [Int32.le_iff_toInt_le, pk_sub_toInt (by omega) (by omega)]
      have e0 : (0 : Int32).toInt = 0 := rfl
      omega
    rw [if_neg h1, if_pos h2, if_neg (c := nI p < nI q) (nI_nlt (by omega) (by omega)), if_neg (c := nI p = nI q) (fun z => by have := (nI_eq (a := p) (b := q) (by omega) (by omega)).mp z; omega)]
end ZO
