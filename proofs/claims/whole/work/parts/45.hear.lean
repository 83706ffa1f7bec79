/-! Who hears: awake, arrives, which. -/
theorem q_last {P : Nat → Bool} : ∀ {n : Nat}, n ≤ 32 → ∃ c, c ≤ n ∧ zrep (fun i (s : Int32) => s + zb (P i)) 0 n = nI c ∧ (c = 0 → q_mk P n = 0 ∧ zrep (fun i (s : Int32) => if P i = true then nI i else s) (-9) n = -9) ∧ (c = 1 → ∃ e, e < n ∧ q_mk P n = zshl 1 (nI e) ∧ zrep (fun i (s : Int32) => if P i = true then nI i else s) (-9) n = nI e)
  | 0, _ => ⟨0, Nat.le_refl _, rfl, fun _ => ⟨rfl, rfl⟩, fun h => absurd h (by omega)⟩
  | n + 1, hn => by
    obtain ⟨c, h1, h2, h3, h4⟩ := q_last (P := P) (n := n) (by omega)
    have e1 : zrep (fun i (s : Int32) => s + zb (P i)) 0 (n + 1) = nI c + zb (P n) := by rw [← h2]; rfl
    have e2 : q_mk P (n + 1) = if P n = true then q_mk P n ||| zshl 1 (nI n) else q_mk P n := rfl
    have e3 : zrep (fun i (s : Int32) => if P i = true then nI i else s) (-9) (n + 1) = if P n = true then nI n else zrep (fun i (s : Int32) => if P i = true then nI i else s) (-9) n := rfl
    rw [e1, e2, e3]
    by_cases hP : P n = true
    · rw [if_pos hP, if_pos hP, hP]
      refine ⟨c + 1, by omega, nI_1 c, fun h => absurd h (by omega), fun h => ⟨n, by omega, ?_, rfl⟩⟩
      rw [(h3 (by omega)).1, q_0_or]
    · rw [if_neg hP, if_neg hP, show P n = false by simpa using hP]
      refine ⟨c, by omega, Int32.add_zero _, h3, fun h => ?_⟩
      obtain ⟨e, he, z⟩ := h4 h
      exact ⟨e, by omega, z⟩
section ZQ
variable {h : zHp} {b : Nat} {k : zHp} {r n : Nat} {K : Nat}
def q_nA (k : zHp) (r v t : Nat) (i : Nat) : Bool := bt (k r (16 + v)) i && bt (o_Model_ticks k r i) t
theorem m_nA (R : zmr h b k r n (q_all n) K) {v t : Nat} (hv : v < n) (ht : t < 32) : o_Mesh_neighboursAt h b v (nI t) = q_mk (q_nA k r v t) n := by
  have h8 := m_8 R
  unfold o_Mesh_neighboursAt
  rw [(m_cnt R).1]
  refine q_congr n (fun i s hi => ?_)
  rw [(m_rowAll R hv).1, q_has (by omega), m_tick R hi (m_on_all h8 hi), q_has ht]
  unfold q_nA
  by_cases c1 : bt (k r (16 + v)) i = true
  · by_cases c2 : bt (o_Model_ticks k r i) t = true
    · rw [if_pos c1, if_pos c2, if_pos (by rw [c1, c2]; rfl)]
    · rw [if_pos c1, if_neg c2, if_neg (by rw [Bool.and_eq_true]; exact fun q => c2 q.2)]
  · rw [if_neg c1, if_neg (by rw [Bool.and_eq_true]; exact fun q => c1 q.1)]
theorem m_sen (hn : k 51 1 = nI n) (h8 : n ≤ 8) {v t : Nat} (ht : t < 32) : o_Model_senders k r v (nI t) = zrep (fun i (s : Int32) => s + zb (q_nA k r v t i)) 0 n := by
  unfold o_Model_senders
  rw [hn, zcn_nI (by omega)]
  refine q_congr n (fun i s hi => ?_)
  rw [q_hasM (by omega), q_hasM ht]
  rfl
theorem m_send (R : zmr h b k r n (q_all n) K) {v t : Nat} (hv : v < n) (ht : t < 32) : o_Int_bitCount (o_Mesh_neighboursAt h b v (nI t)) = o_Model_senders k r v (nI t) := by
  rw [m_nA R hv ht, m_sen R.1.2.1 (m_8 R) ht, q_bc_mk (m_8 R)]
/-- whom a station hears -/
theorem m_heard (R : zmr h b k 54 n (q_all n) K) {v t : Nat} (hv : v < n) (ht : t < 32) : (o_Mesh_heardBy h b v (nI t) = 0 ∧ o_Model_heardAt k v (nI t) = -9) ∨ ∃ e, e < n ∧ o_Mesh_heardBy h b v (nI t) = zshl 1 (nI e) ∧ o_Model_heardAt k v (nI t) = nI e := by
  have h8 := m_8 R
  have hl : zrep (fun (i39_1 : Nat) (s39_1 : Int32) => (if (o_Model_has (k 54 (16 + v)) (nI i39_1)) = true then (if (o_Model_has (o_Model_ticks k 54 i39_1) (nI t)) = true then (nI i39_1) else s39_1) else s39_1)) (-9) (zcn (k 51 1)) = zrep (fun i (s : Int32) => if q_nA k 54 v t i = true then nI i else s) (-9) n := by
    rw [(m_cnt R).2]
    refine q_congr n (fun i s hi => ?_)
    rw [q_hasM (by omega), q_hasM ht]
    unfold q_nA
    by_cases c1 : bt (k 54 (16 + v)) i = true
    · by_cases c2 : bt (o_Model_ticks k 54 i) t = true
      · rw [if_pos c1, if_pos c2, if_pos (by rw [c1, c2]; rfl)]
      · rw [if_pos c1, if_neg c2, if_neg (by rw [Bool.and_eq_true]; exact fun q => c2 q.2)]
    · rw [if_neg c1, if_neg (by rw [Bool.and_eq_true]; exact fun q => c1 q.1)]
  unfold o_Mesh_heardBy o_Model_heardAt
  rw [m_send R hv ht, hl, m_tick R hv (m_on_all h8 hv), q_has ht, q_hasM ht, m_nA R hv ht, m_sen R.1.2.1 h8 ht]
  obtain ⟨c, h1, h2, h3, h4⟩ := q_last (P := q_nA k 54 v t) (n := n) (by omega)
  rw [h2]
  by_cases c1 : bt (o_Model_ticks k 54 v) t = true
  · rw [if_pos c1, if_pos c1]
    refine Or.inl ⟨rfl, ?_⟩
    by_cases q : nI c = 1
    · rw [if_pos q]
    · rw [if_neg q]
  · rw [if_neg c1, if_neg c1]
    by_cases q : nI c = 1
    · rw [if_pos q, if_pos q]
      have hc : c = 1 := (nI_eq (a := c) (b := 1) (by omega) (by omega)).mp q
      obtain ⟨e, he, z1, z2⟩ := h4 hc
      exact Or.inr ⟨e, he, z1, z2⟩
    · rw [if_neg q, if_neg q]
      exact Or.inl ⟨rfl, rfl⟩
theorem m_awakeT (R : zmr h b k 54 n (q_all n) K) {v : Nat} (hv : v < n) : o_Mesh_awakeTicks h b v = o_Model_awakeTicks k v := by
  have h8 := m_8 R
  unfold o_Mesh_awakeTicks o_Model_awakeTicks
  rw [(m_cnt R).1, (m_cnt R).2, m_tick R hv (m_on_all h8 hv)]
  refine q_congr n (fun i s hi => ?_)
  rw [(m_rowAll R hv).1, q_has (by omega), q_hasM (by omega), m_tick R hi (m_on_all h8 hi)]
  by_cases c1 : bt (k 54 (16 + v)) i = true
  · rw [if_pos c1, if_pos c1]
  · rw [if_neg c1, if_neg c1, q_or_0]
theorem m_awakeS (v : Nat) : ∀ i, 8 ≤ i → i < 32 → bt (o_Model_awakeTicks k v) i = false := by
  intro i h1 h2
  unfold o_Model_awakeTicks
  refine zrep_inv (fun _ (s : Int32) => bt s i = false) _ (q_tk_small i h1 h2) (fun j s hj hI => ?_)
  rw [b_or, hI, Bool.false_or]
  by_cases c1 : o_Model_has (k 54 (16 + v)) (nI j) = true
  · rw [if_pos c1]
    exact q_tk_small i h1 h2
  · rw [if_neg c1]
    exact b_0 i
end ZQ
theorem q_wake256 : ∀ x, x < 256 → o_Int_bitCount (nI x &&& (o_Slots_oneTickLater (nI x) ^^^ (-1))) = zrep (fun (i : Nat) (s : Int32) => s + zb (o_Model_has (nI x) (nI i) && (!(o_Model_has (nI x) (zrem (nI i + 7) 8))))) 0 8 := by decide +kernel
theorem q_pair {f : Nat → Int32} {g : Nat → Int32 → Int32} : ∀ n, zrep (fun (i : Nat) (s : Int32 × Int32) => (s.1 + f i, g i s.2)) (0, 0) n = (zrep (fun (i : Nat) (s : Int32) => s + f i) 0 n, zrep g 0 n)
  | 0 => rfl
  | n + 1 => by
    show ((zrep (fun (i : Nat) (s : Int32 × Int32) => (s.1 + f i, g i s.2)) (0, 0) n).1 + f n, g n (zrep (fun (i : Nat) (s : Int32 × Int32) => (s.1 + f i, g i s.2)) (0, 0) n).2) = _
    rw [q_pair n]
    rfl
section ZO
variable {K : Nat} {C M : zHp} {x y : Int64}
theorem op_awake (H : zREL K C M x y) (s a : Int32) : o_Slots_awake C s a = o_Model_awake M s a := by
  obtain ⟨n, R, -⟩ := id H
  have h8 := m_8 R
  unfold o_Slots_awake o_Model_awake
  rw [m_exE R]
  have e0 : (0 : Int32).toInt = 0 := rfl
  have e9 : (0 : Int64).toInt = 0 := rfl
  have e7 : (3 : Int64).toInt = 3 := rfl
  have e1 : (1 : Int32).toInt = 1 := rfl
  have e2 : (2 : Int32).toInt = 2 := rfl
  have e3 : (3 : Int32).toInt = 3 := rfl
  by_cases c : o_Model_isStation M s = true
  · rw [if_pos c, if_pos c]
    obtain ⟨v, hv, ev, zv⟩ := m_exT R c
    rw [zv, m_awakeT R hv]
    have hs := m_awakeS (k := M) v
    by_cases d0 : a = 0
    · rw [if_pos d0, if_pos (c := o_Model_in (Int32.toInt64 a) 0 3 = true) (by rw [q_inI, d0]; omega), if_pos d0]
    · rw [if_neg d0]
      by_cases d1 : a = 1
      · rw [if_pos d1, if_pos (c := o_Model_in (Int32.toInt64 a) 0 3 = true) (by rw [q_inI, d1]; omega), if_neg d0, if_pos d1]
        exact q_bc (n := 8) (by omega) hs
      · rw [if_neg d1]
        by_cases d2 : a = 2
        · rw [if_pos d2, if_pos (c := o_Model_in (Int32.toInt64 a) 0 3 = true) (by rw [q_inI, d2]; omega), if_neg d0, if_neg d1, if_pos d2, q_pair (f := fun i => zb ((o_Model_has (o_Model_awakeTicks M v) (nI i)) && (!(o_Model_has (o_Model_awakeTicks M v) (zrem ((nI i) + 7) 8))))) (g := fun i s => (s ||| (if (o_Model_heardAt M v (nI i)) = (-9) then 0 else (zshl 1 (nI i))))) 8]
          obtain ⟨m, hm, em⟩ := q_small8 (n := 8) (by omega) hs
          rw [em]
          exact q_wake256 m hm
        · rw [if_neg d2]
          by_cases d3 : a = 3
          · rw [if_pos d3, if_pos (c := o_Model_in (Int32.toInt64 a) 0 3 = true) (by rw [q_inI, d3]; omega), if_neg d0, if_neg d1, if_neg d2, q_pair (f := fun i => zb ((o_Model_has (o_Model_awakeTicks M v) (nI i)) && (!(o_Model_has (o_Model_awakeTicks M v) (zrem ((nI i) + 7) 8))))) (g := fun i s => (s ||| (if (o_Model_heardAt M v (nI i)) = (-9) then 0 else (zshl 1 (nI i))))) 8]
            unfold o_Mesh_hearingTicks
            dsimp only
            refine q_congr 8 (fun i s hi => ?_)
            rcases m_heard R hv (t := i) (by omega) with ⟨z1, z2⟩ | ⟨e, he, z1, z2⟩
            · rw [z1, z2, if_pos rfl, if_pos rfl, q_or_0]
            · have hne : ¬ zshl 1 (nI e) = 0 := fun z => by
                have := q_one (k := e) (i := e) (by omega) (by omega)
                rw [z, b_0] at this
                simp at this
              rw [z1, z2, if_neg hne, if_neg (q_nI_ne9 (by omega))]
          · rw [if_neg d3, if_neg (fun z => ?_)]
            rw [q_inI] at z
            have : a = 0 ∨ a = 1 ∨ a = 2 ∨ a = 3 := by
              have h4 : a.toInt = 0 ∨ a.toInt = 1 ∨ a.toInt = 2 ∨ a.toInt = 3 := by omega
              rcases h4 with h4 | h4 | h4 | h4
              · exact Or.inl (Int32.toInt_inj.mp h4)
              · exact Or.inr (Or.inl (Int32.toInt_inj.mp h4))
              · exact Or.inr (Or.inr (Or.inl (Int32.toInt_inj.mp h4)))
              · exact Or.inr (Or.inr (Or.inr (Int32.toInt_inj.mp h4)))
            rcases this with q | q | q | q
            · exact d0 q
            · exact d1 q
            · exact d2 q
            · exact d3 q
  · rw [if_neg c, if_neg c]
theorem op_arrives (H : zREL K C M x y) (f t a : Int32) : o_Slots_arrives C f t a = o_Model_arrives M f t a := by
  obtain ⟨n, R, -⟩ := id H
  have h8 := m_8 R
  unfold o_Slots_arrives o_Model_arrives
  rw [m_exE R, m_exE R]
  have e0 : (0 : Int32).toInt = 0 := rfl
  have e9 : (0 : Int64).toInt = 0 := rfl
  have e7 : (7 : Int64).toInt = 7 := rfl
  have e8 : (8 : Int32).toInt = 8 := rfl
  by_cases c1 : o_Model_isStation M f = true
  · rw [if_pos c1, if_pos c1]
    by_cases c2 : o_Model_isStation M t = true
    · rw [if_pos c2, if_pos c2]
      obtain ⟨v, hv, ev, zv⟩ := m_exT R c2
      by_cases c3 : a < 0
      · rw [if_pos c3, if_neg (fun z => by rw [q_inI] at z; rw [Int32.lt_iff_toInt_lt] at c3; omega)]
      · rw [if_neg c3]
        by_cases c4 : a < 8
        · have c5 : ¬ nI 8 ≤ a := Int32.not_le.mpr c4
          obtain ⟨tn, htn, et⟩ := q_nat (N := 8) c3 c5 (by decide)
          rw [if_pos c4, if_pos (c := o_Model_in (Int32.toInt64 a) 0 7 = true) (by rw [q_inI, et, nI_toInt (by omega)]; omega)]
          rw [q_xcongr (g := (fun (i41_4 : Nat) (s41_4 : Int32) => ((if (o_Model_has s41_4 t) = true then .inr (nI i41_4) else .inl (zrep (fun (i67_5 : Nat) (s67_5 : Int32) => (s67_5 ||| (if (o_Model_heardAt M i67_5 (zrem (a + (nI i41_4)) 8)) = (-9) then 0 else (if (o_Model_has s41_4 (o_Model_heardAt M i67_5 (zrem (a + (nI i41_4)) 8))) = true then (zshl 1 (nI i67_5)) else 0)))) s41_4 (zcn (M 51 1)))) : (Int32) ⊕ (Int32)))) 65 (fun i s hi => ?_)]
          rw [ev, q_has (by omega), q_hasM (by omega)]
          refine ite_congr rfl (fun _ => rfl) (fun _ => ?_)
          congr 1
          have et2 : zrem (a + nI i) 8 = nI ((tn + i) % 8) := zn_rem (y := 8) (b := 8) (zn_add et rfl) rfl (by omega) (by decide) (by decide)
          have h3 : (tn + i) % 8 < 8 := Nat.mod_lt _ (by decide)
          rw [et2]
          generalize (tn + i) % 8 = u at h3
          -- both add those that hear a holder
          have hP : ∀ w, w < n → (¬ (o_Mesh_heardBy C 3 w (nI u) &&& s) = 0 ↔ (∃ e, e < n ∧ o_Model_heardAt M w (nI u) = nI e ∧ bt s e = true)) := fun w hw => by
            rcases m_heard R hw (t := u) (by omega) with ⟨z1, z2⟩ | ⟨e, he, z1, z2⟩
            · rw [z1, z2]
              refine ⟨fun q => absurd (by rw [q_and_comm]; exact q_and_0 s) q, fun ⟨e, he, q, _⟩ => absurd q.symm (q_nI_ne9 (by omega))⟩
            · rw [z1, z2]
              refine ⟨fun q => ⟨e, he, rfl, ?_⟩, fun ⟨e2, he2, q, q2⟩ z => ?_⟩
              · obtain ⟨i2, hi2, hb⟩ := q_ne0 q
                rw [b_and, q_one (by omega) hi2, Bool.and_eq_true, decide_eq_true_eq] at hb
                rw [← hb.1]
                exact hb.2
              · have e3 : e = e2 := (nI_eq (by omega) (by omega)).mp q
                have := q_eq0.mp z e2 (by omega)
                rw [b_and, q_one (by omega) (by omega), e3, decide_eq_true rfl, q2] at this
                cases this
          have g1 : o_Mesh_hearersOf C 3 s (nI u) = q_og (fun w => !(decide ((o_Mesh_heardBy C 3 w (nI u) &&& s) = 0))) (fun w => zshl 1 (nI w)) 0 n := by
            unfold o_Mesh_hearersOf
            rw [(m_cnt R).1]
            refine q_congr n (fun w z hw => ?_)
            by_cases q : (o_Mesh_heardBy C 3 w (nI u) &&& s) = 0
            · rw [if_pos q, if_neg (by simp [q])]
            · rw [if_neg q, if_pos (by simp [q])]
          rw [g1, ← q_og_acc, q_or_0, (m_cnt R).2]
          refine q_congr n (fun w z hw => ?_)
          by_cases q : (o_Mesh_heardBy C 3 w (nI u) &&& s) = 0
          · rw [if_neg (by simp [q])]
            rcases m_heard R hw (t := u) (by omega) with ⟨z1, z2⟩ | ⟨e, he, z1, z2⟩
            · rw [z2, if_pos rfl, q_or_0]
            · have : ¬ bt s e = true := fun z3 => (hP w hw).mpr ⟨e, he, z2, z3⟩ q
              rw [z2, if_neg (q_nI_ne9 (by omega)), q_hasM (by omega), if_neg this, q_or_0]
          · obtain ⟨e, he, z2, z3⟩ := (hP w hw).mp q
            rw [if_pos (by simp [q]), z2, if_neg (q_nI_ne9 (by omega)), q_hasM (by omega), if_pos z3]
        · rw [if_neg c4, if_neg (fun z => by rw [q_inI] at z; rw [Int32.lt_iff_toInt_lt] at c4; omega)]
    · rw [if_neg c2, if_neg c2]
  · rw [if_neg c1, if_neg c1]
end ZO
