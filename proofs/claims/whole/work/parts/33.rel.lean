/-! The class' mesh beside a row of the reference. -/
def y_base (h : zHp) (b : Nat) (k : zHp) (n : Nat) : Prop := h b 0 = nI n ∧ k 51 1 = nI n ∧ n ≤ 8 ∧ ∀ v, v < n → h (b + 1) v = k 53 v ∧ zprd (k 53 v) ∧ h (b + 5) v = zpat (k 53 v)
def y_rnd (h : zHp) (b : Nat) (k : zHp) (r K : Nat) : Prop := h b 1 = k r 24 ∧ ∃ m, m ≤ K ∧ k r 24 = nI m
def y_row (h : zHp) (b : Nat) (k : zHp) (r n : Nat) (on : Int32) : Prop := ∀ v, v < n → (bt on v = true → h (b + 2) v = (k r (16 + v) &&& on) ∧ h (b + 3) v = k r v ∧ h (b + 4) v = k r (8 + v)) ∧ (bt on v = false → h (b + 2) v = 0 ∧ h (b + 3) v = 0 ∧ h (b + 4) v = -9 ∧ k r v = -9 ∧ k r (8 + v) = -9)
def y_off (k : zHp) (r n : Nat) : Prop := ∀ v, v < n → zoff (k 53 v) (k r v) ∧ zoff (k 53 v) (k r (8 + v))
def y_lnk (k : zHp) (r n : Nat) : Prop := ∀ v, v < n → (∀ i, n ≤ i → i < 32 → bt (k r (16 + v)) i = false) ∧ bt (k r (16 + v)) v = false ∧ ∀ u, u < n → bt (k r (16 + v)) u = bt (k r (16 + u)) v
def y_on (n : Nat) (on : Int32) : Prop := ∀ i, n ≤ i → i < 32 → bt on i = false
def zmr (h : zHp) (b : Nat) (k : zHp) (r n : Nat) (on : Int32) (K : Nat) : Prop := y_base h b k n ∧ y_rnd h b k r K ∧ y_row h b k r n on ∧ y_off k r n ∧ y_lnk k r n ∧ y_on n on ∧ y_cN h b n ∧ y_cT h b n
def y_laid (k : zHp) (r n : Nat) (on : Int32) : Prop := k 51 9 = on ∧ ∀ v, v < n → k 66 v = q_nr (q_nb (fun e => k r (16 + e)) on) n v
theorem q_nb_bt {L : Nat → Int32} {on : Int32} {v j : Nat} : bt (q_nb L on v) j = true ↔ bt on v = true ∧ bt (L v) j = true ∧ bt on j = true := by
  unfold q_nb
  by_cases h : bt on v = true
  · rw [if_pos h, b_and, Bool.and_eq_true]
    exact ⟨fun q => ⟨h, q⟩, fun q => q.2⟩
  · rw [if_neg h, b_0]
    exact ⟨fun q => absurd q (by decide), fun q => absurd q.1 h⟩
section ZQ
variable {h : zHp} {b : Nat} {k : zHp} {r n : Nat} {on : Int32} {K : Nat}
theorem m_8 (R : zmr h b k r n on K) : n ≤ 8 := R.1.2.2.1
theorem m_L (R : zmr h b k r n on K) {v : Nat} (hv : v < n) : h (b + 2) v = q_nb (fun e => k r (16 + e)) on v := by
  unfold q_nb
  obtain ⟨h1, h2⟩ := R.2.2.1 v hv
  by_cases c : bt on v = true
  · rw [if_pos c]
    exact (h1 c).1
  · rw [if_neg c]
    exact (h2 (by simpa using c)).1
theorem m_near (R : zmr h b k r n on K) (D : y_laid k r n on) {v : Nat} (hv : v < n) : h (b + 6) v = k 66 v := by
  rw [(R.2.2.2.2.2.2.1 v hv).1, D.2 v hv]
  exact q_nr_congr hv (fun e he => m_L R he)
theorem m_nsub (R : zmr h b k r n on K) (D : y_laid k r n on) {v j : Nat} (hv : v < n) (hj : j < 32) (hb : bt (k 66 v) j = true) : bt on v = true ∧ bt on j = true ∧ j < n := by
  have h8 := m_8 R
  rw [D.2 v hv, q_nr_bt (by omega) hj] at hb
  have key : bt on v = true ∧ bt on j = true := by
    rcases hb.2 with q | ⟨e, he, q1, q2⟩
    · have := q_nb_bt.mp q
      exact ⟨this.1, this.2.2⟩
    · exact ⟨(q_nb_bt.mp q1).1, (q_nb_bt.mp q2).2.2⟩
  refine ⟨key.1, key.2, ?_⟩
  rcases Nat.lt_or_ge j n with q | q
  · exact q
  · have := R.2.2.2.2.2.1 j q hj
    rw [this] at key
    cases key.2
theorem m_off_near (R : zmr h b k r n on K) (D : y_laid k r n on) {v : Nat} (hv : v < n) (c : bt on v = false) : k 66 v = 0 := by
  refine q_eq0.mpr (fun i hi => ?_)
  cases hb : bt (k 66 v) i
  · rfl
  · have := (m_nsub R D hv hi hb).1
    rw [c] at this
    cases this
theorem m_tick (R : zmr h b k r n on K) {v : Nat} (hv : v < n) (c : bt on v = true) : h (b + 9) v = o_Model_ticks k r v := by
  rw [(R.2.2.2.2.2.2.2 v hv).1, ((R.2.2.1 v hv).1 c).2.1, (R.1.2.2.2 v hv).1]
  rfl
theorem m_occ (R : zmr h b k r n on K) {v : Nat} (hv : v < n) (c : bt on v = true) : h (b + 10) v = o_Model_held k r v := by
  rw [(R.2.2.2.2.2.2.2 v hv).2, m_tick R hv c, ((R.2.2.1 v hv).1 c).2.2, (R.1.2.2.2 v hv).1]
  rfl
theorem m_cnt (R : zmr h b k r n on K) : zcn (h b 0) = n ∧ zcn (k 51 1) = n := by
  have h8 := m_8 R
  rw [R.1.1, R.1.2.1, zcn_nI (by omega)]
  exact ⟨rfl, rfl⟩
theorem m_above (R : zmr h b k r n on K) (D : y_laid k r n on) {v e : Nat} (hv : v < n) (he : e < 32) : bt (h (b + 8) v) e = (decide (e < n) && (bt (k 66 v) e && o_Model_isAbove (nI e) (nI v) (k r 24))) := by
  have h8 := m_8 R
  rw [(R.2.2.2.2.2.2.1 v hv).2.2, m_near R D hv, R.2.1.1]
  unfold q_ab
  rw [q_mk_bt he (by omega)]
theorem m_hn1 (R : zmr h b k r n on K) (D : y_laid k r n on) {v : Nat} (hv : v < n) : o_Mesh_occupiedByAny h b (h (b + 8) v) = o_Model_heldNear k r v true := by
  have h8 := m_8 R
  unfold o_Mesh_occupiedByAny o_Model_heldNear
  rw [(m_cnt R).1, (m_cnt R).2]
  refine q_congr n (fun i s hi => ?_)
  rw [q_has (by omega), q_hasM (by omega), m_above R D hv (by omega), decide_eq_true hi, Bool.true_and, if_pos rfl]
  by_cases c1 : bt (k 66 v) i = true
  · rw [if_pos c1]
    by_cases c2 : o_Model_isAbove (nI i) (nI v) (k r 24) = true
    · rw [if_pos c2, if_pos (by rw [c1, c2]; rfl), m_occ R hi (m_nsub R D hv (by omega) c1).2.1]
    · rw [if_neg c2, if_neg (by rw [Bool.and_eq_true]; exact fun q => c2 q.2), q_or_0]
  · rw [if_neg c1, if_neg (by rw [Bool.and_eq_true]; exact fun q => c1 q.1), q_or_0]
theorem m_hn0 (R : zmr h b k r n on K) (D : y_laid k r n on) {v : Nat} (hv : v < n) : o_Mesh_occupiedByAny h b (h (b + 6) v) = o_Model_heldNear k r v false := by
  have h8 := m_8 R
  unfold o_Mesh_occupiedByAny o_Model_heldNear
  rw [(m_cnt R).1, (m_cnt R).2]
  refine q_congr n (fun i s hi => ?_)
  rw [q_has (by omega), q_hasM (by omega), m_near R D hv, if_neg (c := false = true) (by decide)]
  by_cases c1 : bt (k 66 v) i = true
  · rw [if_pos c1, if_pos c1, m_occ R hi (m_nsub R D hv (by omega) c1).2.1]
  · rw [if_neg c1, if_neg c1, q_or_0]
theorem m_hn_0 (h8 : n ≤ 8) (hn : k 51 1 = nI n) {v : Nat} {a : Bool} (e : k 66 v = 0) : o_Model_heldNear k r v a = 0 := by
  unfold o_Model_heldNear
  rw [hn, zcn_nI (by omega), q_congr (g := fun _ s => s) n (fun i s hi => by rw [q_hasM (by omega), e, b_0, if_neg (by decide), q_or_0])]
  exact zrep_inv (fun _ (s : Int32) => s = 0) n rfl (fun _ _ _ h => h)
theorem m_isU (k : zHp) (r v : Nat) : o_Model_isUnsettled k r v = true ↔ k r v = -9 ∨ ¬ (o_Model_ticks k r v &&& o_Model_heldNear k r v true) = 0 := by
  unfold o_Model_isUnsettled
  rw [Bool.or_eq_true, decide_eq_true_eq, Bool.not_eq_true', decide_eq_false_iff_not]
theorem m_uns (R : zmr h b k r n on K) (D : y_laid k r n on) : o_Mesh_unsettledSet h b = o_Model_unsettled k r := by
  have h8 := m_8 R
  unfold o_Mesh_unsettledSet o_Model_unsettled
  rw [(m_cnt R).1, (m_cnt R).2, D.1]
  refine q_congr n (fun v s hv => ?_)
  rw [q_hasM (by omega), m_hn1 R D hv]
  by_cases c : bt on v = true
  · rw [if_pos c, ((R.2.2.1 v hv).1 c).2.1, m_tick R hv c]
    by_cases c1 : k r v = -9
    · rw [if_pos c1, if_pos ((m_isU k r v).mpr (Or.inl c1))]
    · rw [if_neg c1]
      by_cases c2 : (o_Model_ticks k r v &&& o_Model_heldNear k r v true) = 0
      · rw [if_pos c2, if_neg (fun q => (by rcases (m_isU k r v).mp q with q | q; exact c1 q; exact q c2)), q_or_0]
      · rw [if_neg c2, if_pos ((m_isU k r v).mpr (Or.inr c2))]
  · have c' : bt on v = false := by simpa using c
    rw [if_neg c, ((R.2.2.1 v hv).2 c').2.1, if_neg (by decide), m_hn_0 h8 R.1.2.1 (m_off_near R D hv c'), q_and_0, if_pos rfl, q_or_0]
theorem m_uns_bt (hn : k 51 1 = nI n) (h8 : n ≤ 8) {j : Nat} (hj : j < 32) : bt (o_Model_unsettled k r) j = (decide (j < n) && (bt (k 51 9) j && o_Model_isUnsettled k r j)) := by
  unfold o_Model_unsettled
  rw [hn, zcn_nI (by omega), q_congr (g := fun i (s : Int32) => if (bt (k 51 9) i && o_Model_isUnsettled k r i) = true then s ||| zshl 1 (nI i) else s) n (fun i s hi => ?_)]
  · exact q_mk_bt (P := fun i => bt (k 51 9) i && o_Model_isUnsettled k r i) hj (by omega)
  · rw [q_hasM (by omega)]
    by_cases c1 : bt (k 51 9) i = true
    · by_cases c2 : o_Model_isUnsettled k r i = true
      · rw [if_pos c1, if_pos c2, if_pos (by rw [c1, c2]; rfl)]
      · rw [if_pos c1, if_neg c2, if_neg (by rw [Bool.and_eq_true]; exact fun q => c2 q.2), q_or_0]
    · rw [if_neg c1, if_neg (by rw [Bool.and_eq_true]; exact fun q => c1 q.1), q_or_0]
theorem m_free (R : zmr h b k r n on K) (D : y_laid k r n on) {v : Nat} (hv : v < n) : o_Mesh_freeOffsets h b v = o_Model_free k r v := by
  have h8 := m_8 R
  obtain ⟨e1, e2, e3⟩ := R.1.2.2.2 v hv
  unfold o_Mesh_freeOffsets o_Mesh_offsetsOutside o_Model_free
  rw [m_hn0 R D hv, e1, e3]
  refine q_congr _ (fun i s hi => ?_)
  rw [q_tk e2 hi]
  by_cases c : (o_Model_ticksOf (nI i) (k 53 v) &&& o_Model_heldNear k r v false) = 0
  · rw [if_pos c, if_pos c]
  · rw [if_neg c, if_neg c, q_or_0]
theorem m_free_bt {v : Nat} (hp : zprd (k 53 v)) {j : Nat} (hj : j < 32) : bt (o_Model_free k r v) j = (decide (j < zcn (k 53 v)) && decide ((o_Model_ticksOf (nI j) (k 53 v) &&& o_Model_heldNear k r v false) = 0)) := by
  have h8 := (zprd_pos hp).2.1
  unfold o_Model_free
  rw [q_congr (g := fun i (s : Int32) => if decide ((o_Model_ticksOf (nI i) (k 53 v) &&& o_Model_heldNear k r v false) = 0) = true then s ||| zshl 1 (nI i) else s) _ (fun i s hi => ?_)]
  · exact q_mk_bt (P := fun i => decide ((o_Model_ticksOf (nI i) (k 53 v) &&& o_Model_heldNear k r v false) = 0)) hj (by omega)
  · by_cases c : (o_Model_ticksOf (nI i) (k 53 v) &&& o_Model_heldNear k r v false) = 0
    · rw [if_pos c, if_pos (by simpa using c)]
    · rw [if_neg c, if_neg (by simpa using c), q_or_0]
end ZQ
/-- whether all are so, with an early end or without -/
theorem q_allx {P : Nat → Bool} : ∀ n, Sum.elim (fun _ => true) (fun q => q) (zrex (fun (i : Nat) (_ : Unit) => ((if P i = true then .inl () else .inr false) : Unit ⊕ Bool)) () n) = zrep (fun i (s : Bool) => s && P i) true n
  | 0 => rfl
  | n + 1 => by
    have ih := q_allx (P := P) n
    show _ = (zrep (fun i (s : Bool) => s && P i) true n && P n)
    rw [← ih]
    simp only [zrex]
    cases hx : zrex (fun (i : Nat) (_ : Unit) => ((if P i = true then .inl () else .inr false) : Unit ⊕ Bool)) () n with
    | inl u =>
      cases hP : P n <;> simp [hP]
    | inr q =>
      have : q = false := by
        refine (zrex_inv (f := fun (i : Nat) (_ : Unit) => ((if P i = true then .inl () else .inr false) : Unit ⊕ Bool)) (a := ()) (fun _ _ => True) (fun r => r = false) n trivial (fun i s _ _ => ⟨fun _ _ => trivial, fun r e => ?_⟩)).2 q hx
        by_cases c : P i = true
        · rw [if_pos c] at e; cases e
        · rw [if_neg c] at e; cases e; rfl
      subst this
      simp
theorem m_quiet {h : zHp} {b : Nat} {k : zHp} {r n : Nat} {on : Int32} {K : Nat} (R : zmr h b k r n on K) (D : y_laid k r n on) : o_Mesh_isQuiet h b = o_Model_isQuiet k r := by
  have h8 := m_8 R
  unfold o_Mesh_isQuiet o_Model_isQuiet
  rw [(m_cnt R).1, (m_cnt R).2, D.1, m_uns R D]
  rw [q_xcongr (g := fun i (_ : Unit) => ((if (decide (h (b + 4) i = -9) && (!(bt (o_Model_unsettled k r) i) || (decide (h (b + 3) i = -9) && decide (o_Mesh_freeOffsets h b i = 0)))) = true then .inl () else .inr false) : Unit ⊕ Bool)) n (fun i s hi => ?_), q_allx]
  · refine q_congr n (fun i s hi => ?_)
    congr 1
    rw [q_hasM (by omega), q_hasM (by omega), m_free R D hi]
    by_cases c : bt on i = true
    · obtain ⟨-, e3, e4⟩ := (R.2.2.1 i hi).1 c
      rw [c, e3, e4]
      rfl
    · have c' : bt on i = false := by simpa using c
      rw [((R.2.2.1 i hi).2 c').2.2.1, m_uns_bt R.1.2.1 h8 (by omega), D.1, c']
      simp
  · rw [q_has (by omega)]
    by_cases c1 : h (b + 4) i = -9
    · rw [if_pos c1]
      by_cases c2 : bt (o_Model_unsettled k r) i = true
      · rw [if_pos c2]
        exact q_Pcongr (by rw [c2]; simp [c1])
      · rw [if_neg c2, if_pos (by simp [c1, c2])]
    · rw [if_neg c1, if_neg (by simp [c1])]
