/-! Nets; numbers of links, nets; who exists. -/
def q_cl (L : Nat → Int32) (n : Nat) (S : Int32) : Prop := ∀ e, e < n → bt S e = true → ∀ j, j < 32 → bt (L e) j = true → bt S j = true
def q_le (x y : Int32) : Prop := ∀ j, j < 32 → bt x j = true → bt y j = true
def q_cnt (x : Int32) : Nat → Nat
  | 0 => 0
  | i + 1 => q_cnt x i + (if bt x i = true then 1 else 0)
theorem q_cnt_le {x y : Int32} (h : q_le x y) : ∀ n, n ≤ 32 → q_cnt x n ≤ q_cnt y n
  | 0, _ => Nat.le_refl _
  | n + 1, hn => by
    have ih := q_cnt_le h n (by omega)
    show q_cnt x n + (if bt x n = true then 1 else 0) ≤ q_cnt y n + (if bt y n = true then 1 else 0)
    by_cases c : bt x n = true
    · rw [if_pos c, if_pos (h n (by omega) c)]
      omega
    · rw [if_neg c]
      omega
theorem q_cnt_lt {x y : Int32} (h : q_le x y) {j : Nat} (h1 : ¬ bt x j = true) (h2 : bt y j = true) : ∀ n, n ≤ 32 → j < n → q_cnt x n < q_cnt y n
  | 0, _, hj => absurd hj (by omega)
  | n + 1, hn, hj => by
    show q_cnt x n + (if bt x n = true then 1 else 0) < q_cnt y n + (if bt y n = true then 1 else 0)
    by_cases e : j = n
    · subst e
      have := q_cnt_le h j (by omega)
      rw [if_neg h1, if_pos h2]
      omega
    · have ih := q_cnt_lt h h1 h2 n (by omega) (by omega)
      by_cases c : bt x n = true
      · rw [if_pos c, if_pos (h n (by omega) c)]
        omega
      · rw [if_neg c]
        omega
theorem q_cnt_max (x : Int32) : ∀ n, q_cnt x n ≤ n
  | 0 => Nat.le_refl _
  | n + 1 => by
    have ih := q_cnt_max x n
    show q_cnt x n + (if bt x n = true then 1 else 0) ≤ n + 1
    by_cases c : bt x n = true
    · rw [if_pos c]; omega
    · rw [if_neg c]; omega
theorem q_cnt_all {x : Int32} : ∀ n, n ≤ q_cnt x n → ∀ i, i < n → bt x i = true
  | 0, _, i, hi => absurd hi (by omega)
  | n + 1, h, i, hi => by
    have hm := q_cnt_max x n
    have h : n + 1 ≤ q_cnt x n + (if bt x n = true then 1 else 0) := h
    by_cases c : bt x n = true
    · rw [if_pos c] at h
      rcases Nat.lt_or_ge i n with q | q
      · exact q_cnt_all n (by omega) i q
      · obtain rfl : i = n := by omega
        exact c
    · rw [if_neg c] at h
      omega
theorem q_cnt_pos {x : Int32} {v : Nat} (h : bt x v = true) : ∀ n, v < n → 1 ≤ q_cnt x n
  | 0, hv => absurd hv (by omega)
  | n + 1, hv => by
    show 1 ≤ q_cnt x n + (if bt x n = true then 1 else 0)
    by_cases e : v = n
    · subst e
      rw [if_pos h]
      omega
    · have := q_cnt_pos h n (by omega)
      omega
theorem q_le_anti {x y : Int32} (h1 : q_le x y) (h2 : q_le y x) : x = y := b_ext (fun i hi => q_tt ⟨h1 i hi, h2 i hi⟩)
/-- steps that take in what is linked end in a closed set -/
theorem q_closes {L : Nat → Int32} {n : Nat} (h8 : n ≤ 8) (hL : ∀ e, e < n → y_on n (L e)) (T : Int32 → Int32) (T1 : ∀ x, q_le x (T x)) (T2 : ∀ x, y_on n x → y_on n (T x)) (T3 : ∀ x e j, e < n → bt x e = true → j < 32 → bt (L e) j = true → bt (T x) j = true) (T4 : ∀ x S, q_cl L n S → q_le x S → q_le (T x) S) (x0 : Int32) (g0 : y_on n x0) {v : Nat} (hv : v < n) (h0 : bt x0 v = true) (m : Nat) (hm : n ≤ m + 1) : q_cl L n (zrep (fun _ s => T s) x0 m) ∧ y_on n (zrep (fun _ s => T s) x0 m) ∧ bt (zrep (fun _ s => T s) x0 m) v = true ∧ ∀ S, q_cl L n S → q_le x0 S → q_le (zrep (fun _ s => T s) x0 m) S := by
  have key : ∀ m, (q_cl L n (zrep (fun _ s => T s) x0 m) ∨ m + 1 ≤ q_cnt (zrep (fun _ s => T s) x0 m) n) ∧ y_on n (zrep (fun _ s => T s) x0 m) ∧ bt (zrep (fun _ s => T s) x0 m) v = true ∧ ∀ S, q_cl L n S → q_le x0 S → q_le (zrep (fun _ s => T s) x0 m) S := by
    intro m
    induction m with
    | zero => exact ⟨Or.inr (q_cnt_pos h0 n hv), g0, h0, fun S _ h => h⟩
    | succ m ih =>
      obtain ⟨i1, i2, i3, i4⟩ := ih
      have e : zrep (fun _ s => T s) x0 (m + 1) = T (zrep (fun _ s => T s) x0 m) := rfl
      rw [e]
      generalize zrep (fun _ s => T s) x0 m = x at i1 i2 i3 i4
      refine ⟨?_, T2 x i2, T1 x v (by omega) i3, fun S hS h => T4 x S hS (i4 S hS h)⟩
      by_cases c : q_cl L n x
      · have : T x = x := q_le_anti (T4 x x c (fun j _ h => h)) (T1 x)
        rw [this]
        exact Or.inl c
      · rcases i1 with q | q
        · exact absurd q c
        · refine Or.inr ?_
          have hx : ∃ e j, e < n ∧ bt x e = true ∧ j < 32 ∧ bt (L e) j = true ∧ ¬ bt x j = true := by
            refine Classical.byContradiction (fun z => c (fun e he h1 j hj h2 => ?_))
            refine Classical.byContradiction (fun z2 => z ⟨e, j, he, h1, hj, h2, z2⟩)
          obtain ⟨e, j, he, h1, hj, h2, h3⟩ := hx
          have hjn : j < n := by
            rcases Nat.lt_or_ge j n with w | w
            · exact w
            · rw [hL e he j w hj] at h2
              cases h2
          have := q_cnt_lt (T1 x) h3 (T3 x e j he h1 hj h2) n (by omega) hjn
          omega
  obtain ⟨i1, i2, i3, i4⟩ := key m
  refine ⟨?_, i2, i3, i4⟩
  rcases i1 with q | q
  · exact q
  · intro e he h1 j hj h2
    have hjn : j < n := by
      rcases Nat.lt_or_ge j n with w | w
      · exact w
      · rw [hL e he j w hj] at h2
        cases h2
    exact q_cnt_all n (by omega) j hjn
def q_F (L : Nat → Int32) (n : Nat) (x : Int32) : Int32 := x ||| q_og (fun e => bt x e) L 0 n
def q_G (L : Nat → Int32) (n : Nat) (x : Int32) : Int32 := zrep (fun e (s : Int32) => s ||| (if bt s e = true then L e else 0)) x n
theorem q_F_bt {L : Nat → Int32} {n : Nat} {x : Int32} {j : Nat} : bt (q_F L n x) j = true ↔ bt x j = true ∨ ∃ e, e < n ∧ bt x e = true ∧ bt (L e) j = true := by
  unfold q_F
  rw [b_or, Bool.or_eq_true, q_og_bt, b_0]
  refine or_congr Iff.rfl ⟨fun q => ?_, fun q => Or.inr q⟩
  rcases q with q | q
  · cases q
  · exact q
theorem q_net_F {L : Nat → Int32} {n : Nat} (h8 : n ≤ 8) (hL : ∀ e, e < n → y_on n (L e)) {v : Nat} (hv : v < n) : q_cl L n (zrep (fun _ s => q_F L n s) (zshl 1 (nI v)) (n - 1)) ∧ y_on n (zrep (fun _ s => q_F L n s) (zshl 1 (nI v)) (n - 1)) ∧ bt (zrep (fun _ s => q_F L n s) (zshl 1 (nI v)) (n - 1)) v = true ∧ ∀ S, q_cl L n S → q_le (zshl 1 (nI v)) S → q_le (zrep (fun _ s => q_F L n s) (zshl 1 (nI v)) (n - 1)) S := by
  refine q_closes h8 hL (q_F L n) (fun x j hj h => q_F_bt.mpr (Or.inl h)) (fun x g i h1 h2 => ?_) (fun x e j he h1 hj h2 => q_F_bt.mpr (Or.inr ⟨e, he, h1, h2⟩)) (fun x S hS h j hj q => ?_) _ (fun i h1 h2 => ?_) hv ?_ (n - 1) (by omega)
  · cases hq : bt (q_F L n x) i
    · rfl
    · rcases q_F_bt.mp hq with q | ⟨e, he, q1, q2⟩
      · rw [g i h1 h2] at q; cases q
      · rw [hL e he i h1 h2] at q2; cases q2
  · rcases q_F_bt.mp q with q | ⟨e, he, q1, q2⟩
    · exact h j hj q
    · exact hS e he (h e (by omega) q1) j hj q2
  · rw [q_one (by omega) h2]
    exact decide_eq_false (by omega)
  · rw [q_one (by omega) (by omega)]
    exact decide_eq_true rfl
theorem q_net_G {L : Nat → Int32} {n : Nat} (h8 : n ≤ 8) (hL : ∀ e, e < n → y_on n (L e)) {v : Nat} (hv : v < n) : q_cl L n (zrep (fun _ s => q_G L n s) (zshl 1 (nI v)) 8) ∧ y_on n (zrep (fun _ s => q_G L n s) (zshl 1 (nI v)) 8) ∧ bt (zrep (fun _ s => q_G L n s) (zshl 1 (nI v)) 8) v = true ∧ ∀ S, q_cl L n S → q_le (zshl 1 (nI v)) S → q_le (zrep (fun _ s => q_G L n s) (zshl 1 (nI v)) 8) S := by
  have step : ∀ (s : Int32) (e j : Nat), bt (s ||| (if bt s e = true then L e else 0)) j = true ↔ bt s j = true ∨ (bt s e = true ∧ bt (L e) j = true) := fun s e j => by
    rw [b_or, Bool.or_eq_true]
    by_cases c : bt s e = true
    · rw [if_pos c]
      exact or_congr Iff.rfl ⟨fun q => ⟨c, q⟩, fun q => q.2⟩
    · rw [if_neg c, b_0]
      refine or_congr Iff.rfl ⟨fun q => absurd q (by decide), fun q => absurd q.1 c⟩
  refine q_closes h8 hL (q_G L n) (fun x => ?_) (fun x g => ?_) (fun x e j he h1 hj h2 => ?_) (fun x S hS h => ?_) _ (fun i h1 h2 => ?_) hv ?_ 8 (by omega)
  · exact zrep_inv (fun _ s => q_le x s) n (fun j _ h => h) (fun i s hi hI j hj h => (step s i j).mpr (Or.inl (hI j hj h)))
  · refine zrep_inv (fun _ s => y_on n s) n g (fun i s hi hI a h1 h2 => ?_)
    cases hq : bt (s ||| (if bt s i = true then L i else 0)) a
    · rfl
    · rcases (step s i a).mp hq with q | ⟨-, q⟩
      · rw [hI a h1 h2] at q; cases q
      · rw [hL i hi a h1 h2] at q; cases q
  · have key := zrep_inv (f := fun e (s : Int32) => s ||| (if bt s e = true then L e else 0)) (a := x) (fun i s => q_le x s ∧ ∀ e, e < i → bt x e = true → ∀ j, j < 32 → bt (L e) j = true → bt s j = true) n ⟨fun j _ h => h, fun e he => absurd he (by omega)⟩ (fun i s hi hI => ⟨fun j hj h => (step s i j).mpr (Or.inl (hI.1 j hj h)), fun e he h1 j hj h2 => by
      rcases Nat.lt_or_ge e i with q | q
      · exact (step s i j).mpr (Or.inl (hI.2 e q h1 j hj h2))
      · obtain rfl : e = i := by omega
        exact (step s e j).mpr (Or.inr ⟨hI.1 e (by omega) h1, h2⟩)⟩)
    exact key.2 e he h1 j hj h2
  · refine zrep_inv (fun _ s => q_le s S) n h (fun i s hi hI j hj q => ?_)
    rcases (step s i j).mp q with q | ⟨q1, q2⟩
    · exact hI j hj q
    · exact hS i hi (hI i (by omega) q1) j hj q2
  · rw [q_one (by omega) h2]
    exact decide_eq_false (by omega)
  · rw [q_one (by omega) (by omega)]
    exact decide_eq_true rfl
/-- the net of a station -/
def q_net (L : Nat → Int32) (n v : Nat) : Int32 := zrep (fun _ s => q_G L n s) (zshl 1 (nI v)) 8
theorem q_net_eq {L : Nat → Int32} {n : Nat} (h8 : n ≤ 8) (hL : ∀ e, e < n → y_on n (L e)) {v : Nat} (hv : v < n) : zrep (fun _ s => q_F L n s) (zshl 1 (nI v)) (n - 1) = q_net L n v := by
  obtain ⟨f1, f2, f3, f4⟩ := q_net_F h8 hL hv
  obtain ⟨g1, g2, g3, g4⟩ := q_net_G h8 hL hv
  have one : ∀ S, bt S v = true → q_le (zshl 1 (nI v)) S := fun S h j hj q => by
    rw [q_one (by omega) hj, decide_eq_true_eq] at q
    rw [q]
    exact h
  exact q_le_anti (f4 _ g1 (one _ g3)) (g4 _ f1 (one _ f3))
/-- nets are alike or apart -/
theorem q_net_same {L : Nat → Int32} {n : Nat} (h8 : n ≤ 8) (hL : ∀ e, e < n → y_on n (L e)) (hs : ∀ e f, e < n → f < n → bt (L e) f = bt (L f) e) {i j : Nat} (hi : i < n) (hj : j < n) : bt (q_net L n i) j = true ↔ q_net L n i = q_net L n j := by
  obtain ⟨a1, a2, a3, a4⟩ := q_net_G h8 hL hi
  obtain ⟨c1, c2, c3, c4⟩ := q_net_G h8 hL hj
  have one : ∀ v S, v < n → bt S v = true → q_le (zshl 1 (nI v)) S := fun v S hv h x hx q => by
    rw [q_one (by omega) hx, decide_eq_true_eq] at q
    rw [q]
    exact h
  refine ⟨fun h => ?_, fun h => by rw [h]; exact c3⟩
  have h1 : q_le (q_net L n j) (q_net L n i) := c4 _ a1 (one j _ hj h)
  have h2 : bt (q_net L n j) i = true := by
    refine Classical.byContradiction (fun z => ?_)
    have hS : q_cl L n (q_mk (fun x => !(bt (q_net L n j) x)) n) := by
      intro e he q1 x hx q2
      rw [q_mk_bt (by omega) (by omega), Bool.and_eq_true, Bool.not_eq_true'] at q1
      have hxn : x < n := by
        rcases Nat.lt_or_ge x n with w | w
        · exact w
        · rw [hL e he x w hx] at q2
          cases q2
      rw [q_mk_bt hx (by omega), decide_eq_true hxn, Bool.true_and, Bool.not_eq_true']
      cases hq : bt (q_net L n j) x
      · rfl
      · rw [hs e x he hxn] at q2
        have this : bt (q_net L n j) e = true := c1 x hxn hq e (by omega) q2
        rw [q1.2] at this
        cases this
    have := a4 _ hS (one i _ hi (by rw [q_mk_bt (by omega) (by omega), decide_eq_true hi]; simpa using z)) j (by omega) h
    rw [q_mk_bt (by omega) (by omega), decide_eq_true hj, Bool.true_and, Bool.not_eq_true'] at this
    have c3' : bt (q_net L n j) j = true := c3
    rw [c3'] at this
    cases this
  exact q_le_anti (a4 _ c1 (one i _ hi h2)) h1
section ZQ
variable {h : zHp} {b : Nat} {k : zHp} {r n : Nat} {on : Int32} {K : Nat}
theorem m_lks (R : zmr h b k r n on K) : ∀ e, e < n → y_on n (k r (16 + e)) := fun e he => (R.2.2.2.2.1 e he).1
theorem m_netM (hn : k 51 1 = nI n) (h8 : n ≤ 8) {v : Nat} : o_Model_netOf k r (nI v) = q_net (fun e => k r (16 + e)) n v := by
  unfold o_Model_netOf q_net q_G
  rw [hn, zcn_nI (by omega)]
  refine q_congr 8 (fun i s _ => q_congr n (fun e t he => ?_))
  rw [q_hasM (by omega)]
theorem m_net (R : zmr h b k r n (q_all n) K) {v : Nat} (hv : v < n) : o_Mesh_netOf h b (nI v) = q_net (fun e => k r (16 + e)) n v := by
  have h8 := m_8 R
  rw [← q_net_eq h8 (m_lks R) hv]
  unfold o_Mesh_netOf
  rw [(m_cnt R).1]
  refine q_congr _ (fun i s _ => ?_)
  rw [q_nbOf R.1.1 h8]
  unfold q_F
  rw [q_og_congr (Q := fun e => bt s e) (G := fun e => k r (16 + e)) (fun e he => ⟨rfl, fun _ => (m_rowAll R he).1⟩)]
theorem m_lsym (R : zmr h b k r n on K) : ∀ e f, e < n → f < n → bt (k r (16 + e)) f = bt (k r (16 + f)) e := fun e f he hf => (R.2.2.2.2.1 e he).2.2 f hf
theorem m_ex (hn : h b 0 = nI n) (hk : k 51 1 = nI n) (h8 : n ≤ 8) (s : Int32) : o_Mesh_exists h b s = o_Model_isStation k s := by
  refine q_tt ?_
  unfold o_Mesh_exists o_Model_isStation
  rw [zin0, hn, hk, Bool.and_eq_true, Bool.not_eq_true', Bool.not_eq_true', decide_eq_false_iff_not, decide_eq_false_iff_not]
  have e1 : s.toInt64.toInt = s.toInt := Int32.toInt_toInt64 s
  have e3 : (0 : Int32).toInt = 0 := rfl
  have e5 : (0 : Int64).toInt = 0 := rfl
  have e4 : (nI n - 1).toInt64.toInt = (n : Int) - 1 := by
    rw [Int32.toInt_toInt64]
    exact pk_sub_toInt (a := n) (b := 1) (by omega) (by omega)
  have e6 : (nI n).toInt = (n : Int) := nI_toInt (by omega)
  rw [Int64.le_iff_toInt_le, Int64.le_iff_toInt_le, e1, e4, e5, Int32.lt_iff_toInt_lt, Int32.le_iff_toInt_le, e3, e6]
  omega
theorem m_exE (R : zmr h b k r n on K) (s : Int32) : o_Mesh_exists h b s = o_Model_isStation k s := m_ex R.1.1 R.1.2.1 (m_8 R) s
theorem m_exT (R : zmr h b k r n on K) {s : Int32} (c : o_Model_isStation k s = true) : ∃ v, v < n ∧ s = nI v ∧ zcn s = v := by
  have h8 := m_8 R
  have := zist (zfit_of R.1.2.1 h8 (by decide)) c
  rw [R.1.2.1, zcn_nI (by omega)] at this
  exact ⟨zcn s, this.2, zix this.1, rfl⟩
/-- the number of links -/
theorem m_links (R : zmr h b k 54 n (q_all n) K) : o_Mesh_linkCount h b = o_Model_links k := by
  have h8 := m_8 R
  unfold o_Mesh_linkCount o_Model_links
  rw [(m_cnt R).1, (m_cnt R).2]
  congr 1
  refine q_congr n (fun i s hi => ?_)
  rw [(m_rowAll R hi).1, q_bc h8 (m_lks R i hi)]
theorem q_one_inj {i j : Nat} (hi : i < 32) (hj : j < 32) : zshl 1 (nI i) = zshl 1 (nI j) ↔ i = j := by
  refine ⟨fun e => ?_, fun e => by rw [e]⟩
  have := congrArg (fun x => bt x i) e
  rw [q_one hi hi, q_one hj hi, decide_eq_true (rfl : i = i)] at this
  simpa using this.symm
/-- the number of nets -/
theorem m_nets (R : zmr h b k 54 n (q_all n) K) : o_Mesh_netCount h b = o_Model_nets k := by
  have h8 := m_8 R
  unfold o_Mesh_netCount o_Model_nets
  rw [(m_cnt R).1, (m_cnt R).2]
  refine q_congr n (fun i s hi => ?_)
  unfold o_Mesh_isLowestOfNet
  rw [m_net R hi, m_netM R.1.2.1 h8]
  obtain ⟨-, g2, g3, -⟩ := q_net_G h8 (m_lks R) hi
  rcases q_least h8 g2 with ⟨e1, -⟩ | ⟨j, hj, e1, -, e3, -⟩
  · exfalso
    rw [e1, b_0] at g3
    cases g3
  · have e1' : o_Model_leastOf (q_net (fun e => k 54 (16 + e)) n i) = nI j := e1
    have e3' : o_Int_lowestOneBit (q_net (fun e => k 54 (16 + e)) n i) = zshl 1 (nI j) := e3
    rw [e1', e3']
    by_cases q : j = i
    · rw [if_pos (by rw [q]; exact decide_eq_true rfl), q, decide_eq_true (rfl : nI i = nI i)]
      rfl
    · rw [if_neg (by rw [decide_eq_true_eq, q_one_inj (by omega) (by omega)]; exact q), decide_eq_false (by rw [nI_eq (by omega) (by omega)]; exact q)]
      exact (Int32.add_zero s).symm
end ZQ
