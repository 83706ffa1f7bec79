/-! Where a text still has room for a link. -/
theorem q_full0 : ∀ n, n ≤ 8 → ∀ v, v < n → ∀ x, x < 2 ^ n → (bt (nI x) v || (decide (q_cnt (nI x) 8 ≤ n - 1) && (decide (q_cnt (nI x) 8 = n - 1) == decide ((nI x ||| zshl 1 (nI v)) = zshl 1 (nI n) - 1)))) = true := by decide +kernel
theorem q_full (n : Nat) (hn : n ≤ 8) (v : Nat) (hv : v < n) (x : Nat) (hx : x < 2 ^ n) (hb : bt (nI x) v = false) : q_cnt (nI x) 8 ≤ n - 1 ∧ (q_cnt (nI x) 8 = n - 1 ↔ (nI x ||| zshl 1 (nI v)) = zshl 1 (nI n) - 1) := by
  have h := q_full0 n hn v hv x hx
  rw [hb, Bool.false_or, Bool.and_eq_true, decide_eq_true_eq, beq_iff_eq, decide_eq_decide] at h
  exact h
theorem q_twice : ∀ n, n ≤ 8 → (nI n * (nI n - 1)) / 2 = nI (n * (n - 1) / 2) ∧ n * (n - 1) % 2 = 0 ∧ n * (n - 1) ≤ 56 := by decide +kernel
theorem q_anyB {P : Nat → Bool} : ∀ n, zrep (fun i (s : Bool) => s || P i) false n = true ↔ ∃ i, i < n ∧ P i = true
  | 0 => ⟨fun q => absurd (show false = true from q) (by decide), fun ⟨i, q, _⟩ => absurd q (Nat.not_lt_zero i)⟩
  | n + 1 => by
    show (zrep (fun i (s : Bool) => s || P i) false n || P n) = true ↔ _
    rw [Bool.or_eq_true, q_anyB n]
    refine ⟨fun q => ?_, fun ⟨i, q1, q2⟩ => ?_⟩
    · rcases q with ⟨i, q1, q2⟩ | q
      · exact ⟨i, by omega, q2⟩
      · exact ⟨n, by omega, q⟩
    · by_cases e : i = n
      · exact Or.inr (e ▸ q2)
      · exact Or.inl ⟨i, by omega, q2⟩
theorem q_ns_all {c : Nat → Nat} {m : Nat} : ∀ n, (∀ v, v < n → c v = m) → q_ns c n = n * m
  | 0, _ => (Nat.zero_mul m).symm
  | n + 1, h => by
    show q_ns c n + c n = (n + 1) * m
    rw [q_ns_all n (fun v hv => h v (by omega)), h n (by omega), Nat.succ_mul]
theorem q_ns_max {c : Nat → Nat} {m : Nat} : ∀ n, (∀ v, v < n → c v ≤ m) → q_ns c n ≤ n * m
  | 0, _ => Nat.zero_le _
  | n + 1, h => by
    show q_ns c n + c n ≤ (n + 1) * m
    rw [Nat.succ_mul]
    exact Nat.add_le_add (q_ns_max n (fun v hv => h v (by omega))) (h n (by omega))
theorem q_ns_few {c : Nat → Nat} {m : Nat} : ∀ n, (∀ v, v < n → c v ≤ m) → (∃ v, v < n ∧ c v < m) → q_ns c n < n * m
  | 0, _, ⟨v, q, _⟩ => absurd q (Nat.not_lt_zero v)
  | n + 1, h, ⟨v, q1, q2⟩ => by
    show q_ns c n + c n < (n + 1) * m
    rw [Nat.succ_mul]
    by_cases e : v = n
    · subst e
      exact Nat.add_lt_add_of_le_of_lt (q_ns_max v (fun u hu => h u (by omega))) q2
    · exact Nat.add_lt_add_of_lt_of_le (q_ns_few n (fun u hu => h u (by omega)) ⟨v, by omega, q2⟩) (h n (by omega))
section ZM
variable {s t : zHp} {n : Nat}
theorem rd_lnk (R : q_rd s t n) {v : Nat} (hv : v < n) : y_on n (t 65 v) ∧ bt (t 65 v) v = false := by
  have h8 := m_8 R
  obtain ⟨l1, l2, -⟩ := R.2.2.2.2.1 v hv
  rw [v_lnk t (by omega)] at l1 l2
  exact ⟨l1, l2⟩
theorem rd_cnt (R : q_rd s t n) {v : Nat} (hv : v < n) : o_Int_bitCount (s 17 v) = nI (q_cnt (t 65 v) 8) ∧ q_cnt (t 65 v) 8 ≤ n - 1 ∧ (o_Model_hasRoom t v = true ↔ q_cnt (t 65 v) 8 < n - 1) := by
  have h8 := m_8 R
  obtain ⟨l1, l2⟩ := rd_lnk R hv
  rw [(rd_row R hv).2.1, q_bc h8 l1, q_onesC]
  obtain ⟨x, hx, ex⟩ := q_small h8 l1
  unfold o_Model_hasRoom
  rw [(rd_n R).2.1]
  rw [ex] at l2 ⊢
  obtain ⟨f1, f2⟩ := q_full n h8 v hv x hx l2
  refine ⟨rfl, f1, ?_⟩
  rw [Bool.not_eq_true', decide_eq_false_iff_not, ← f2]
  omega
theorem rd_full (R : q_rd s t n) {v : Nat} (hv : v < n) : o_Mesh_isLinkedWithAll s 15 v = !(o_Model_hasRoom t v) := by
  have h8 := m_8 R
  obtain ⟨c1, c2, c3⟩ := rd_cnt R hv
  refine q_bb ?_
  unfold o_Mesh_isLinkedWithAll
  rw [decide_eq_true_eq, Bool.not_eq_true', show 15 + 2 = 17 from rfl, c1, (rd_n R).1, show nI n - 1 = nI (n - 1) from pk_sub (b := 1) (by omega), nI_eq (by omega) (by omega), ← Bool.not_eq_true, c3]
  omega
theorem rd_room (R : q_rd s t n) : o_Mesh_lacksLink s 15 = zrep (fun (i : Nat) (b : Bool) => (b || (o_Model_hasRoom t i))) false (zcn (t 51 5)) := by
  have h8 := m_8 R
  obtain ⟨e1, e2, -⟩ := rd_n R
  obtain ⟨w1, w2, w3⟩ := q_twice n h8
  refine q_bb ?_
  rw [e2, zcn_nI (by omega), q_anyB]
  unfold o_Mesh_lacksLink o_Mesh_linkCount
  rw [e1, zcn_nI (by omega), w1]
  have S := q_rel (fun i (a : Int32) (b : Nat) => a = nI b ∧ b = q_ns (fun v => q_cnt (t 65 v) 8) i) (f := fun (i : Nat) (a : Int32) => a + (o_Int_bitCount (s (15 + 2) i))) (g := fun i b => b + q_cnt (t 65 i) 8) (a := 0) (b := 0) n ⟨rfl, rfl⟩ (fun i a b hi hI => by
    obtain ⟨I1, I2⟩ := hI
    rw [show 15 + 2 = 17 from rfl, (rd_cnt R hi).1, I1]
    refine ⟨nI_add _ _, ?_⟩
    show b + _ = q_ns (fun v => q_cnt (t 65 v) 8) i + _
    rw [I2])
  rw [S.1, S.2]
  have mx := q_ns_max (c := fun v => q_cnt (t 65 v) 8) (m := n - 1) n (fun v hv => (rd_cnt R hv).2.1)
  have hd : nI (q_ns (fun v => q_cnt (t 65 v) 8) n) / 2 = nI (q_ns (fun v => q_cnt (t 65 v) 8) n / 2) := pk_div (d := 2) (by omega) (by decide) (by decide)
  rw [hd, Bool.not_eq_true', decide_eq_false_iff_not, nI_leI (by omega) (by omega)]
  refine ⟨fun q => ?_, fun ⟨v, hv, q⟩ => ?_⟩
  · refine Classical.byContradiction (fun hn => ?_)
    have al := q_ns_all (c := fun v => q_cnt (t 65 v) 8) (m := n - 1) n (fun v hv => by
      have h2 := (rd_cnt R hv).2.1
      have h3 := (rd_cnt R hv).2.2
      have h4 : ¬ q_cnt (t 65 v) 8 < n - 1 := fun z => hn ⟨v, hv, h3.mpr z⟩
      show q_cnt (t 65 v) 8 = n - 1
      omega)
    rw [al] at q
    omega
  · have fw := q_ns_few (c := fun v => q_cnt (t 65 v) 8) (m := n - 1) n (fun v hv => (rd_cnt R hv).2.1) ⟨v, hv, (rd_cnt R hv).2.2.mp q⟩
    omega
end ZM
