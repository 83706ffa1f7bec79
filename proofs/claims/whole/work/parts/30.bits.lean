/-! Bits and loops. The first family is the kit's, pasted. -/
def bt (x : Int32) (i : Nat) : Bool := x.toBitVec.getLsbD i
theorem b_ext {x y : Int32} (h : ∀ i, i < 32 → bt x i = bt y i) : x = y := Int32.toBitVec_inj.mp (BitVec.eq_of_getLsbD_eq (fun i hi => h i hi))
theorem b_or (x y : Int32) (i : Nat) : bt (x ||| y) i = (bt x i || bt y i) := by unfold bt; rw [Int32.toBitVec_or, BitVec.getLsbD_or]
theorem b_and (x y : Int32) (i : Nat) : bt (x &&& y) i = (bt x i && bt y i) := by unfold bt; rw [Int32.toBitVec_and, BitVec.getLsbD_and]
theorem b_xor (x y : Int32) (i : Nat) : bt (x ^^^ y) i = (bt x i ^^ bt y i) := by unfold bt; rw [Int32.toBitVec_xor, BitVec.getLsbD_xor]
theorem b_big {x : Int32} {i : Nat} (h : 32 ≤ i) : bt x i = false := BitVec.getLsbD_of_ge _ _ h
theorem b_255 (i : Nat) : bt 255 i = decide (i < 8) := by
  rcases Nat.lt_or_ge i 32 with h | h
  · exact (by decide +kernel : ∀ i, i < 32 → bt 255 i = decide (i < 8)) i h
  · rw [b_big h, decide_eq_false (by omega)]
theorem b_65535 (i : Nat) : bt 65535 i = decide (i < 16) := by
  rcases Nat.lt_or_ge i 32 with h | h
  · exact (by decide +kernel : ∀ i, i < 32 → bt 65535 i = decide (i < 16)) i h
  · rw [b_big h, decide_eq_false (by omega)]
theorem b_m1 : ∀ i, i < 32 → bt (-1) i = true := by decide +kernel
theorem b_0 (i : Nat) : bt 0 i = false := BitVec.getLsbD_zero
theorem s_l : ∀ n, n < 32 → ((nI n &&& 31).toBitVec.smod 32).toNat = n := by decide +kernel
theorem s_u : ∀ n, n < 32 → (((nI n).toUInt32 &&& Int32.toUInt32 31).toBitVec % 32).toNat = n := by decide +kernel
theorem b_shl (n : Nat) (hn : n < 32) (x : Int32) {i : Nat} (hi : i < 32) : bt (x <<< (nI n &&& 31)) i = (decide (n ≤ i) && bt x (i - n)) := by
  unfold bt
  rw [Int32.toBitVec_shiftLeft]
  show (x.toBitVec <<< ((nI n &&& 31).toBitVec.smod 32).toNat).getLsbD i = _
  rw [s_l n hn, BitVec.getLsbD_shiftLeft]
  rcases Nat.lt_or_ge i n with h | h
  · simp [h, Nat.not_le.mpr h]
  · simp [hi, h, Nat.not_lt.mpr h]
theorem b_ushr (n : Nat) (hn : n < 32) (x : Int32) (i : Nat) : bt ((x.toUInt32 >>> ((nI n).toUInt32 &&& Int32.toUInt32 31)).toInt32) i = bt x (n + i) := by
  show (x.toUInt32 >>> ((nI n).toUInt32 &&& Int32.toUInt32 31)).toBitVec.getLsbD i = x.toUInt32.toBitVec.getLsbD (n + i)
  rw [UInt32.toBitVec_shiftRight]
  show (x.toUInt32.toBitVec >>> (((nI n).toUInt32 &&& Int32.toUInt32 31).toBitVec % 32).toNat).getLsbD i = _
  rw [s_u n hn, BitVec.getLsbD_ushiftRight]
theorem b_sshr (n : Nat) (hn : n < 32) (x : Int32) {i : Nat} (hi : i < 32) : bt (x >>> (nI n &&& 31)) i = if n + i < 32 then bt x (n + i) else bt x 31 := by
  unfold bt
  rw [Int32.toBitVec_shiftRight]
  show (x.toBitVec.sshiftRight ((nI n &&& 31).toBitVec.smod 32).toNat).getLsbD i = _
  rw [s_l n hn, BitVec.getLsbD_sshiftRight, BitVec.msb_eq_getLsbD_last]
  simp [hi]
theorem b_1 : ∀ i, i < 32 → bt 1 i = decide (i = 0) := by decide +kernel
theorem q_sar0 {x : Int32} {n : Nat} (hn : n < 32) : bt (zsar x (nI n)) 0 = bt x n := by
  unfold zsar
  rw [b_sshr n hn x (by omega), if_pos (by omega)]
  rfl
theorem q_and1 (x : Int32) : x &&& 1 = if bt x 0 = true then 1 else 0 := by
  apply b_ext
  intro i hi
  rw [b_and, b_1 i hi]
  by_cases h0 : i = 0
  · subst h0
    cases hx : bt x 0
    · simp [b_0]
    · simp [b_1]
  · cases hx : bt x 0
    · simp [b_0, h0]
    · simp [b_1 i hi, h0]
theorem q_has {x : Int32} {n : Nat} (hn : n < 32) : o_Slots_has x (nI n) = bt x n := by
  unfold o_Slots_has
  rw [q_and1, q_sar0 hn]
  cases bt x n <;> decide
theorem q_hasM {x : Int32} {n : Nat} (hn : n < 32) : o_Model_has x (nI n) = bt x n := by
  unfold o_Model_has
  rw [q_and1, q_sar0 hn]
  cases bt x n <;> decide
theorem q_one {k i : Nat} (hk : k < 32) (hi : i < 32) : bt (zshl 1 (nI k)) i = decide (i = k) := by
  unfold zshl
  rw [b_shl k hk 1 hi, b_1 (i - k) (by omega), ← Bool.decide_and]
  exact decide_eq_decide.mpr (by omega)
theorem q_not1 {k i : Nat} (hk : k < 32) (hi : i < 32) : bt (zshl 1 (nI k) ^^^ (-1)) i = !decide (i = k) := by
  rw [b_xor, q_one hk hi, b_m1 i hi, Bool.xor_true]
theorem q_eq0 {x : Int32} : x = 0 ↔ ∀ i, i < 32 → bt x i = false := by
  refine ⟨fun e i _ => by rw [e]; exact b_0 i, fun h => b_ext (fun i hi => by rw [h i hi, b_0])⟩
theorem q_ne0 {x : Int32} (h : ¬ x = 0) : ∃ i, i < 32 ∧ bt x i = true := by
  refine Classical.byContradiction (fun q => h (q_eq0.mpr (fun i hi => ?_)))
  cases hb : bt x i
  · rfl
  · exact absurd ⟨i, hi, hb⟩ q
theorem q_tt {a b : Bool} (h : a = true ↔ b = true) : a = b := by cases a <;> cases b <;> simp_all
-- loops
theorem q_congr {σ : Type} {f g : Nat → σ → σ} {a : σ} : ∀ n, (∀ i s, i < n → f i s = g i s) → zrep f a n = zrep g a n
  | 0, _ => rfl
  | n + 1, h => by
    show f n (zrep f a n) = g n (zrep g a n)
    rw [q_congr n (fun i s hi => h i s (by omega)), h n _ (by omega)]
theorem q_rel {σ τ : Type} (R : Nat → σ → τ → Prop) {f : Nat → σ → σ} {g : Nat → τ → τ} {a : σ} {b : τ} : ∀ n, R 0 a b → (∀ i s t, i < n → R i s t → R (i + 1) (f i s) (g i t)) → R n (zrep f a n) (zrep g b n)
  | 0, h0, _ => h0
  | n + 1, h0, hs => hs n _ _ (by omega) (q_rel R n h0 (fun i s t hi => hs i s t (by omega)))
theorem q_xcongr {σ ρ : Type} {f g : Nat → σ → σ ⊕ ρ} {a : σ} : ∀ n, (∀ i s, i < n → f i s = g i s) → zrex f a n = zrex g a n
  | 0, _ => rfl
  | n + 1, h => by
    show (match zrex f a n with | .inl s => f n s | .inr r => .inr r) = (match zrex g a n with | .inl s => g n s | .inr r => .inr r)
    rw [q_xcongr n (fun i s hi => h i s (by omega))]
    cases zrex g a n with
    | inl s => exact h n s (by omega)
    | inr r => rfl
/-- two loops with early ends, step by step -/
theorem q_xrel {σ τ ρ ω : Type} (R : Nat → σ → τ → Prop) (E : ρ → ω → Prop) {f : Nat → σ → σ ⊕ ρ} {g : Nat → τ → τ ⊕ ω} {a : σ} {b : τ} : ∀ n, R 0 a b → (∀ i s t, i < n → R i s t → (∃ s2 t2, f i s = .inl s2 ∧ g i t = .inl t2 ∧ R (i + 1) s2 t2) ∨ (∃ u w, f i s = .inr u ∧ g i t = .inr w ∧ E u w)) → (∃ s2 t2, zrex f a n = .inl s2 ∧ zrex g b n = .inl t2 ∧ R n s2 t2) ∨ (∃ u w, zrex f a n = .inr u ∧ zrex g b n = .inr w ∧ E u w)
  | 0, h0, _ => Or.inl ⟨a, b, rfl, rfl, h0⟩
  | n + 1, h0, hs => by
    rcases q_xrel R E n h0 (fun i s t hi => hs i s t (by omega)) with ⟨s2, t2, e1, e2, hR⟩ | ⟨u, w, e1, e2, hE⟩
    · rcases hs n s2 t2 (by omega) hR with ⟨s3, t3, f1, f2, hR3⟩ | ⟨u, w, f1, f2, hE⟩
      · exact Or.inl ⟨s3, t3, by simp only [zrex, e1, f1], by simp only [zrex, e2, f2], hR3⟩
      · exact Or.inr ⟨u, w, by simp only [zrex, e1, f1], by simp only [zrex, e2, f2], hE⟩
    · exact Or.inr ⟨u, w, by simp only [zrex, e1], by simp only [zrex, e2], hE⟩
theorem q_Pcongr {P Q : Prop} [Decidable P] [Decidable Q] {α : Type} {a b : α} (h : P ↔ Q) : (if P then a else b) = (if Q then a else b) := by
  by_cases hP : P
  · rw [if_pos hP, if_pos (h.mp hP)]
  · rw [if_neg hP, if_neg (fun q => hP (h.mpr q))]
/-- a set, built bit by bit -/
def q_mk (P : Nat → Bool) (n : Nat) : Int32 := zrep (fun i (s : Int32) => if P i = true then s ||| zshl 1 (nI i) else s) 0 n
theorem q_mk_bt {P : Nat → Bool} {j : Nat} (hj : j < 32) : ∀ {n : Nat}, n ≤ 32 → bt (q_mk P n) j = (decide (j < n) && P j)
  | 0, _ => by
    show bt 0 j = _
    rw [b_0]
    simp
  | n + 1, hn => by
    have ih := q_mk_bt (P := P) hj (n := n) (by omega)
    show bt (if P n = true then q_mk P n ||| zshl 1 (nI n) else q_mk P n) j = _
    by_cases hP : P n = true
    · rw [if_pos hP, b_or, ih, q_one (by omega) hj]
      by_cases hjn : j = n
      · subst hjn
        simp [hP]
      · rw [show decide (j = n) = false from decide_eq_false hjn, Bool.or_false]
        congr 1
        exact decide_eq_decide.mpr (by omega)
    · rw [if_neg hP, ih]
      by_cases hjn : j = n
      · subst hjn
        simp [hP]
      · congr 1
        exact decide_eq_decide.mpr (by omega)
theorem q_mk_congr {P Q : Nat → Bool} {n : Nat} (h : ∀ i, i < n → P i = Q i) : q_mk P n = q_mk Q n := q_congr n (fun i s hi => by rw [h i hi])
/-- sets, joined -/
def q_og (P : Nat → Bool) (F : Nat → Int32) (a : Int32) (n : Nat) : Int32 := zrep (fun i (s : Int32) => if P i = true then s ||| F i else s) a n
theorem q_og_bt {P : Nat → Bool} {F : Nat → Int32} {a : Int32} {j : Nat} : ∀ {n : Nat}, bt (q_og P F a n) j = true ↔ bt a j = true ∨ ∃ i, i < n ∧ P i = true ∧ bt (F i) j = true
  | 0 => by
    show bt a j = true ↔ _
    refine ⟨Or.inl, fun h => ?_⟩
    rcases h with h | ⟨i, hi, -⟩
    · exact h
    · omega
  | n + 1 => by
    have ih := q_og_bt (P := P) (F := F) (a := a) (j := j) (n := n)
    show bt (if P n = true then q_og P F a n ||| F n else q_og P F a n) j = true ↔ _
    by_cases hP : P n = true
    · rw [if_pos hP, b_or, Bool.or_eq_true, ih]
      refine ⟨fun h => ?_, fun h => ?_⟩
      · rcases h with (h | ⟨i, hi, h⟩) | h
        · exact Or.inl h
        · exact Or.inr ⟨i, by omega, h⟩
        · exact Or.inr ⟨n, by omega, hP, h⟩
      · rcases h with h | ⟨i, hi, h1, h2⟩
        · exact Or.inl (Or.inl h)
        · rcases Nat.lt_or_ge i n with q | q
          · exact Or.inl (Or.inr ⟨i, q, h1, h2⟩)
          · obtain rfl : i = n := by omega
            exact Or.inr h2
    · rw [if_neg hP, ih]
      refine ⟨fun h => ?_, fun h => ?_⟩
      · rcases h with h | ⟨i, hi, h⟩
        · exact Or.inl h
        · exact Or.inr ⟨i, by omega, h⟩
      · rcases h with h | ⟨i, hi, h1, h2⟩
        · exact Or.inl h
        · rcases Nat.lt_or_ge i n with q | q
          · exact Or.inr ⟨i, q, h1, h2⟩
          · obtain rfl : i = n := by omega
            exact absurd h1 hP
theorem q_og_congr {P Q : Nat → Bool} {F G : Nat → Int32} {a : Int32} {n : Nat} (h : ∀ i, i < n → P i = Q i ∧ (P i = true → F i = G i)) : q_og P F a n = q_og Q G a n := q_congr n (fun i s hi => by
  obtain ⟨h1, h2⟩ := h i hi
  rw [← h1]
  by_cases hP : P i = true
  · rw [if_pos hP, if_pos hP, h2 hP]
  · rw [if_neg hP, if_neg hP])
theorem q_or_assoc (x y z : Int32) : x ||| y ||| z = x ||| (y ||| z) := b_ext (fun i _ => by rw [b_or, b_or, b_or, b_or, Bool.or_assoc])
theorem q_or_0 (x : Int32) : x ||| 0 = x := b_ext (fun i _ => by rw [b_or, b_0, Bool.or_false])
theorem q_0_or (x : Int32) : 0 ||| x = x := b_ext (fun i _ => by rw [b_or, b_0, Bool.false_or])
theorem q_or_comm (x y : Int32) : x ||| y = y ||| x := b_ext (fun i _ => by rw [b_or, b_or, Bool.or_comm])
theorem q_and_comm (x y : Int32) : x &&& y = y &&& x := b_ext (fun i _ => by rw [b_and, b_and, Bool.and_comm])
theorem q_and_0 (x : Int32) : x &&& 0 = 0 := b_ext (fun i _ => by rw [b_and, b_0, Bool.and_false])
theorem q_og_acc {P : Nat → Bool} {F : Nat → Int32} {x a : Int32} : ∀ {n : Nat}, q_og P F (x ||| a) n = x ||| q_og P F a n
  | 0 => rfl
  | n + 1 => by
    show (if P n = true then q_og P F (x ||| a) n ||| F n else q_og P F (x ||| a) n) = x ||| (if P n = true then q_og P F a n ||| F n else q_og P F a n)
    rw [q_og_acc (n := n)]
    by_cases hP : P n = true
    · rw [if_pos hP, if_pos hP, q_or_assoc]
    · rw [if_neg hP, if_neg hP]
-- heaps
theorem q_zup_zup (h : zHp) (c k : Nat) (x y : Int32) : zup (zup h c k x) c k y = zup h c k y := by
  funext c2 k2
  by_cases hc : c2 = c ∧ k2 = k
  · obtain ⟨rfl, rfl⟩ := hc
    rw [zup_at, zup_at]
  · rw [zup_fr (by omega), zup_fr (by omega), zup_fr (by omega)]
theorem q_zup_self (h : zHp) (c k : Nat) : zup h c k (h c k) = h := by
  funext c2 k2
  by_cases hc : c2 = c ∧ k2 = k
  · obtain ⟨rfl, rfl⟩ := hc
    rw [zup_at]
  · rw [zup_fr (by omega)]
/-- a loop that writes a row place by place, and reads elsewhere alone -/
theorem q_row {h : zHp} {c : Nat} {F : Nat → zHp → Int32} {G : Nat → Int32} : ∀ (n : Nat), (∀ i s, i < n → (∀ c2 k2, (c2 ≠ c ∨ i ≤ k2) → s c2 k2 = h c2 k2) → F i s = G i) → ∀ c2 k2, (zrep (fun i (s : zHp) => zup s c i (F i s)) h n) c2 k2 = if c2 = c ∧ k2 < n then G k2 else h c2 k2
  | 0, _, c2, k2 => by
    rw [if_neg (by omega)]
    rfl
  | n + 1, hF, c2, k2 => by
    have ih := q_row (h := h) (c := c) (F := F) (G := G) n (fun i s hi => hF i s (by omega))
    show zup (zrep (fun i (s : zHp) => zup s c i (F i s)) h n) c n (F n (zrep (fun i (s : zHp) => zup s c i (F i s)) h n)) c2 k2 = _
    have e : F n (zrep (fun i (s : zHp) => zup s c i (F i s)) h n) = G n := hF n _ (by omega) (fun c3 k3 q => by rw [ih, if_neg (by omega)])
    rw [e]
    by_cases q : c2 = c ∧ k2 = n
    · obtain ⟨rfl, rfl⟩ := q
      rw [zup_at, if_pos ⟨rfl, by omega⟩]
    · rw [zup_fr (by omega), ih]
      by_cases q2 : c2 = c ∧ k2 < n
      · rw [if_pos q2, if_pos ⟨q2.1, by omega⟩]
      · rw [if_neg q2, if_neg (by omega)]
