/-! Loops. -/
/-- a row of steps, from 0 up -/
def zrep {σ : Type} (f : Nat → σ → σ) (a : σ) : Nat → σ
  | 0 => a
  | n + 1 => f n (zrep f a n)
/-- a row of steps that may end early -/
def zrex {σ ρ : Type} (f : Nat → σ → σ ⊕ ρ) (a : σ) : Nat → σ ⊕ ρ
  | 0 => .inl a
  | n + 1 => match zrex f a n with
    | .inl s => f n s
    | .inr r => .inr r
theorem zrep_inv {σ : Type} {f : Nat → σ → σ} {a : σ} (I : Nat → σ → Prop) (n : Nat) (h0 : I 0 a) (hs : ∀ i s, i < n → I i s → I (i + 1) (f i s)) : I n (zrep f a n) := by
  have hI : ∀ i, i ≤ n → I i (zrep f a i) := by
    intro i
    induction i with
    | zero => exact fun _ => h0
    | succ i ih => exact fun h => hs i _ (by omega) (ih (by omega))
  exact hI n (Nat.le_refl _)
theorem zfor {σ : Type} {f : Nat → σ → σ} {a : σ} (P : Nat → σ → Prop) (I : Nat → σ → Prop) (n : Nat) (h0 : I 0 a) (hs : ∀ i s, i < n → I i s → (I (i + 1) (f i s) ∧ ((∀ s2, f i s = s2 → P (i + 1) s2) → P i s))) (he : ∀ r, zrep f a n = r → I n r → P n r) : P 0 a := by
  have hI : ∀ i, i ≤ n → I i (zrep f a i) := fun i hi => zrep_inv I i h0 (fun j s hj h => (hs j s (by omega) h).1)
  have hP : ∀ k i, i + k = n → P i (zrep f a i) := by
    intro k
    induction k with
    | zero =>
      intro i h
      obtain rfl : i = n := by omega
      exact he _ rfl (hI _ (Nat.le_refl _))
    | succ k ih =>
      intro i h
      exact (hs i _ (by omega) (hI i (by omega))).2 (fun s2 e => by rw [← e]; exact ih (i + 1) (by omega))
  exact hP n 0 (by omega)
theorem zrex_inv {σ ρ : Type} {f : Nat → σ → σ ⊕ ρ} {a : σ} (I : Nat → σ → Prop) (J : ρ → Prop) (n : Nat) (h0 : I 0 a) (hs : ∀ i s, i < n → I i s → (∀ s2, f i s = .inl s2 → I (i + 1) s2) ∧ ∀ r, f i s = .inr r → J r) : (∀ s, zrex f a n = .inl s → I n s) ∧ ∀ r, zrex f a n = .inr r → J r := by
  have hI : ∀ i, i ≤ n → (∀ s, zrex f a i = .inl s → I i s) ∧ ∀ r, zrex f a i = .inr r → J r := by
    intro i
    induction i with
    | zero =>
      intro _
      exact ⟨fun s h => (by cases h; exact h0), fun r h => (by cases h)⟩
    | succ i ih =>
      intro hi
      have ih := ih (by omega)
      simp only [zrex]
      cases hx : zrex f a i with
      | inl s1 => exact hs i s1 (by omega) (ih.1 s1 hx)
      | inr r1 => exact ⟨fun s h => (by cases h), fun r h => (by cases h; exact ih.2 _ hx)⟩
  exact hI n (Nat.le_refl _)
theorem zforx {σ ρ : Type} {f : Nat → σ → σ ⊕ ρ} {a : σ} (P : Nat → σ → Prop) (I : Nat → σ → Prop) (n : Nat) (h0 : I 0 a) (hs : ∀ i s, i < n → I i s → (∀ s2, f i s = .inl s2 → I (i + 1) s2) ∧ ((∀ s2, f i s = .inl s2 → P (i + 1) s2) → (∀ r, f i s = .inr r → zrex f a n = .inr r) → P i s)) (he : ∀ s, zrex f a n = .inl s → I n s → P n s) : P 0 a := by
  have hI : ∀ i s, i ≤ n → zrex f a i = .inl s → I i s := by
    intro i
    induction i with
    | zero =>
      intro s _ h
      cases h
      exact h0
    | succ i ih =>
      intro s hi h
      simp only [zrex] at h
      cases hx : zrex f a i with
      | inl s1 =>
        rw [hx] at h
        exact (hs i s1 (by omega) (ih s1 (by omega) hx)).1 s h
      | inr r =>
        rw [hx] at h
        cases h
  have hR : ∀ k i r, i + k = n → zrex f a i = .inr r → zrex f a n = .inr r := by
    intro k
    induction k with
    | zero =>
      intro i r h hx
      obtain rfl : i = n := by omega
      exact hx
    | succ k ih =>
      intro i r h hx
      exact ih (i + 1) r (by omega) (by simp only [zrex, hx])
  have hP : ∀ k i s, i + k = n → zrex f a i = .inl s → P i s := by
    intro k
    induction k with
    | zero =>
      intro i s h hx
      obtain rfl : i = n := by omega
      exact he s hx (hI _ s (Nat.le_refl _) hx)
    | succ k ih =>
      intro i s h hx
      refine (hs i s (by omega) (hI i s (by omega) hx)).2 (fun s2 h2 => ih (i + 1) s2 (by omega) ?_) (fun r hr => hR k (i + 1) r (by omega) ?_)
      · simp only [zrex, hx]; exact h2
      · simp only [zrex, hx]; exact hr
  exact hP n 0 a (by omega) rfl
/-- how often 'for (v = 0; v < x; v++)' goes round -/
def zcn (x : Int32) : Nat := x.toNatClampNeg
theorem zcn_lt {x : Int32} {i : Nat} (h : i < zcn x) : ¬ x ≤ nI i := by
  have h1 : zcn x = x.toInt.toNat := rfl
  have h2 := x.toInt_lt
  rw [Int32.le_iff_toInt_le, nI_toInt (by omega)]
  omega
theorem zcn_ge {x : Int32} : x ≤ nI (zcn x) := by
  have h1 : zcn x = x.toInt.toNat := rfl
  have h2 := x.toInt_lt
  rw [Int32.le_iff_toInt_le, nI_toInt (by omega)]
  omega
theorem zcn_small (x : Int32) : zcn x < 2 ^ 31 := by
  have h1 : zcn x = x.toInt.toNat := rfl
  have h2 := x.toInt_lt
  omega
theorem zcn_nI {n : Nat} (h : n < 2 ^ 31) : zcn (nI n) = n := nI_clamp h
theorem znI_cn {x : Int32} (h : 0 ≤ x) : nI (zcn x) = x := by
  have h1 : zcn x = x.toInt.toNat := rfl
  have h2 := x.toInt_lt
  have h3 : 0 ≤ x.toInt := by simpa using Int32.le_iff_toInt_le.mp h
  apply Int32.toInt_inj.mp
  rw [nI_toInt (by omega)]
  omega
/-- booleans as numbers -/
def zb (b : Bool) : Int32 := if b = true then 1 else 0
theorem zb_01 (b : Bool) : zb b = 0 ∨ zb b = 1 := by cases b <;> simp [zb]
theorem zb_0 {b : Bool} : zb b = 0 ↔ b = false := by cases b <;> simp [zb]
theorem zb_n0 {b : Bool} : ¬ zb b = 0 ↔ b = true := by cases b <;> simp [zb]
theorem zb_t {b : Bool} (h : b = true) : zb b = 1 := by rw [h]; rfl
theorem zb_f {b : Bool} (h : b = false) : zb b = 0 := by rw [h]; rfl
