/-! plan: what both searches look for. -/
/-- no tick is shared by v with offset x and u with offset y -/
def q_fr2 (p : Nat → Int32) (v x u y : Nat) : Prop := (o_Model_ticksOf (nI x) (p v) &&& o_Model_ticksOf (nI y) (p u)) = 0
/-- a is right, of the stations of T below m -/
def q_val (p N : Nat → Int32) (T : Nat → Bool) (m : Nat) (a : Nat → Nat) : Prop := ∀ v, v < m → T v = true → a v < zcn (p v) ∧ ∀ u, u < v → T u = true → bt (N v) u = true → q_fr2 p v (a v) u (a u)
theorem q_val_congr {p N : Nat → Int32} {T : Nat → Bool} {m : Nat} {a b : Nat → Nat} (e : ∀ v, v < m → T v = true → a v = b v) (H : q_val p N T m a) : q_val p N T m b := fun v hv tv => by
  obtain ⟨h1, h2⟩ := H v hv tv
  rw [← e v hv tv]
  refine ⟨h1, fun u hu tu hb => ?_⟩
  rw [← e u (by omega) tu]
  exact h2 u hu tu hb
theorem q_val_le {p N : Nat → Int32} {T : Nat → Bool} {m k : Nat} {a : Nat → Nat} (h : k ≤ m) (H : q_val p N T m a) : q_val p N T k a := fun v hv tv => H v (by omega) tv
/-- a is right and, from s on, each time the least -/
def q_min (p N : Nat → Int32) (T : Nat → Bool) (n s : Nat) (a : Nat → Nat) : Prop := q_val p N T n a ∧ ∀ b, q_val p N T n b → ∀ v, s ≤ v → v < n → T v = true → (∀ u, u < v → T u = true → b u = a u) → a v ≤ b v
theorem q_min_one {p N : Nat → Int32} {T : Nat → Bool} {n : Nat} {a b : Nat → Nat} (A : q_min p N T n 0 a) (B : q_min p N T n 0 b) : ∀ v, v < n → T v = true → a v = b v := by
  intro v
  refine Nat.strongRecOn (motive := fun v => v < n → T v = true → a v = b v) v (fun v ih hv tv => ?_)
  · have h1 := A.2 b B.1 v (Nat.zero_le v) hv tv (fun u hu tu => (ih u hu (by omega) tu).symm)
    have h2 := B.2 a A.1 v (Nat.zero_le v) hv tv (fun u hu tu => ih u hu (by omega) tu)
    omega
theorem q_andB {P : Nat → Bool} : ∀ n, zrep (fun i (s : Bool) => s && P i) true n = true ↔ ∀ i, i < n → P i = true
  | 0 => ⟨fun _ i q => absurd q (Nat.not_lt_zero i), fun _ => rfl⟩
  | n + 1 => by
    show (zrep (fun i (s : Bool) => s && P i) true n && P n) = true ↔ _
    rw [Bool.and_eq_true, q_andB n]
    refine ⟨fun q i hi => ?_, fun q => ⟨fun i hi => q i (by omega), q n (by omega)⟩⟩
    by_cases e : i = n
    · exact e ▸ q.2
    · exact q.1 i (by omega)
section ZS
variable {h0 : zHp} {n : Nat}
theorem q_fits {h : zHp} {s o : Nat} {a : Nat → Nat} (hs : s < 8) (e1 : h 69 s = nI o) (e2 : ∀ i, i < s → h 69 i = nI (a i)) : o_Model_fits h s = true ↔ ∀ u, u < s → bt (h 66 s) u = true → q_fr2 (h 53) s o u (a u) := by
  unfold o_Model_fits
  rw [q_andB (P := fun i => !(o_Model_has (h 66 s) (nI i)) || (decide (((o_Model_ticksOf (h 69 s) (h 53 s)) &&& (o_Model_ticksOf (h 69 i) (h 53 i))) = 0)))]
  refine ⟨fun q u hu hb => ?_, fun q u hu => ?_⟩
  · have h1 := q u hu
    rw [q_hasM (by omega), hb, Bool.not_true, Bool.false_or, decide_eq_true_eq, e1, e2 u hu] at h1
    exact h1
  · rw [q_hasM (by omega), Bool.or_eq_true, decide_eq_true_eq, e1, e2 u hu]
    by_cases hb : bt (h 66 s) u = true
    · exact Or.inr (q u hu hb)
    · left
      rw [Bool.not_eq_true', ← Bool.not_eq_true]
      exact hb
theorem q_zpl (h8 : n ≤ 8) : ∀ (k s : Nat) (h : zHp) (pr : Nat → Nat), s + k = n → (∀ c i, c ≠ 69 → h c i = h0 c i) → (∀ i, i < s → h 69 i = nI (pr i)) → q_val (h0 53) (h0 66) (fun _ => true) s pr →
    ((zpl k h s).1 = true → ∃ a, (∀ i, i < s → a i = pr i) ∧ (∀ v, v < n → (zpl k h s).2 69 v = nI (a v)) ∧ q_min (h0 53) (h0 66) (fun _ => true) n s a) ∧
    ((zpl k h s).1 = false → ∀ b, (∀ i, i < s → b i = pr i) → ¬ q_val (h0 53) (h0 66) (fun _ => true) n b)
  | 0, s, h, pr, hk, _, e2, hv => by
    have hsn : s = n := by omega
    refine ⟨fun _ => ⟨pr, fun _ _ => rfl, fun v hv2 => e2 v (by omega), hsn ▸ hv, fun b _ v h1 h2 => absurd h1 (by omega)⟩, fun q => absurd (show true = false from q) (by decide)⟩
  | k + 1, s, h, pr, hk, e1, e2, hv => by
    have e53 : h 53 s = h0 53 s := e1 53 s (by decide)
    have hX := zrex_inv (f := fun o => zplF (zpl k) k s o) (a := h) (fun o (h2 : zHp) => (∀ c i, (c ≠ 69 ∨ i < s) → h2 c i = h c i) ∧ ∀ b, (∀ i, i < s → b i = pr i) → b s < o → ¬ q_val (h0 53) (h0 66) (fun _ => true) n b) (fun (h2 : zHp) => ∃ a, (∀ i, i < s → a i = pr i) ∧ (∀ v, v < n → h2 69 v = nI (a v)) ∧ q_min (h0 53) (h0 66) (fun _ => true) n s a) (zcn (h 53 s)) ⟨fun _ _ _ => rfl, fun b _ q => absurd q (Nat.not_lt_zero _)⟩ (fun o h2 ho hI => by
      obtain ⟨I1, I2⟩ := hI
      have w1 : ∀ c i, c ≠ 69 → zup h2 69 s (nI o) c i = h0 c i := fun c i q => by rw [zup_fr (Or.inl q), I1 c i (Or.inl q), e1 c i q]
      have w2 : ∀ i, i < s → zup h2 69 s (nI o) 69 i = nI (pr i) := fun i hi => by rw [zup_fr (by omega), I1 69 i (Or.inr hi), e2 i hi]
      have ft := q_fits (h := zup h2 69 s (nI o)) (a := pr) (s := s) (o := o) (by omega) zup_at w2
      have r53 : zup h2 69 s (nI o) 53 = h0 53 := funext (fun i => w1 53 i (by decide))
      have r66 : zup h2 69 s (nI o) 66 = h0 66 := funext (fun i => w1 66 i (by decide))
      rw [r53, r66] at ft
      show (∀ s2, zplF (zpl k) k s o h2 = .inl s2 → _) ∧ ∀ r, zplF (zpl k) k s o h2 = .inr r → _
      unfold zplF
      by_cases c1 : o_Model_fits (zup h2 69 s (nI o)) s = true
      · rw [if_pos c1]
        have g1 : ∀ c i, c ≠ 69 → (if 0 < k then zup (zup h2 69 s (nI o)) 69 (s + 1) (-1) else zup h2 69 s (nI o)) c i = h0 c i := fun c i q => by
          by_cases z : 0 < k
          · rw [if_pos z, zup_fr (Or.inl q), w1 c i q]
          · rw [if_neg z, w1 c i q]
        have g2 : ∀ i, i < s + 1 → (if 0 < k then zup (zup h2 69 s (nI o)) 69 (s + 1) (-1) else zup h2 69 s (nI o)) 69 i = nI (if i = s then o else pr i) := fun i hi => by
          have g3 : zup h2 69 s (nI o) 69 i = nI (if i = s then o else pr i) := by
            by_cases ei : i = s
            · rw [if_pos ei, ei, zup_at]
            · rw [if_neg ei]
              exact w2 i (by omega)
          by_cases z : 0 < k
          · rw [if_pos z, zup_fr (by omega), g3]
          · rw [if_neg z, g3]
        have g4 : ∀ c i, (c ≠ 69 ∨ i < s) → (if 0 < k then zup (zup h2 69 s (nI o)) 69 (s + 1) (-1) else zup h2 69 s (nI o)) c i = h c i := fun c i q => by
          by_cases z : 0 < k
          · rw [if_pos z, zup_fr (by omega), zup_fr (by omega), I1 c i q]
          · rw [if_neg z, zup_fr (by omega), I1 c i q]
        generalize (if 0 < k then zup (zup h2 69 s (nI o)) 69 (s + 1) (-1) else zup h2 69 s (nI o)) = h3 at g1 g2 g4 ⊢
        have hv3 : q_val (h0 53) (h0 66) (fun _ => true) (s + 1) (fun i => if i = s then o else pr i) := fun v hv2 _ => by
          by_cases ev : v = s
          · subst ev
            dsimp only
            rw [if_pos rfl]
            refine ⟨by rw [← e53]; exact ho, fun u hu _ hb => ?_⟩
            rw [if_neg (by omega)]
            exact ft.mp c1 u hu hb
          · obtain ⟨q1, q2⟩ := hv v (by omega) rfl
            dsimp only
            rw [if_neg ev]
            refine ⟨q1, fun u hu _ hb => ?_⟩
            rw [if_neg (by omega)]
            exact q2 u hu rfl hb
        obtain ⟨iT, iF⟩ := q_zpl h8 k (s + 1) h3 (fun i => if i = s then o else pr i) (by omega) g1 g2 hv3
        by_cases c2 : (zpl k h3 (s + 1)).1 = true
        · rw [if_pos c2]
          refine ⟨fun s2 es => (by cases es), fun r er => ?_⟩
          cases er
          obtain ⟨a, a1, a2, a3, a4⟩ := iT c2
          have as : a s = o := by
            have := a1 s (by omega)
            rw [if_pos rfl] at this
            exact this
          have al : ∀ i, i < s → a i = pr i := fun i hi => by
            have := a1 i (by omega)
            rw [if_neg (by omega)] at this
            exact this
          refine ⟨a, al, a2, a3, fun b hb v hv1 hv2 _ hag => ?_⟩
          by_cases ev : v = s
          · subst ev
            rw [as]
            exact Nat.not_lt.mp (fun q => I2 b (fun i hi => (hag i hi rfl).trans (al i hi)) q hb)
          · exact a4 b hb v (by omega) hv2 rfl hag
        · rw [if_neg c2]
          refine ⟨fun s2 es => ?_, fun r er => (by cases er)⟩
          cases es
          refine ⟨fun c i q => (zpl_fr k h3 (s + 1) c i (by omega)).trans (g4 c i q), fun b hb1 hb2 => ?_⟩
          by_cases eb : b s = o
          · refine iF (by simpa using c2) b (fun i hi => ?_)
            by_cases ei : i = s
            · rw [if_pos ei, ei, eb]
            · rw [if_neg ei]
              exact hb1 i (by omega)
          · exact I2 b hb1 (by omega)
      · rw [if_neg c1]
        refine ⟨fun s2 es => ?_, fun r er => (by cases er)⟩
        cases es
        refine ⟨fun c i q => (zup_fr (by omega)).trans (I1 c i q), fun b hb1 hb2 => ?_⟩
        by_cases eb : b s = o
        · refine fun hb => c1 (ft.mpr (fun u hu hbt => ?_))
          have := (hb s (by omega) rfl).2 u hu rfl hbt
          rw [eb, hb1 u hu] at this
          exact this
        · exact I2 b hb1 (by omega))
    unfold zpl
    cases hz : zrex (fun o => zplF (zpl k) k s o) h (zcn (h 53 s)) with
    | inl s2 =>
      refine ⟨fun q => absurd (show false = true from q) (by decide), fun _ b hb1 hb => ?_⟩
      refine (hX.1 s2 hz).2 b hb1 ?_ hb
      rw [e53]
      exact (hb s (by omega) rfl).1
    | inr r =>
      exact ⟨fun _ => hX.2 r hz, fun q => absurd (show true = false from q) (by decide)⟩
end ZS
