/-! plan: the class' search in one net. -/
theorem q_and_og {P : Nat → Bool} {F : Nat → Int32} {x : Int32} {n : Nat} : (x &&& q_og P F 0 n) = 0 ↔ ∀ i, i < n → P i = true → (x &&& F i) = 0 := by
  refine ⟨fun q i hi hp => q_eq0.mpr (fun j hj => ?_), fun q => q_eq0.mpr (fun j hj => ?_)⟩
  · have h1 := q_eq0.mp q j hj
    rw [b_and] at h1 ⊢
    cases hx : bt x j
    · exact Bool.false_and _
    · rw [hx, Bool.true_and] at h1
      rw [Bool.true_and, ← Bool.not_eq_true]
      intro z
      have := q_og_bt.mpr (Or.inr ⟨i, hi, hp, z⟩ : bt 0 j = true ∨ ∃ i, i < n ∧ P i = true ∧ bt (F i) j = true)
      rw [h1] at this
      cases this
  · rw [b_and]
    cases hx : bt x j
    · exact Bool.false_and _
    · rw [Bool.true_and, ← Bool.not_eq_true]
      intro z
      rcases q_og_bt.mp z with w | ⟨i, hi, hp, w⟩
      · rw [b_0] at w
        cases w
      · have := q_eq0.mp (q i hi hp) j hj
        rw [b_and, hx, w] at this
        cases this
section ZS
variable {n : Nat}
theorem q_open {h : zHp} (h8 : n ≤ 8) (h1 : h 3 0 = nI n) {v : Nat} (hp : ∀ u, u < n → zprd (h 4 u) ∧ h 8 u = zpat (h 4 u)) (ho : ∀ u, u < n → bt (h 9 v) u = true → zoff (h 4 u) (h 40 u)) (hv : v < n) {j : Nat} (hj : j < zcn (h 4 v)) : bt (o_Planner_openOffsets h 3 v) j = true ↔ ∀ u, u < n → bt (h 9 v) u = true → (o_Model_ticksOf (nI j) (h 4 v) &&& o_Model_ticksOf (h 40 u) (h 4 u)) = 0 := by
  have hj8 := (zprd_pos (hp v hv).1).2.1
  have et : zrep (fun (i : Nat) (s : Int32) => if o_Slots_has (h (3 + 6) v) (nI i) = true then (s ||| (o_Mesh_ticksAt h 3 i (h 40 i))) else s) 0 n = q_og (fun i => bt (h 9 v) i) (fun i => o_Model_ticksOf (h 40 i) (h 4 i)) 0 n := by
    unfold q_og
    refine q_congr n (fun i s hi => ?_)
    rw [show 3 + 6 = 9 from rfl, q_has (by omega)]
    by_cases c : bt (h 9 v) i = true
    · rw [if_pos c, if_pos c, q_ticksAt (hp i hi).1 (hp i hi).2 (ho i hi c)]
    · rw [if_neg c, if_neg c]
  unfold o_Planner_openOffsets
  rw [h1, zcn_nI (by omega), et]
  generalize hT : q_og (fun i => bt (h 9 v) i) (fun i => o_Model_ticksOf (h 40 i) (h 4 i)) 0 n = taken
  have em : o_Mesh_offsetsOutside h 3 v taken = q_mk (fun i => decide ((o_Model_ticksOf (nI i) (h 4 v) &&& taken) = 0)) (zcn (h 4 v)) := by
    unfold o_Mesh_offsetsOutside q_mk
    refine q_congr _ (fun i s hi => ?_)
    rw [show 3 + 5 = 8 from rfl, (hp v hv).2, q_tk (hp v hv).1 hi]
    by_cases c : (o_Model_ticksOf (nI i) (h 4 v) &&& taken) = 0
    · rw [if_pos c, if_pos (decide_eq_true c)]
    · rw [if_neg c, if_neg (by dsimp only; rw [decide_eq_false c]; decide)]
  rw [em, q_mk_bt (by omega) (by omega), decide_eq_true hj, Bool.true_and, decide_eq_true_eq, ← hT]
  exact q_and_og
theorem q_roomF {h : zHp} (h8 : n ≤ 8) (h1 : h 3 0 = nI n) {v : Nat} (c : ¬ o_Planner_leavesRoom h 3 v = true) : ∃ u, v < u ∧ u < n ∧ bt (h 9 v) u = true ∧ o_Planner_openOffsets h 3 u = 0 := by
  have hX := zrex_inv (f := fun (i : Nat) (_ : Unit) => ((if (o_Slots_has (h (3 + 6) v) (nI (v + 1 + i))) = true then (if (o_Planner_openOffsets h 3 (v + 1 + i)) = 0 then .inr false else .inl ()) else .inl ()) : (Unit) ⊕ (Bool))) (a := ()) (fun _ _ => True) (fun _ => ∃ u, v < u ∧ u < n ∧ bt (h 9 v) u = true ∧ o_Planner_openOffsets h 3 u = 0) (n - (v + 1)) trivial (fun i s hi _ => ⟨fun _ _ => trivial, fun r er => by
    rw [show 3 + 6 = 9 from rfl, q_has (by omega)] at er
    by_cases c1 : bt (h 9 v) (v + 1 + i) = true
    · rw [if_pos c1] at er
      by_cases c2 : o_Planner_openOffsets h 3 (v + 1 + i) = 0
      · exact ⟨v + 1 + i, by omega, by omega, c1, c2⟩
      · rw [if_neg c2] at er
        cases er
    · rw [if_neg c1] at er
      cases er⟩)
  unfold o_Planner_leavesRoom at c
  rw [h1, zcn_nI (by omega)] at c
  cases hz : zrex (fun (i : Nat) (_ : Unit) => ((if (o_Slots_has (h (3 + 6) v) (nI (v + 1 + i))) = true then (if (o_Planner_openOffsets h 3 (v + 1 + i)) = 0 then .inr false else .inl ()) else .inl ()) : (Unit) ⊕ (Bool))) () (n - (v + 1)) with
  | inl s =>
    rw [hz] at c
    exact absurd rfl c
  | inr r => exact hX.2 r hz
theorem q_exists {h : zHp} (h8 : n ≤ 8) (h1 : h 3 0 = nI n) {v : Nat} (hv : v < 2 ^ 20) : o_Mesh_exists h 3 (nI v) = true ↔ v < n := by
  unfold o_Mesh_exists
  rw [h1, Bool.and_eq_true, Bool.not_eq_true', Bool.not_eq_true', decide_eq_false_iff_not, decide_eq_false_iff_not, nI_leI (by omega) (by omega)]
  exact ⟨fun q => by omega, fun q => ⟨Int32.not_lt.mpr (nI_pos' (by omega)), by omega⟩⟩
/-- what the search in a net asks of the mesh -/
def q_mesh (h0 : zHp) (n : Nat) (net : Int32) : Prop := h0 3 0 = nI n ∧ (∀ u, u < n → zprd (h0 4 u) ∧ h0 8 u = zpat (h0 4 u)) ∧ (∀ v u, v < n → u < n → bt (h0 9 v) u = true → bt (h0 9 u) v = true ∧ u ≠ v ∧ (bt net v = true → bt net u = true))
theorem q_as {h0 : zHp} {net : Int32} (h8 : n ≤ 8) (W : q_mesh h0 n net) : ∀ (k v : Nat) (h : zHp) (pr : Nat → Nat), k + v = 9 → (∀ c i, c ≠ 40 → h c i = h0 c i) → (∀ u, u < n → bt net u = true → (u < v → h 40 u = nI (pr u)) ∧ (v ≤ u → h 40 u = -9)) → q_val (h0 4) (h0 9) (fun u => bt net u) v pr →
    (∀ c i, (c ≠ 40 ∨ ¬ (v ≤ i ∧ i < n ∧ bt net i = true)) → (o_Planner_as k h 3 net v).2 c i = h c i) ∧
    ((o_Planner_as k h 3 net v).1 = true → ∃ a, (∀ i, i < v → bt net i = true → a i = pr i) ∧ (∀ u, u < n → bt net u = true → (o_Planner_as k h 3 net v).2 40 u = nI (a u)) ∧ q_min (h0 4) (h0 9) (fun u => bt net u) n v a) ∧
    ((o_Planner_as k h 3 net v).1 = false → (∀ u, v ≤ u → u < n → bt net u = true → (o_Planner_as k h 3 net v).2 40 u = -9) ∧ ∀ b, (∀ i, i < v → bt net i = true → b i = pr i) → ¬ q_val (h0 4) (h0 9) (fun u => bt net u) n b) := by
  have done : ∀ (v : Nat) (h : zHp) (pr : Nat → Nat), n ≤ v → (∀ u, u < n → bt net u = true → (u < v → h 40 u = nI (pr u)) ∧ (v ≤ u → h 40 u = -9)) → q_val (h0 4) (h0 9) (fun u => bt net u) v pr → ∃ a, (∀ i, i < v → bt net i = true → a i = pr i) ∧ (∀ u, u < n → bt net u = true → h 40 u = nI (a u)) ∧ q_min (h0 4) (h0 9) (fun u => bt net u) n v a := fun v h pr hv e2 hq =>
    ⟨pr, fun _ _ _ => rfl, fun u hu hb => (e2 u hu hb).1 (by omega), q_val_le hv hq, fun b _ w h1 h2 => absurd h1 (by omega)⟩
  intro k
  induction k with
  | zero => exact fun v h pr hk e1 e2 hq => ⟨fun _ _ _ => rfl, fun _ => done v h pr (by omega) e2 hq, fun q => absurd (show true = false from q) (by decide)⟩
  | succ k ih =>
    intro v h pr hk e1 e2 hq
    obtain ⟨W1, W2, W3⟩ := W
    have x1 : h 3 0 = nI n := (e1 3 0 (by decide)).trans W1
    show (∀ c i, (c ≠ 40 ∨ ¬ (v ≤ i ∧ i < n ∧ bt net i = true)) → (o_Planner_assignsS (o_Planner_as k) h 3 net v).2 c i = h c i) ∧ ((o_Planner_assignsS (o_Planner_as k) h 3 net v).1 = true → ∃ a, (∀ i, i < v → bt net i = true → a i = pr i) ∧ (∀ u, u < n → bt net u = true → (o_Planner_assignsS (o_Planner_as k) h 3 net v).2 40 u = nI (a u)) ∧ q_min (h0 4) (h0 9) (fun u => bt net u) n v a) ∧ ((o_Planner_assignsS (o_Planner_as k) h 3 net v).1 = false → (∀ u, v ≤ u → u < n → bt net u = true → (o_Planner_assignsS (o_Planner_as k) h 3 net v).2 40 u = -9) ∧ ∀ b, (∀ i, i < v → bt net i = true → b i = pr i) → ¬ q_val (h0 4) (h0 9) (fun u => bt net u) n b)
    unfold o_Planner_assignsS
    by_cases cv : v < n
    · rw [if_pos ((q_exists h8 x1 (by omega)).mpr cv), q_has (by omega)]
      by_cases ct : bt net v = true
      · rw [if_pos ct, show 3 + 1 = 4 from rfl, e1 4 v (by decide)]
        have opn : ∀ (s : zHp), (∀ c i, c ≠ 40 → s c i = h0 c i) → ∀ (pr2 : Nat → Nat) (m w : Nat), w < n → bt net w = true → q_val (h0 4) (h0 9) (fun u => bt net u) m pr2 → (∀ u, u < n → bt net u = true → ¬ u = w → (u < m → s 40 u = nI (pr2 u)) ∧ (m ≤ u → s 40 u = -9)) → ∀ j, j < zcn (h0 4 w) → (bt (o_Planner_openOffsets s 3 w) j = true ↔ ∀ u, u < n → u < m → bt net u = true → bt (h0 9 w) u = true → q_fr2 (h0 4) w j u (pr2 u)) := fun s f1 pr2 m w hw tw hq2 f2 j hj => by
          have f4 : ∀ u, s 4 u = h0 4 u := fun u => f1 4 u (by decide)
          have f9 : ∀ u, s 9 u = h0 9 u := fun u => f1 9 u (by decide)
          have f8 : ∀ u, s 8 u = h0 8 u := fun u => f1 8 u (by decide)
          rw [q_open (h := s) h8 ((f1 3 0 (by decide)).trans W1) (fun u hu => by rw [f4, f8]; exact W2 u hu) (fun u hu hb => ?_) hw (by rw [f4]; exact hj)]
          · refine ⟨fun q u hu hm tu hb => ?_, fun q u hu hb => ?_⟩
            · have := q u hu (by rw [f9]; exact hb)
              rw [f4, f4, (f2 u hu tu (W3 w u hw hu hb).2.1).1 hm] at this
              exact this
            · rw [f9] at hb
              have tu := (W3 w u hw hu hb).2.2 tw
              obtain ⟨g1, g2⟩ := f2 u hu tu (W3 w u hw hu hb).2.1
              rw [f4, f4]
              by_cases hm : u < m
              · rw [g1 hm]
                exact q u hu hm tu hb
              · rw [g2 (by omega), q_tkN, q_and_0]
          · rw [f9] at hb
            have tu := (W3 w u hw hu hb).2.2 tw
            obtain ⟨g1, g2⟩ := f2 u hu tu (W3 w u hw hu hb).2.1
            rw [f4]
            by_cases hm : u < m
            · exact Or.inr ⟨pr2 u, (hq2 u hm tu).1, g1 hm⟩
            · exact Or.inl (g2 (by omega))
        have op0 := opn h e1 pr v v cv ct hq (fun u hu tu _ => e2 u hu tu)
        have hX := zrex_inv (f := (fun (o : Nat) (s : zHp) => ((if (o_Slots_has (o_Planner_openOffsets h 3 v) (nI o)) = true then (if (o_Planner_leavesRoom (zup s 40 v (nI o)) 3 v) = true then (if ((o_Planner_as k (zup s 40 v (nI o)) 3 net (v + 1)).1) = true then .inr (true, ((o_Planner_as k (zup s 40 v (nI o)) 3 net (v + 1)).2)) else .inl ((o_Planner_as k (zup s 40 v (nI o)) 3 net (v + 1)).2)) else .inl (zup s 40 v (nI o))) else .inl (zup s 40 v (nI o))) : (zHp) ⊕ (Bool × zHp)))) (a := h) (fun o s => (∀ c i, (c ≠ 40 ∨ ¬ (v ≤ i ∧ i < n ∧ bt net i = true)) → s c i = h c i) ∧ (∀ u, v < u → u < n → bt net u = true → s 40 u = -9) ∧ ∀ b, (∀ i, i < v → bt net i = true → b i = pr i) → b v < o → ¬ q_val (h0 4) (h0 9) (fun u => bt net u) n b) (fun r => r.1 = true ∧ (∀ c i, (c ≠ 40 ∨ ¬ (v ≤ i ∧ i < n ∧ bt net i = true)) → r.2 c i = h c i) ∧ ∃ a, (∀ i, i < v → bt net i = true → a i = pr i) ∧ (∀ u, u < n → bt net u = true → r.2 40 u = nI (a u)) ∧ q_min (h0 4) (h0 9) (fun u => bt net u) n v a) (zcn (h0 4 v)) ⟨fun _ _ _ => rfl, fun u h1 h2 tu => (e2 u h2 tu).2 (by omega), fun b _ q => absurd q (Nat.not_lt_zero _)⟩ (fun o s ho hI => by
          obtain ⟨I1, I2, I3⟩ := hI
          have ho8 := (zprd_pos (W2 v cv).1).2.1
          have hne : ∀ c i, (c ≠ 40 ∨ ¬ (v ≤ i ∧ i < n ∧ bt net i = true)) → (c ≠ 40 ∨ i ≠ v) := fun c i q => by
            rcases q with q | q
            · exact Or.inl q
            · exact Or.inr (fun e => q ⟨by omega, by omega, e ▸ ct⟩)
          have hst : ∀ c i, (c ≠ 40 ∨ ¬ (v ≤ i ∧ i < n ∧ bt net i = true)) → (c ≠ 40 ∨ ¬ (v + 1 ≤ i ∧ i < n ∧ bt net i = true)) := fun c i q => by
            rcases q with q | q
            · exact Or.inl q
            · exact Or.inr (fun e => q ⟨by omega, e.2.1, e.2.2⟩)
          have w1 : ∀ c i, c ≠ 40 → zup s 40 v (nI o) c i = h0 c i := fun c i q => by rw [zup_fr (Or.inl q), I1 c i (Or.inl q), e1 c i q]
          have z1 : ∀ c i, (c ≠ 40 ∨ ¬ (v ≤ i ∧ i < n ∧ bt net i = true)) → zup s 40 v (nI o) c i = h c i := fun c i q => (zup_fr (hne c i q)).trans (I1 c i q)
          have z2 : ∀ u, v < u → u < n → bt net u = true → zup s 40 v (nI o) 40 u = -9 := fun u h1 h2 tu => (zup_fr (by omega)).trans (I2 u h1 h2 tu)
          have zv : zup s 40 v (nI o) 40 v = nI o := zup_at
          generalize zup s 40 v (nI o) = h3 at w1 z1 z2 zv ⊢
          rw [q_has (by omega)]
          by_cases cO : bt (o_Planner_openOffsets h 3 v) o = true
          · rw [if_pos cO]
            have hq3 : q_val (h0 4) (h0 9) (fun u => bt net u) (v + 1) (fun i => if i = v then o else pr i) := fun w hw tw => by
              by_cases ew : w = v
              · subst ew
                dsimp only
                rw [if_pos rfl]
                refine ⟨ho, fun u hu tu hb => ?_⟩
                rw [if_neg (by omega)]
                exact (op0 o ho).mp cO u (by omega) hu tu hb
              · obtain ⟨q1, q2⟩ := hq w (by omega) tw
                dsimp only
                rw [if_neg ew]
                refine ⟨q1, fun u hu tu hb => ?_⟩
                rw [if_neg (by omega)]
                exact q2 u hu tu hb
            have e3 : ∀ u, u < n → bt net u = true → (u < v + 1 → h3 40 u = nI (if u = v then o else pr u)) ∧ (v + 1 ≤ u → h3 40 u = -9) := fun u hu tu => by
              refine ⟨fun q => ?_, fun q => z2 u (by omega) hu tu⟩
              by_cases eu : u = v
              · rw [if_pos eu, eu, zv]
              · rw [if_neg eu, z1 40 u (Or.inr (fun q2 => by omega))]
                exact (e2 u hu tu).1 (by omega)
            by_cases cR : o_Planner_leavesRoom h3 3 v = true
            · rw [if_pos cR]
              obtain ⟨J1, J2, J3⟩ := ih (v + 1) h3 (fun i => if i = v then o else pr i) (by omega) w1 e3 hq3
              by_cases cS : (o_Planner_as k h3 3 net (v + 1)).1 = true
              · rw [if_pos cS]
                refine ⟨fun s2 es => (by cases es), fun r er => ?_⟩
                cases er
                obtain ⟨a, a1, a2, a3, a4⟩ := J2 cS
                have as : a v = o := by
                  have := a1 v (by omega) ct
                  rw [if_pos rfl] at this
                  exact this
                have al : ∀ i, i < v → bt net i = true → a i = pr i := fun i hi ti => by
                  have := a1 i (by omega) ti
                  rw [if_neg (by omega)] at this
                  exact this
                refine ⟨rfl, fun c i q => (J1 c i (hst c i q)).trans (z1 c i q), a, al, a2, a3, fun b hb w hw1 hw2 tw hag => ?_⟩
                by_cases ew : w = v
                · subst ew
                  rw [as]
                  exact Nat.not_lt.mp (fun q => I3 b (fun i hi ti => (hag i hi ti).trans (al i hi ti)) q hb)
                · exact a4 b hb w (by omega) hw2 tw hag
              · rw [if_neg cS]
                refine ⟨fun s2 es => ?_, fun r er => (by cases er)⟩
                cases es
                obtain ⟨j1, j2⟩ := J3 (by simpa using cS)
                refine ⟨fun c i q => (J1 c i (hst c i q)).trans (z1 c i q), fun u h1 h2 tu => j1 u (by omega) h2 tu, fun b hb1 hb2 => ?_⟩
                by_cases eb : b v = o
                · refine j2 b (fun i hi ti => ?_)
                  by_cases ei : i = v
                  · rw [if_pos ei, ei, eb]
                  · rw [if_neg ei]
                    exact hb1 i (by omega) ti
                · exact I3 b hb1 (by omega)
            · rw [if_neg cR]
              refine ⟨fun s2 es => ?_, fun r er => (by cases er)⟩
              cases es
              refine ⟨z1, z2, fun b hb1 hb2 hb => ?_⟩
              by_cases eb : b v = o
              · obtain ⟨u, u1, u2, u3, u4⟩ := q_roomF h8 ((w1 3 0 (by decide)).trans W1) cR
                rw [w1 9 v (by decide)] at u3
                have tu := (W3 v u cv u2 u3).2.2 ct
                have hbu := hb u u2 tu
                have := (opn h3 w1 (fun i => if i = v then o else pr i) (v + 1) u u2 tu hq3 (fun w hw tw _ => e3 w hw tw) (b u) hbu.1).mpr (fun w hw1 hw2 tw hbt => by
                  have hf := hbu.2 w (by omega) tw hbt
                  have ebw : b w = if w = v then o else pr w := by
                    by_cases ew : w = v
                    · rw [if_pos ew, ew, eb]
                    · rw [if_neg ew]
                      exact hb1 w (by omega) tw
                  rw [ebw] at hf
                  exact hf)
                rw [u4, b_0] at this
                cases this
              · exact I3 b hb1 (by omega) hb
          · rw [if_neg cO]
            refine ⟨fun s2 es => ?_, fun r er => (by cases er)⟩
            cases es
            refine ⟨z1, z2, fun b hb1 hb2 hb => ?_⟩
            by_cases eb : b v = o
            · refine cO ((op0 o ho).mpr (fun u hu huv tu hbt => ?_))
              have hf := (hb v cv ct).2 u huv tu hbt
              rw [eb, hb1 u huv tu] at hf
              exact hf
            · exact I3 b hb1 (by omega) hb)
        generalize hF : (fun (o : Nat) (s : zHp) => ((if (o_Slots_has (o_Planner_openOffsets h 3 v) (nI o)) = true then (if (o_Planner_leavesRoom (zup s 40 v (nI o)) 3 v) = true then (if ((o_Planner_as k (zup s 40 v (nI o)) 3 net (v + 1)).1) = true then .inr (true, ((o_Planner_as k (zup s 40 v (nI o)) 3 net (v + 1)).2)) else .inl ((o_Planner_as k (zup s 40 v (nI o)) 3 net (v + 1)).2)) else .inl (zup s 40 v (nI o))) else .inl (zup s 40 v (nI o))) : (zHp) ⊕ (Bool × zHp))) = F at hX ⊢
        cases hz : zrex F h (zcn (h0 4 v)) with
        | inl s2 =>
          obtain ⟨I1, I2, I3⟩ := hX.1 s2 hz
          refine ⟨fun c i q => ?_, fun q => absurd (show false = true from q) (by decide), fun _ => ⟨fun u h1 h2 tu => ?_, fun b hb1 hb => I3 b hb1 (hb v cv ct).1 hb⟩⟩
          · refine Eq.trans (zup_fr ?_) (I1 c i q)
            rcases q with q | q
            · exact Or.inl q
            · exact Or.inr (fun e => q ⟨by omega, by omega, e ▸ ct⟩)
          · show zup s2 40 v (-9) 40 u = -9
            by_cases eu : u = v
            · rw [eu]
              exact zup_at
            · rw [zup_fr (by omega)]
              exact I2 u (by omega) h2 tu
        | inr r =>
          obtain ⟨j0, j1, j2⟩ := hX.2 r hz
          refine ⟨j1, fun _ => j2, fun q => ?_⟩
          have q2 : r.1 = false := q
          rw [j0] at q2
          cases q2
      · rw [if_neg ct]
        have up : ∀ i, bt net i = true → i < v + 1 → i < v := fun i ti hi => by
          by_cases e : i = v
          · exact absurd (e ▸ ti) ct
          · omega
        have dn : ∀ i, bt net i = true → v ≤ i → v + 1 ≤ i := fun i ti hi => by
          by_cases e : i = v
          · exact absurd (e ▸ ti) ct
          · omega
        obtain ⟨J1, J2, J3⟩ := ih (v + 1) h pr (by omega) e1 (fun u hu tu => ⟨fun q => (e2 u hu tu).1 (up u tu q), fun q => (e2 u hu tu).2 (by omega)⟩) (fun w hw tw => hq w (up w tw hw) tw)
        refine ⟨fun c i q => J1 c i ?_, fun q => ?_, fun q => ?_⟩
        · rcases q with q | q
          · exact Or.inl q
          · exact Or.inr (fun e => q ⟨by omega, e.2.1, e.2.2⟩)
        · obtain ⟨a, a1, a2, a3, a4⟩ := J2 q
          exact ⟨a, fun i hi ti => a1 i (by omega) ti, a2, a3, fun b hb w hw1 hw2 tw hag => a4 b hb w (dn w tw hw1) hw2 tw hag⟩
        · obtain ⟨j1, j2⟩ := J3 q
          exact ⟨fun u h1 h2 tu => j1 u (dn u tu h1) h2 tu, fun b hb1 => j2 b (fun i hi ti => hb1 i (up i ti hi) ti)⟩
    · rw [if_neg (fun q => cv ((q_exists h8 x1 (by omega)).mp q))]
      exact ⟨fun _ _ _ => rfl, fun _ => done v h pr (by omega) e2 hq, fun q => absurd (show true = false from q) (by decide)⟩
end ZS
