/-! The class' mesh: what its rows say. -/
def q_nr (L : Nat → Int32) (n v : Nat) : Int32 := (L v ||| q_og (fun e => bt (L v) e) L 0 n) &&& (zshl 1 (nI v) ^^^ (-1))
def q_nb (L : Nat → Int32) (on : Int32) (v : Nat) : Int32 := if bt on v = true then L v &&& on else 0
def q_ab (x : Int32) (n v : Nat) (r : Int32) : Int32 := q_mk (fun e => bt x e && o_Model_isAbove (nI e) (nI v) r) n
theorem q_nr_congr {L M : Nat → Int32} {n v : Nat} (hv : v < n) (h : ∀ e, e < n → L e = M e) : q_nr L n v = q_nr M n v := by
  unfold q_nr
  rw [h v hv, q_og_congr (Q := fun e => bt (M v) e) (G := M) (fun i hi => ⟨rfl, fun _ => h i hi⟩)]
theorem q_nr_bt {L : Nat → Int32} {n v j : Nat} (hv : v < 32) (hj : j < 32) : bt (q_nr L n v) j = true ↔ (¬ j = v) ∧ (bt (L v) j = true ∨ ∃ e, e < n ∧ bt (L v) e = true ∧ bt (L e) j = true) := by
  unfold q_nr
  rw [b_and, b_or, q_not1 hv hj, Bool.and_eq_true, Bool.or_eq_true, q_og_bt, Bool.not_eq_true', decide_eq_false_iff_not, b_0]
  refine ⟨fun h => ⟨h.2, ?_⟩, fun h => ⟨?_, h.1⟩⟩
  · rcases h.1 with q | q | q
    · exact Or.inl q
    · cases q
    · exact Or.inr q
  · rcases h.2 with q | q
    · exact Or.inl q
    · exact Or.inr (Or.inr q)
theorem q_nbOf {h : zHp} {b n : Nat} (hn : h b 0 = nI n) (h8 : n ≤ 8) (x : Int32) : o_Mesh_neighboursOf h b x = q_og (fun e => bt x e) (h (b + 2)) 0 n := by
  unfold o_Mesh_neighboursOf
  rw [hn, zcn_nI (by omega)]
  exact q_congr n (fun i s hi => by rw [q_has (by omega)])
theorem q_abv {h : zHp} {b n v : Nat} {r : Int32} (hn : h b 0 = nI n) (h8 : n ≤ 8) (hv : v < n) (hp : ∀ e, e < n → h (b + 7) e = o_Model_drawOf (nI e) r) : o_Mesh_stationsAbove h b v = q_mk (fun e => o_Model_isAbove (nI e) (nI v) r) n := by
  unfold o_Mesh_stationsAbove
  rw [hn, zcn_nI (by omega)]
  refine q_congr n (fun e s he => ?_)
  rw [hp v hv, hp e he]
  unfold o_Model_isAbove
  by_cases c1 : o_Model_drawOf (nI v) r < o_Model_drawOf (nI e) r
  · simp [c1]
  · by_cases c2 : o_Model_drawOf (nI e) r = o_Model_drawOf (nI v) r
    · by_cases c3 : nI v ≤ nI e
      · simp [c2, c3]
      · simp [c2, c3]
    · simp [c1, c2]
/-- two rows written in one loop -/
theorem q_row2 {h : zHp} {c d : Nat} {F G : Nat → Int32} (hcd : c ≠ d) : ∀ (n : Nat) (c2 k2 : Nat), (zrep (fun i (s : zHp) => zup (zup s c i (F i)) d i (G i)) h n) c2 k2 = if c2 = d ∧ k2 < n then G k2 else if c2 = c ∧ k2 < n then F k2 else h c2 k2
  | 0, c2, k2 => by
    rw [if_neg (by omega), if_neg (by omega)]
    rfl
  | n + 1, c2, k2 => by
    have ih := q_row2 (h := h) (F := F) (G := G) hcd n c2 k2
    show zup (zup (zrep (fun i (s : zHp) => zup (zup s c i (F i)) d i (G i)) h n) c n (F n)) d n (G n) c2 k2 = _
    by_cases q : c2 = d ∧ k2 = n
    · obtain ⟨rfl, rfl⟩ := q
      rw [zup_at, if_pos ⟨rfl, by omega⟩]
    · rw [zup_fr (by omega)]
      by_cases q1 : c2 = c ∧ k2 = n
      · obtain ⟨rfl, rfl⟩ := q1
        rw [zup_at, if_neg (by omega), if_pos ⟨rfl, by omega⟩]
      · rw [zup_fr (by omega), ih]
        by_cases q2 : c2 = d ∧ k2 < n
        · rw [if_pos q2, if_pos ⟨q2.1, by omega⟩]
        · rw [if_neg q2, if_neg (c := c2 = d ∧ k2 < n + 1) (by omega)]
          by_cases q3 : c2 = c ∧ k2 < n
          · rw [if_pos q3, if_pos ⟨q3.1, by omega⟩]
          · rw [if_neg q3, if_neg (by omega)]
/-- near, priority, who is above: as links and round number say -/
def y_cN (h : zHp) (b n : Nat) : Prop := ∀ v, v < n → h (b + 6) v = q_nr (h (b + 2)) n v ∧ h (b + 7) v = o_Model_drawOf (nI v) (h b 1) ∧ h (b + 8) v = q_ab (h (b + 6) v) n v (h b 1)
/-- ticks, as offsets say -/
def y_cT (h : zHp) (b n : Nat) : Prop := ∀ v, v < n → h (b + 9) v = o_Model_ticksOf (h (b + 3) v) (h (b + 1) v) ∧ h (b + 10) v = (h (b + 9) v ||| o_Model_ticksOf (h (b + 4) v) (h (b + 1) v))
theorem q_rank {h : zHp} {b n m : Nat} (hn : h b 0 = nI n) (h8 : n ≤ 8) (hr : h b 1 = nI m) (hm : m < 2 ^ 20) : ∀ v, v < n → o_Mesh_rank h b (b + 7) v = o_Model_drawOf (nI v) (h b 1) ∧ o_Mesh_rank h b (b + 8) v = q_ab (h (b + 6) v) n v (h b 1) := by
  unfold o_Mesh_rank
  rw [hn, zcn_nI (by omega)]
  have e1 := q_row (h := h) (c := b + 7) (F := fun i _ => o_Mesh_priority h b (nI i)) (G := fun i => o_Model_drawOf (nI i) (h b 1)) n (fun i s hi _ => by rw [hr]; exact q_prio (by omega) hm hr)
  generalize zrep (fun i (s : zHp) => zup s (b + 7) i (o_Mesh_priority h b (nI i))) h n = h1 at e1 ⊢
  have e2 := q_row (h := h1) (c := b + 8) (F := fun i s => h (b + 6) i &&& o_Mesh_stationsAbove s b i) (G := fun i => q_ab (h (b + 6) i) n i (h b 1)) n (fun i s hi hs => by
    show h (b + 6) i &&& o_Mesh_stationsAbove s b i = _
    rw [q_abv (n := n) (r := h b 1) (by rw [hs b 0 (by omega), e1, if_neg (by omega)]; exact hn) h8 hi (fun e he => by rw [hs (b + 7) e (by omega), e1, if_pos ⟨rfl, he⟩])]
    unfold q_ab
    refine b_ext (fun j hj => ?_)
    rw [b_and, q_mk_bt hj (by omega), q_mk_bt hj (by omega), Bool.and_left_comm])
  intro v hv
  refine ⟨?_, ?_⟩
  · rw [e2, if_neg (by omega), e1, if_pos ⟨rfl, hv⟩]
  · rw [e2, if_pos ⟨rfl, hv⟩]
theorem q_relate {h : zHp} {b n m : Nat} (hn : h b 0 = nI n) (h8 : n ≤ 8) (hr : h b 1 = nI m) (hm : m < 2 ^ 20) : y_cN (o_Mesh_relate h b) b n := by
  intro v hv
  have f2 : o_Mesh_relate h b (b + 2) = h (b + 2) := funext fun k => fr_Mesh_relate _ _ (by omega) (by omega) (by omega)
  have f1 : o_Mesh_relate h b b 1 = h b 1 := fr_Mesh_relate _ _ (by omega) (by omega) (by omega)
  rw [f2, f1]
  unfold o_Mesh_relate
  rw [hn, zcn_nI (by omega)]
  have e1 := q_row (h := h) (c := b + 6) (F := fun i _ => ((h (b + 2) i) ||| (o_Mesh_neighboursOf h b (h (b + 2) i))) &&& ((zshl 1 (nI i)) ^^^ (-1))) (G := fun i => q_nr (h (b + 2)) n i) n (fun i s hi _ => by
    show ((h (b + 2) i) ||| (o_Mesh_neighboursOf h b (h (b + 2) i))) &&& ((zshl 1 (nI i)) ^^^ (-1)) = _
    rw [q_nbOf hn h8]
    rfl)
  generalize zrep (fun i (s : zHp) => zup s (b + 6) i (((h (b + 2) i) ||| (o_Mesh_neighboursOf h b (h (b + 2) i))) &&& ((zshl 1 (nI i)) ^^^ (-1)))) h n = h1 at e1 ⊢
  have k0 : h1 b 0 = nI n := by rw [e1, if_neg (by omega)]; exact hn
  have k1 : h1 b 1 = h b 1 := by rw [e1, if_neg (by omega)]
  have e2 := q_rank k0 h8 (k1.trans hr) hm v hv
  rw [k1] at e2
  have e3 : o_Mesh_rank h1 b (b + 6) v = q_nr (h (b + 2)) n v := by
    rw [fr_Mesh_rank _ _ (by omega) (by omega), e1, if_pos ⟨rfl, hv⟩]
  have e4 : h1 (b + 6) v = q_nr (h (b + 2)) n v := by rw [e1, if_pos ⟨rfl, hv⟩]
  rw [e4] at e2
  rw [e3]
  exact ⟨rfl, e2.1, e2.2⟩
theorem q_mark {h : zHp} {b n : Nat} (hn : h b 0 = nI n) (h8 : n ≤ 8) (hp : ∀ v, v < n → zprd (h (b + 1) v) ∧ h (b + 5) v = zpat (h (b + 1) v) ∧ zoff (h (b + 1) v) (h (b + 3) v) ∧ zoff (h (b + 1) v) (h (b + 4) v)) : y_cT (o_Mesh_markTicks h b) b n := by
  intro v hv
  obtain ⟨h1, h2, h3, h4⟩ := hp v hv
  rw [fr_Mesh_markTicks (b + 1) v (by omega) (by omega), fr_Mesh_markTicks (b + 3) v (by omega) (by omega), fr_Mesh_markTicks (b + 4) v (by omega) (by omega)]
  unfold o_Mesh_markTicks
  rw [hn, zcn_nI (by omega)]
  have e := q_row2 (h := h) (c := b + 9) (d := b + 10) (F := fun i => o_Mesh_ticksAt h b i (h (b + 3) i)) (G := fun i => (o_Mesh_ticksAt h b i (h (b + 3) i)) ||| (o_Mesh_ticksAt h b i (h (b + 4) i))) (by omega) n
  rw [e, e, if_neg (by omega), if_pos ⟨rfl, hv⟩, if_pos ⟨rfl, hv⟩, q_ticksAt h1 h2 h3, q_ticksAt h1 h2 h4]
  exact ⟨rfl, rfl⟩
theorem y_cN_fr {h h2 : zHp} {b n : Nat} (e1 : h2 b 1 = h b 1) (e2 : h2 (b + 2) = h (b + 2)) (e6 : ∀ v, h2 (b + 6) v = h (b + 6) v) (e7 : ∀ v, h2 (b + 7) v = h (b + 7) v) (e8 : ∀ v, h2 (b + 8) v = h (b + 8) v) (H : y_cN h b n) : y_cN h2 b n := by
  intro v hv
  rw [e1, e2, e6, e7, e8]
  exact H v hv
theorem y_cT_fr {h h2 : zHp} {b n : Nat} (e1 : ∀ v, h2 (b + 1) v = h (b + 1) v) (e3 : ∀ v, h2 (b + 3) v = h (b + 3) v) (e4 : ∀ v, h2 (b + 4) v = h (b + 4) v) (e9 : ∀ v, h2 (b + 9) v = h (b + 9) v) (e10 : ∀ v, h2 (b + 10) v = h (b + 10) v) (H : y_cT h b n) : y_cT h2 b n := by
  intro v hv
  rw [e1, e3, e4, e9, e10]
  exact H v hv
/-- a row filled -/
theorem q_fill {h : zHp} {a : Nat} {x : Int32} (c k : Nat) : o_Arr_fill h a x c k = if c = a ∧ k < 8 then x else h c k := by
  unfold o_Arr_fill
  exact q_row (h := h) (c := a) (F := fun _ _ => x) (G := fun _ => x) 8 (fun _ _ _ _ => rfl) c k
theorem q_drop {h : zHp} {b n : Nat} (hn : h b 0 = nI n) (h8 : n ≤ 8) (hp : ∀ v, v < n → zprd (h (b + 1) v) ∧ h (b + 5) v = zpat (h (b + 1) v) ∧ zoff (h (b + 1) v) (h (b + 3) v)) : y_cT (o_Mesh_dropOlds h b) b n ∧ ∀ v, v < n → o_Mesh_dropOlds h b (b + 4) v = -9 := by
  unfold o_Mesh_dropOlds
  refine ⟨q_mark ?_ h8 (fun v hv => ?_), fun v hv => ?_⟩
  · rw [q_fill, if_neg (by omega)]
    exact hn
  · obtain ⟨h1, h2, h3⟩ := hp v hv
    rw [q_fill, if_neg (by omega), q_fill, if_neg (by omega), q_fill, if_neg (by omega), q_fill, if_pos ⟨rfl, by omega⟩]
    exact ⟨h1, h2, h3, Or.inl rfl⟩
  · rw [fr_Mesh_markTicks _ _ (by omega) (by omega), q_fill, if_pos ⟨rfl, by omega⟩]
