/-! What changes a mesh: links, offsets, shifts, a start with some alone. -/
theorem q_rowS {h : zHp} {c m : Nat} {F : Nat → zHp → Int32} {G : Nat → Int32} : ∀ (n : Nat), (∀ i s, i < n → (∀ c2 k2, (c2 ≠ c ∨ k2 < m ∨ m + i ≤ k2) → s c2 k2 = h c2 k2) → F i s = G i) → ∀ c2 k2, (zrep (fun i (s : zHp) => zup s c (m + i) (F i s)) h n) c2 k2 = if c2 = c ∧ m ≤ k2 ∧ k2 < m + n then G (k2 - m) else h c2 k2
  | 0, _, c2, k2 => by
    rw [if_neg (by omega)]
    rfl
  | n + 1, hF, c2, k2 => by
    have ih := q_rowS (h := h) (c := c) (m := m) (F := F) (G := G) n (fun i s hi => hF i s (by omega))
    show zup (zrep (fun i (s : zHp) => zup s c (m + i) (F i s)) h n) c (m + n) (F n (zrep (fun i (s : zHp) => zup s c (m + i) (F i s)) h n)) c2 k2 = _
    have e : F n (zrep (fun i (s : zHp) => zup s c (m + i) (F i s)) h n) = G n := hF n _ (by omega) (fun c3 k3 q => by rw [ih, if_neg (by omega)])
    rw [e]
    by_cases q : c2 = c ∧ k2 = m + n
    · obtain ⟨rfl, rfl⟩ := q
      rw [zup_at, if_pos ⟨rfl, by omega, by omega⟩, show m + n - m = n by omega]
    · rw [zup_fr (by omega), ih]
      by_cases q2 : c2 = c ∧ m ≤ k2 ∧ k2 < m + n
      · rw [if_pos q2, if_pos ⟨q2.1, q2.2.1, by omega⟩]
      · rw [if_neg q2, if_neg (by omega)]
theorem q_dropOldM {k : zHp} {r : Nat} : ∀ c j, o_Model_dropOld k r c j = if c = r ∧ 8 ≤ j ∧ j < 16 then -9 else k c j := by
  unfold o_Model_dropOld
  exact q_rowS (h := k) (c := r) (m := 8) (F := fun _ _ => -9) (G := fun _ => -9) 8 (fun _ _ _ _ => rfl)
def q_sh (k : zHp) (r : Nat) (net d : Int32) (i : Nat) : Int32 := if bt net i = true then (if k r i = -9 then k r i else zrem (k r i + d) (k 53 i)) else k r i
theorem q_shiftOf {k : zHp} {r n : Nat} {net d : Int32} (hr : r = 54 ∨ r = 55 ∨ r = 56) (hn : k 51 1 = nI n) (h8 : n ≤ 8) : ∀ c j, o_Model_shiftOf k r net d c j = if c = r ∧ j < n then q_sh k r net d j else k c j := by
  unfold o_Model_shiftOf
  rw [hn, zcn_nI (by omega)]
  refine q_row (h := k) (c := r) (F := fun i s => (if (o_Model_has net (nI i)) = true then (if (s r i) = (-9) then (s r i) else (zrem ((s r i) + d) (k 53 i))) else (s r i))) (G := fun i => q_sh k r net d i) n (fun i s hi hs => ?_)
  show (if (o_Model_has net (nI i)) = true then (if (s r i) = (-9) then (s r i) else (zrem ((s r i) + d) (k 53 i))) else (s r i)) = _
  rw [hs r i (by omega), q_hasM (by omega)]
  rfl
theorem q_turnOf {k : zHp} {r i j : Nat} (hij : i ≠ j) : ∀ c q, o_Model_turnOf k r i j c q = if c = r ∧ q = 16 + j then k r (16 + j) ^^^ zshl 1 (nI i) else if c = r ∧ q = 16 + i then k r (16 + i) ^^^ zshl 1 (nI j) else k c q := by
  intro c q
  unfold o_Model_turnOf
  rw [zup_fr (c2 := r) (k2 := 16 + j) (by omega)]
  by_cases q1 : c = r ∧ q = 16 + j
  · obtain ⟨rfl, rfl⟩ := q1
    rw [zup_at, if_pos ⟨rfl, rfl⟩]
  · rw [zup_fr (by omega), if_neg q1]
    by_cases q2 : c = r ∧ q = 16 + i
    · obtain ⟨rfl, rfl⟩ := q2
      rw [zup_at, if_pos ⟨rfl, rfl⟩]
    · rw [zup_fr (by omega), if_neg q2]
theorem q_and_all {x : Int32} {n : Nat} (h8 : n ≤ 8) (hx : ∀ i, n ≤ i → i < 32 → bt x i = false) : x &&& q_all n = x := by
  refine b_ext (fun i hi => ?_)
  rw [b_and, q_all_bt h8 hi]
  rcases Nat.lt_or_ge i n with q | q
  · rw [decide_eq_true q, Bool.and_true]
  · rw [hx i q hi, Bool.false_and]
theorem y_on_all {n : Nat} (h8 : n ≤ 8) : y_on n (q_all n) := fun i h1 h2 => by
  rw [q_all_bt h8 h2]
  exact decide_eq_false (by omega)
section ZQ
variable {h : zHp} {b : Nat} {k : zHp} {r n : Nat} {on : Int32} {K : Nat}
/-- with all on, the rows are the same -/
theorem m_rowAll (R : zmr h b k r n (q_all n) K) {v : Nat} (hv : v < n) : h (b + 2) v = k r (16 + v) ∧ h (b + 3) v = k r v ∧ h (b + 4) v = k r (8 + v) := by
  have h8 := m_8 R
  obtain ⟨e1, e2, e3⟩ := (R.2.2.1 v hv).1 (m_on_all h8 hv)
  rw [q_and_all h8 (R.2.2.2.2.1 v hv).1] at e1
  exact ⟨e1, e2, e3⟩
theorem y_rowAll (h8 : n ≤ 8) (hl : y_lnk k r n) (H : ∀ v, v < n → h (b + 2) v = k r (16 + v) ∧ h (b + 3) v = k r v ∧ h (b + 4) v = k r (8 + v)) : y_row h b k r n (q_all n) := by
  intro v hv
  refine ⟨fun _ => ?_, fun c => ?_⟩
  · rw [q_and_all h8 (hl v hv).1]
    exact H v hv
  · rw [m_on_all h8 hv] at c
    cases c
theorem m_hp (R : zmr h b k r n on K) : ∀ v, v < n → zprd (h (b + 1) v) ∧ h (b + 5) v = zpat (h (b + 1) v) := fun v hv => by
  obtain ⟨e1, e2, e3⟩ := R.1.2.2.2 v hv
  rw [e1]
  exact ⟨e2, e3⟩
/-- old offsets removed -/
theorem m_drop (R : zmr h b k r n (q_all n) K) (hr : r = 54 ∨ r = 55 ∨ r = 56) : zmr (o_Mesh_dropOlds h b) b (o_Model_dropOld k r) r n (q_all n) K := by
  have h8 := m_8 R
  obtain ⟨d1, d2⟩ := q_drop (h := h) (b := b) R.1.1 h8 (fun v hv => ⟨(m_hp R v hv).1, (m_hp R v hv).2, by
    rw [(R.1.2.2.2 v hv).1, (m_rowAll R hv).2.1]
    exact (R.2.2.2.1 v hv).1⟩)
  have f : ∀ c j, c ≠ b + 4 → c ≠ b + 9 → c ≠ b + 10 → o_Mesh_dropOlds h b c j = h c j := fun c j q1 q2 q3 => fr_Mesh_dropOlds _ _ q1 q2 q3
  have g := q_dropOldM (k := k) (r := r)
  have hl : y_lnk (o_Model_dropOld k r) r n := fun v hv => by
    obtain ⟨l1, l2, l3⟩ := R.2.2.2.2.1 v hv
    rw [g, if_neg (by omega)]
    exact ⟨l1, l2, fun u hu => by rw [g, if_neg (by omega)]; exact l3 u hu⟩
  refine ⟨⟨?_, ?_, h8, fun v hv => ?_⟩, ⟨?_, ?_⟩, y_rowAll h8 hl (fun v hv => ?_), fun v hv => ?_, hl, y_on_all h8, ?_, d1⟩
  · rw [f _ _ (by omega) (by omega) (by omega)]
    exact R.1.1
  · rw [g, if_neg (by omega)]
    exact R.1.2.1
  · rw [f _ _ (by omega) (by omega) (by omega), f _ _ (by omega) (by omega) (by omega), g, if_neg (by omega)]
    exact R.1.2.2.2 v hv
  · rw [f _ _ (by omega) (by omega) (by omega), g, if_neg (by omega)]
    exact R.2.1.1
  · rw [g, if_neg (by omega)]
    exact R.2.1.2
  · rw [f _ _ (by omega) (by omega) (by omega), f _ _ (by omega) (by omega) (by omega), d2 v hv, g, if_neg (by omega), g, if_neg (by omega), g, if_pos ⟨rfl, by omega, by omega⟩]
    exact ⟨(m_rowAll R hv).1, (m_rowAll R hv).2.1, rfl⟩
  · rw [g, if_neg (by omega), g, if_neg (by omega), g, if_pos ⟨rfl, by omega, by omega⟩]
    exact ⟨(R.2.2.2.1 v hv).1, Or.inl rfl⟩
  · exact y_cN_fr (f _ _ (by omega) (by omega) (by omega)) (funext fun j => f _ _ (by omega) (by omega) (by omega)) (fun v => f _ _ (by omega) (by omega) (by omega)) (fun v => f _ _ (by omega) (by omega) (by omega)) (fun v => f _ _ (by omega) (by omega) (by omega)) R.2.2.2.2.2.2.1
/-- other offsets, then the old ones removed -/
theorem m_offs (R : zmr h b k r n (q_all n) K) (hr : r = 54 ∨ r = 55 ∨ r = 56) {h1 k1 : zHp} (eh : ∀ c j, c ≠ b + 3 → h1 c j = h c j) (ek : ∀ c j, ¬ (c = r ∧ j < 8) → k1 c j = k c j) (eo : ∀ v, v < n → h1 (b + 3) v = k1 r v ∧ zoff (k 53 v) (k1 r v)) : zmr (o_Mesh_dropOlds h1 b) b (o_Model_dropOld k1 r) r n (q_all n) K := by
  have h8 := m_8 R
  obtain ⟨d1, d2⟩ := q_drop (h := h1) (b := b) ((eh _ _ (by omega)).trans R.1.1) h8 (fun v hv => by
    rw [eh _ _ (by omega), eh _ _ (by omega)]
    refine ⟨(m_hp R v hv).1, (m_hp R v hv).2, ?_⟩
    rw [(eo v hv).1, (R.1.2.2.2 v hv).1]
    exact (eo v hv).2)
  have f : ∀ c j, c ≠ b + 4 → c ≠ b + 9 → c ≠ b + 10 → o_Mesh_dropOlds h1 b c j = h1 c j := fun c j q1 q2 q3 => fr_Mesh_dropOlds _ _ q1 q2 q3
  have f2 : ∀ c j, c ≠ b + 3 → c ≠ b + 4 → c ≠ b + 9 → c ≠ b + 10 → o_Mesh_dropOlds h1 b c j = h c j := fun c j q0 q1 q2 q3 => (f c j q1 q2 q3).trans (eh c j q0)
  have g := q_dropOldM (k := k1) (r := r)
  have g2 : ∀ c j, ¬ (c = r ∧ j < 16) → o_Model_dropOld k1 r c j = k c j := fun c j q => by rw [g, if_neg (by omega), ek _ _ (by omega)]
  have hl : y_lnk (o_Model_dropOld k1 r) r n := fun v hv => by
    obtain ⟨l1, l2, l3⟩ := R.2.2.2.2.1 v hv
    rw [g2 _ _ (by omega)]
    exact ⟨l1, l2, fun u hu => by rw [g2 _ _ (by omega)]; exact l3 u hu⟩
  refine ⟨⟨?_, ?_, h8, fun v hv => ?_⟩, ⟨?_, ?_⟩, y_rowAll h8 hl (fun v hv => ?_), fun v hv => ?_, hl, y_on_all h8, ?_, d1⟩
  · rw [f2 _ _ (by omega) (by omega) (by omega) (by omega)]
    exact R.1.1
  · rw [g2 _ _ (by omega)]
    exact R.1.2.1
  · rw [f2 _ _ (by omega) (by omega) (by omega) (by omega), f2 _ _ (by omega) (by omega) (by omega) (by omega), g2 _ _ (by omega)]
    exact R.1.2.2.2 v hv
  · rw [f2 _ _ (by omega) (by omega) (by omega) (by omega), g2 _ _ (by omega)]
    exact R.2.1.1
  · rw [g2 _ _ (by omega)]
    exact R.2.1.2
  · rw [f2 _ _ (by omega) (by omega) (by omega) (by omega), f _ _ (by omega) (by omega) (by omega), d2 v hv, g2 _ _ (by omega), g, if_neg (by omega), g, if_pos ⟨rfl, by omega, by omega⟩]
    exact ⟨(m_rowAll R hv).1, (eo v hv).1, rfl⟩
  · rw [g2 53 v (by omega), g r v, if_neg (by omega), g r (8 + v), if_pos ⟨rfl, by omega, by omega⟩]
    exact ⟨(eo v hv).2, Or.inl rfl⟩
  · exact y_cN_fr (f2 _ _ (by omega) (by omega) (by omega) (by omega)) (funext fun j => f2 _ _ (by omega) (by omega) (by omega) (by omega)) (fun v => f2 _ _ (by omega) (by omega) (by omega) (by omega)) (fun v => f2 _ _ (by omega) (by omega) (by omega) (by omega)) (fun v => f2 _ _ (by omega) (by omega) (by omega) (by omega)) R.2.2.2.2.2.2.1
theorem m_place (R : zmr h b k r n (q_all n) K) (hr : r = 54 ∨ r = 55 ∨ r = 56) {v : Nat} {o : Int32} (hv : v < n) (ho : zoff (k 53 v) o) : zmr (o_Mesh_place h b v o) b (zup (o_Model_dropOld k r) r v o) r n (q_all n) K := by
  have h8 := m_8 R
  have key : zmr (o_Mesh_dropOlds (zup h (b + 3) v o) b) b (o_Model_dropOld (zup k r v o) r) r n (q_all n) K := m_offs R hr (fun c j q => zup_fr (by omega)) (fun c j q => zup_fr (by omega)) (fun u hu => by
    by_cases e : u = v
    · subst e
      rw [zup_at, zup_at]
      exact ⟨rfl, ho⟩
    · rw [zup_fr (by omega), zup_fr (by omega)]
      exact ⟨(m_rowAll R hu).2.1, (R.2.2.2.1 u hu).1⟩)
  have e : ∀ c j, zup (o_Model_dropOld k r) r v o c j = o_Model_dropOld (zup k r v o) r c j := fun c j => by
    rw [q_dropOldM]
    by_cases q : c = r ∧ j = v
    · obtain ⟨rfl, rfl⟩ := q
      rw [zup_at, if_neg (by omega), zup_at]
    · rw [zup_fr (by omega), q_dropOldM, zup_fr (h := k) (by omega)]
  exact zmr_frM (e _ _) (fun v _ => e _ _) (fun v _ => ⟨e _ _, e _ _, e _ _⟩) (e _ _) key
theorem q_sh_zoff {net d : Int32} {i e : Nat} (hp : zprd (k 53 i)) (ho : zoff (k 53 i) (k r i)) (hd : d = nI e) (he : e < 8) : zoff (k 53 i) (q_sh k r net d i) := by
  unfold q_sh
  by_cases c1 : bt net i = true
  · rw [if_pos c1]
    by_cases c2 : k r i = -9
    · rw [if_pos c2]
      exact ho
    · rw [if_neg c2]
      rcases ho with q | ⟨j, hj, q⟩
      · exact absurd q c2
      · have hP := zprd_pos hp
        rw [q, hd, (q_wrap hp hj he).2]
        exact Or.inr ⟨_, Nat.mod_lt _ hP.1, rfl⟩
  · rw [if_neg c1]
    exact ho
theorem q_moveLoop {set d : Int32} {e : Nat} (R : zmr h b k r n (q_all n) K) (hd : d = nI e) (he : e < 8) : ∀ c j, (zrep (fun (i2_1 : Nat) (s2_1 : zHp) => (if (o_Slots_has set (nI i2_1)) = true then (if (s2_1 (b + 3) i2_1) = (-9) then s2_1 else (zup s2_1 (b + 3) i2_1 (o_Mesh_wrapped h b i2_1 ((s2_1 (b + 3) i2_1) + d)))) else s2_1)) h (zcn (h b 0))) c j = if c = b + 3 ∧ j < n then q_sh k r set d j else h c j := by
  have h8 := m_8 R
  rw [(m_cnt R).1]
  have base : ∀ v, v < n → h (b + 3) v = k r v := fun v hv => (m_rowAll R hv).2.1
  have key : ∀ m, m ≤ n → ∀ c j, (zrep (fun (i2_1 : Nat) (s2_1 : zHp) => (if (o_Slots_has set (nI i2_1)) = true then (if (s2_1 (b + 3) i2_1) = (-9) then s2_1 else (zup s2_1 (b + 3) i2_1 (o_Mesh_wrapped h b i2_1 ((s2_1 (b + 3) i2_1) + d)))) else s2_1)) h m) c j = if c = b + 3 ∧ j < m then q_sh k r set d j else h c j := by
    intro m
    induction m with
    | zero =>
      intro _ c j
      rw [if_neg (by omega)]
      rfl
    | succ m ih =>
      intro hm c j
      have ih := ih (by omega)
      generalize hs : zrep (fun (i2_1 : Nat) (s2_1 : zHp) => (if (o_Slots_has set (nI i2_1)) = true then (if (s2_1 (b + 3) i2_1) = (-9) then s2_1 else (zup s2_1 (b + 3) i2_1 (o_Mesh_wrapped h b i2_1 ((s2_1 (b + 3) i2_1) + d)))) else s2_1)) h m = s at ih
      have hst : zrep (fun (i2_1 : Nat) (s2_1 : zHp) => (if (o_Slots_has set (nI i2_1)) = true then (if (s2_1 (b + 3) i2_1) = (-9) then s2_1 else (zup s2_1 (b + 3) i2_1 (o_Mesh_wrapped h b i2_1 ((s2_1 (b + 3) i2_1) + d)))) else s2_1)) h (m + 1) = (if (o_Slots_has set (nI m)) = true then (if (s (b + 3) m) = (-9) then s else (zup s (b + 3) m (o_Mesh_wrapped h b m ((s (b + 3) m) + d)))) else s) := by rw [← hs]; rfl
      rw [hst]
      have e3 : s (b + 3) m = k r m := by rw [ih, if_neg (by omega)]; exact base m (by omega)
      rw [e3, q_has (by omega)]
      have same : q_sh k r set d m = k r m → s c j = if c = b + 3 ∧ j < m + 1 then q_sh k r set d j else h c j := fun q => by
        rw [ih]
        by_cases a1 : c = b + 3 ∧ j < m
        · rw [if_pos a1, if_pos ⟨a1.1, by omega⟩]
        · rw [if_neg a1]
          by_cases a2 : c = b + 3 ∧ j = m
          · obtain ⟨rfl, rfl⟩ := a2
            rw [if_pos ⟨rfl, by omega⟩, q]
            exact base j (by omega)
          · rw [if_neg (by omega)]
      by_cases c1 : bt set m = true
      · rw [if_pos c1]
        by_cases c2 : k r m = -9
        · rw [if_pos c2]
          exact same (by unfold q_sh; rw [if_pos c1, if_pos c2])
        · rw [if_neg c2]
          have ho := (R.2.2.2.1 m (by omega)).1
          obtain ⟨p1, p2, p3⟩ := R.1.2.2.2 m (by omega)
          have ew : o_Mesh_wrapped h b m (k r m + d) = q_sh k r set d m := by
            unfold o_Mesh_wrapped q_sh
            rw [if_pos c1, if_neg c2, p1]
            rcases ho with q | ⟨x, hx, q⟩
            · exact absurd q c2
            · rw [q, hd]
              exact (q_wrap p2 hx he).1
          rw [ew]
          by_cases a2 : c = b + 3 ∧ j = m
          · obtain ⟨rfl, rfl⟩ := a2
            rw [zup_at, if_pos ⟨rfl, by omega⟩]
          · rw [zup_fr (by omega), ih]
            by_cases a1 : c = b + 3 ∧ j < m
            · rw [if_pos a1, if_pos ⟨a1.1, by omega⟩]
            · rw [if_neg a1, if_neg (by omega)]
      · rw [if_neg c1]
        exact same (by unfold q_sh; rw [if_neg c1])
  exact key n (Nat.le_refl n)
theorem m_move (R : zmr h b k r n (q_all n) K) (hr : r = 54 ∨ r = 55 ∨ r = 56) {set d : Int32} {e : Nat} (hd : d = nI e) (he : e < 8) : zmr (o_Mesh_moveAll h b set d) b (o_Model_shiftOf (o_Model_dropOld k r) r set d) r n (q_all n) K := by
  have h8 := m_8 R
  have hm := q_moveLoop (set := set) R hd he
  have hs := q_shiftOf (k := k) (net := set) (d := d) hr R.1.2.1 h8
  have key : zmr (o_Mesh_moveAll h b set d) b (o_Model_dropOld (o_Model_shiftOf k r set d) r) r n (q_all n) K := by
    unfold o_Mesh_moveAll
    refine m_offs R hr (fun c j q => by rw [hm, if_neg (by omega)]) (fun c j q => by rw [hs, if_neg (by omega)]) (fun v hv => ?_)
    rw [hm, if_pos ⟨rfl, hv⟩, hs, if_pos ⟨rfl, hv⟩]
    exact ⟨rfl, q_sh_zoff (R.1.2.2.2 v hv).2.1 (R.2.2.2.1 v hv).1 hd he⟩
  have hs2 := q_shiftOf (k := o_Model_dropOld k r) (net := set) (d := d) hr (by rw [q_dropOldM, if_neg (by omega)]; exact R.1.2.1) h8
  have e : ∀ c j, o_Model_shiftOf (o_Model_dropOld k r) r set d c j = o_Model_dropOld (o_Model_shiftOf k r set d) r c j := fun c j => by
    rw [hs2, q_dropOldM, q_dropOldM, hs]
    by_cases a1 : c = r ∧ j < n
    · rw [if_pos a1, if_neg (by omega), if_pos a1]
      have g1 : o_Model_dropOld k r r j = k r j := by rw [q_dropOldM, if_neg (by omega)]
      have g2 : o_Model_dropOld k r 53 j = k 53 j := by rw [q_dropOldM, if_neg (by omega)]
      unfold q_sh
      rw [g1, g2]
    · rw [if_neg a1, if_neg a1]
  exact zmr_frM (e _ _) (fun v _ => e _ _) (fun v _ => ⟨e _ _, e _ _, e _ _⟩) (e _ _) key
/-- a link turned -/
theorem m_flip (R : zmr h b k r n (q_all n) K) (hr : r = 54 ∨ r = 55 ∨ r = 56) (hK : K < 2 ^ 20) {i j : Nat} (hi : i < n) (hj : j < n) (hij : i ≠ j) : zmr (o_Mesh_flipLink h b i j) b (o_Model_turnOf (o_Model_dropOld k r) r i j) r n (q_all n) K := by
  have h8 := m_8 R
  have gd := q_dropOldM (k := k) (r := r)
  have gt := q_turnOf (k := o_Model_dropOld k r) (r := r) hij
  obtain ⟨m, hm1, hm2⟩ := R.2.1.2
  have hb1 : h b 1 = nI m := R.2.1.1.trans hm2
  -- the links
  have kl : ∀ v, v < n → o_Model_turnOf (o_Model_dropOld k r) r i j r (16 + v) = if v = j then k r (16 + j) ^^^ zshl 1 (nI i) else if v = i then k r (16 + i) ^^^ zshl 1 (nI j) else k r (16 + v) := fun v hv => by
    rw [gt, gd, gd, gd, if_neg (c := r = r ∧ 8 ≤ 16 + j ∧ 16 + j < 16) (by omega), if_neg (c := r = r ∧ 8 ≤ 16 + i ∧ 16 + i < 16) (by omega), if_neg (c := r = r ∧ 8 ≤ 16 + v ∧ 16 + v < 16) (by omega)]
    by_cases a1 : v = j
    · rw [if_pos ⟨rfl, by omega⟩, if_pos a1]
    · rw [if_neg (c := r = r ∧ 16 + v = 16 + j) (by omega), if_neg a1]
      by_cases a2 : v = i
      · rw [if_pos ⟨rfl, by omega⟩, if_pos a2]
      · rw [if_neg (by omega), if_neg a2]
  have ko : ∀ c q, ¬ (c = r ∧ 8 ≤ q ∧ q < 24) → o_Model_turnOf (o_Model_dropOld k r) r i j c q = k c q := fun c q z => by
    rw [gt, if_neg (by omega), if_neg (by omega), gd, if_neg (by omega)]
  have kq : ∀ v, v < n → o_Model_turnOf (o_Model_dropOld k r) r i j r (8 + v) = -9 := fun v hv => by
    rw [gt, if_neg (by omega), if_neg (by omega), gd, if_pos ⟨rfl, by omega, by omega⟩]
  unfold o_Mesh_flipLink
  have hl2 : ∀ c q, (zup (zup h (b + 2) i ((h (b + 2) i) ^^^ (zshl 1 (nI j)))) (b + 2) j (((zup h (b + 2) i ((h (b + 2) i) ^^^ (zshl 1 (nI j)))) (b + 2) j) ^^^ (zshl 1 (nI i)))) c q = if c = b + 2 ∧ q = j then h (b + 2) j ^^^ zshl 1 (nI i) else if c = b + 2 ∧ q = i then h (b + 2) i ^^^ zshl 1 (nI j) else h c q := fun c q => by
    rw [zup_fr (c2 := b + 2) (k2 := j) (by omega)]
    by_cases q1 : c = b + 2 ∧ q = j
    · obtain ⟨rfl, rfl⟩ := q1
      rw [zup_at, if_pos ⟨rfl, rfl⟩]
    · rw [zup_fr (by omega), if_neg q1]
      by_cases q2 : c = b + 2 ∧ q = i
      · obtain ⟨rfl, rfl⟩ := q2
        rw [zup_at, if_pos ⟨rfl, rfl⟩]
      · rw [zup_fr (by omega), if_neg q2]
  generalize (zup (zup h (b + 2) i ((h (b + 2) i) ^^^ (zshl 1 (nI j)))) (b + 2) j (((zup h (b + 2) i ((h (b + 2) i) ^^^ (zshl 1 (nI j)))) (b + 2) j) ^^^ (zshl 1 (nI i)))) = h1 at hl2 ⊢
  have e1 : ∀ c q, c ≠ b + 2 → h1 c q = h c q := fun c q z => by rw [hl2, if_neg (by omega), if_neg (by omega)]
  obtain ⟨d1, d2⟩ := q_drop (h := h1) (b := b) ((e1 _ _ (by omega)).trans R.1.1) h8 (fun v hv => by
    rw [e1 _ _ (by omega), e1 _ _ (by omega), e1 _ _ (by omega)]
    refine ⟨(m_hp R v hv).1, (m_hp R v hv).2, ?_⟩
    rw [(m_rowAll R hv).2.1, (R.1.2.2.2 v hv).1]
    exact (R.2.2.2.1 v hv).1)
  have f : ∀ c q, c ≠ b + 2 → c ≠ b + 4 → c ≠ b + 6 → c ≠ b + 7 → c ≠ b + 8 → c ≠ b + 9 → c ≠ b + 10 → o_Mesh_relate (o_Mesh_dropOlds h1 b) b c q = h c q := fun c q q0 q1 q2 q3 q4 q5 q6 => by
    rw [fr_Mesh_relate _ _ q2 q3 q4, fr_Mesh_dropOlds _ _ q1 q5 q6, e1 _ _ q0]
  have fl : ∀ v, v < n → o_Mesh_relate (o_Mesh_dropOlds h1 b) b (b + 2) v = if v = j then k r (16 + j) ^^^ zshl 1 (nI i) else if v = i then k r (16 + i) ^^^ zshl 1 (nI j) else k r (16 + v) := fun v hv => by
    rw [fr_Mesh_relate _ _ (by omega) (by omega) (by omega), fr_Mesh_dropOlds _ _ (by omega) (by omega) (by omega), hl2, (m_rowAll R hj).1, (m_rowAll R hi).1]
    by_cases a1 : v = j
    · rw [if_pos ⟨rfl, a1⟩, if_pos a1]
    · rw [if_neg (by omega), if_neg a1]
      by_cases a2 : v = i
      · rw [if_pos ⟨rfl, a2⟩, if_pos a2]
      · rw [if_neg (by omega), if_neg a2, (m_rowAll R hv).1]
  have hl : y_lnk (o_Model_turnOf (o_Model_dropOld k r) r i j) r n := by
    have bits : ∀ v, v < n → ∀ x, x < 32 → bt (o_Model_turnOf (o_Model_dropOld k r) r i j r (16 + v)) x = (bt (k r (16 + v)) x ^^ ((decide (v = j) && decide (x = i)) || (decide (v = i) && decide (x = j)))) := fun v hv x hx => by
      rw [kl v hv]
      by_cases a1 : v = j
      · subst a1
        rw [if_pos rfl, b_xor, q_one (by omega) hx, decide_eq_true (rfl : v = v), decide_eq_false (fun z : v = i => hij z.symm)]
        simp
      · rw [if_neg a1]
        by_cases a2 : v = i
        · subst a2
          rw [if_pos rfl, b_xor, q_one (by omega) hx, decide_eq_true (rfl : v = v), decide_eq_false a1]
          simp
        · rw [if_neg a2, decide_eq_false a1, decide_eq_false a2]
          simp
    intro v hv
    obtain ⟨l1, l2, l3⟩ := R.2.2.2.2.1 v hv
    refine ⟨fun x x1 x2 => ?_, ?_, fun u hu => ?_⟩
    · rw [bits v hv x x2, l1 x x1 x2, decide_eq_false (show ¬ x = i by omega), decide_eq_false (show ¬ x = j by omega)]
      simp
    · rw [bits v hv v (by omega), l2]
      by_cases a1 : v = j
      · rw [decide_eq_false (show ¬ v = i by omega)]
        simp
      · rw [decide_eq_false a1]
        simp
    · rw [bits v hv u (by omega), bits u hu v (by omega), l3 u hu]
      congr 1
      rw [Bool.or_comm, Bool.and_comm (x := decide (v = i)), Bool.and_comm (x := decide (v = j))]
  refine ⟨⟨?_, ?_, h8, fun v hv => ?_⟩, ⟨?_, ?_⟩, y_rowAll h8 hl (fun v hv => ?_), fun v hv => ?_, hl, y_on_all h8, ?_, ?_⟩
  · rw [f _ _ (by omega) (by omega) (by omega) (by omega) (by omega) (by omega) (by omega)]
    exact R.1.1
  · rw [ko _ _ (by omega)]
    exact R.1.2.1
  · rw [f _ _ (by omega) (by omega) (by omega) (by omega) (by omega) (by omega) (by omega), f _ _ (by omega) (by omega) (by omega) (by omega) (by omega) (by omega) (by omega), ko _ _ (by omega)]
    exact R.1.2.2.2 v hv
  · rw [f _ _ (by omega) (by omega) (by omega) (by omega) (by omega) (by omega) (by omega), ko _ _ (by omega)]
    exact R.2.1.1
  · rw [ko _ _ (by omega)]
    exact R.2.1.2
  · rw [fl v hv, kl v hv, kq v hv, ko _ _ (by omega), f (b + 3) v (by omega) (by omega) (by omega) (by omega) (by omega) (by omega) (by omega), fr_Mesh_relate (b + 4) v (by omega) (by omega) (by omega), d2 v hv]
    exact ⟨rfl, (m_rowAll R hv).2.1, rfl⟩
  · rw [ko _ _ (by omega), ko _ _ (by omega), kq v hv]
    exact ⟨(R.2.2.2.1 v hv).1, Or.inl rfl⟩
  · refine q_relate (m := m) ?_ h8 ?_ (by omega)
    · rw [fr_Mesh_dropOlds _ _ (by omega) (by omega) (by omega), e1 _ _ (by omega)]
      exact R.1.1
    · rw [fr_Mesh_dropOlds _ _ (by omega) (by omega) (by omega), e1 _ _ (by omega)]
      exact hb1
  · exact y_cT_fr (fun v => fr_Mesh_relate _ _ (by omega) (by omega) (by omega)) (fun v => fr_Mesh_relate _ _ (by omega) (by omega) (by omega)) (fun v => fr_Mesh_relate _ _ (by omega) (by omega) (by omega)) (fun v => fr_Mesh_relate _ _ (by omega) (by omega) (by omega)) (fun v => fr_Mesh_relate _ _ (by omega) (by omega) (by omega)) d1
end ZQ
