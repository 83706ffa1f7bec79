/-! Frames of the relation; copies; who is near; conflicts. -/
section ZQ
variable {h : zHp} {b : Nat} {k : zHp} {r n : Nat} {on : Int32} {K : Nat}
theorem zmr_frC {h2 : zHp} (e0 : ∀ j, j < 2 → h2 b j = h b j) (e : ∀ i v, 1 ≤ i → i ≤ 10 → h2 (b + i) v = h (b + i) v) (R : zmr h b k r n on K) : zmr h2 b k r n on K := by
  obtain ⟨⟨b1, b2, b3, b4⟩, ⟨d1, d2⟩, R3, R4, R5, R6, R7, R8⟩ := R
  refine ⟨⟨(e0 0 (by omega)).trans b1, b2, b3, fun v hv => ?_⟩, ⟨(e0 1 (by omega)).trans d1, d2⟩, fun v hv => ?_, R4, R5, R6, ?_, ?_⟩
  · rw [e 1 v (by omega) (by omega), e 5 v (by omega) (by omega)]
    exact b4 v hv
  · rw [e 2 v (by omega) (by omega), e 3 v (by omega) (by omega), e 4 v (by omega) (by omega)]
    exact R3 v hv
  · exact y_cN_fr (e0 1 (by omega)) (funext fun j => e 2 j (by omega) (by omega)) (fun v => e 6 v (by omega) (by omega)) (fun v => e 7 v (by omega) (by omega)) (fun v => e 8 v (by omega) (by omega)) R7
  · exact y_cT_fr (fun v => e 1 v (by omega) (by omega)) (fun v => e 3 v (by omega) (by omega)) (fun v => e 4 v (by omega) (by omega)) (fun v => e 9 v (by omega) (by omega)) (fun v => e 10 v (by omega) (by omega)) R8
theorem zmr_frM {k2 : zHp} (e1 : k2 51 1 = k 51 1) (e2 : ∀ v, v < n → k2 53 v = k 53 v) (e3 : ∀ v, v < n → k2 r v = k r v ∧ k2 r (8 + v) = k r (8 + v) ∧ k2 r (16 + v) = k r (16 + v)) (e4 : k2 r 24 = k r 24) (R : zmr h b k r n on K) : zmr h b k2 r n on K := by
  obtain ⟨⟨b1, b2, b3, b4⟩, ⟨d1, d2⟩, R3, R4, R5, R6, R7, R8⟩ := R
  refine ⟨⟨b1, e1.trans b2, b3, fun v hv => ?_⟩, ⟨?_, ?_⟩, fun v hv => ?_, fun v hv => ?_, fun v hv => ?_, R6, R7, R8⟩
  · rw [e2 v hv]
    exact b4 v hv
  · rw [e4]
    exact d1
  · rw [e4]
    exact d2
  · rw [(e3 v hv).1, (e3 v hv).2.1, (e3 v hv).2.2]
    exact R3 v hv
  · rw [(e3 v hv).1, (e3 v hv).2.1, e2 v hv]
    exact R4 v hv
  · obtain ⟨l1, l2, l3⟩ := R5 v hv
    rw [(e3 v hv).2.2]
    exact ⟨l1, l2, fun u hu => by rw [(e3 u hu).2.2]; exact l3 u hu⟩
theorem zmr_mono {K2 : Nat} (hK : K ≤ K2) (R : zmr h b k r n on K) : zmr h b k r n on K2 := ⟨R.1, ⟨R.2.1.1, by obtain ⟨m, h1, h2⟩ := R.2.1.2; exact ⟨m, by omega, h2⟩⟩, R.2.2⟩
theorem q_copyFrom {o : Nat} (hb : b = 3 ∨ b = 15 ∨ b = 27) (ho : o = 3 ∨ o = 15 ∨ o = 27) (hbo : b ≠ o) : (o_Mesh_copyFrom h b o b 0 = h o 0 ∧ o_Mesh_copyFrom h b o b 1 = h o 1) ∧ ∀ i v, 1 ≤ i → i ≤ 10 → v < 8 → o_Mesh_copyFrom h b o (b + i) v = h (o + i) v := by
  have e1 : zup (zup h b 0 (h o 0)) b 1 (zup h b 0 (h o 0) o 1) b 0 = h o 0 := by rw [zup_fr (by omega), zup_at]
  have e2 : zup (zup h b 0 (h o 0)) b 1 (zup h b 0 (h o 0) o 1) b 1 = h o 1 := by rw [zup_at, zup_fr (by omega)]
  have e3 : ∀ c j, c ≠ b → zup (zup h b 0 (h o 0)) b 1 (zup h b 0 (h o 0) o 1) c j = h c j := fun c j q => by rw [zup_fr (by omega), zup_fr (by omega)]
  unfold o_Mesh_copyFrom o_Mesh_copyRow
  generalize zup (zup h b 0 (h o 0)) b 1 (zup h b 0 (h o 0) o 1) = h1 at e1 e2 e3 ⊢
  have hit : ∀ (s : zHp) (c d j : Nat), j < 8 → zcp s c d 0 0 8 d j = s c j := fun s c d j q => by
    rw [zcp_eq, pk_cpy_in (by omega) (by omega)]
    congr 1
    omega
  refine ⟨⟨?_, ?_⟩, fun i v h1' h2' hv => ?_⟩
  · iterate 10 rw [zcp_fr (by omega)]
    exact e1
  · iterate 10 rw [zcp_fr (by omega)]
    exact e2
  · have hi : i = 1 ∨ i = 2 ∨ i = 3 ∨ i = 4 ∨ i = 5 ∨ i = 6 ∨ i = 7 ∨ i = 8 ∨ i = 9 ∨ i = 10 := by omega
    rcases hi with rfl | rfl | rfl | rfl | rfl | rfl | rfl | rfl | rfl | rfl
    · iterate 9 rw [zcp_fr (by omega)]
      rw [hit _ _ _ _ hv]
      exact e3 _ _ (by omega)
    · iterate 8 rw [zcp_fr (by omega)]
      rw [hit _ _ _ _ hv]
      iterate 1 rw [zcp_fr (by omega)]
      exact e3 _ _ (by omega)
    · iterate 7 rw [zcp_fr (by omega)]
      rw [hit _ _ _ _ hv]
      iterate 2 rw [zcp_fr (by omega)]
      exact e3 _ _ (by omega)
    · iterate 6 rw [zcp_fr (by omega)]
      rw [hit _ _ _ _ hv]
      iterate 3 rw [zcp_fr (by omega)]
      exact e3 _ _ (by omega)
    · iterate 5 rw [zcp_fr (by omega)]
      rw [hit _ _ _ _ hv]
      iterate 4 rw [zcp_fr (by omega)]
      exact e3 _ _ (by omega)
    · iterate 4 rw [zcp_fr (by omega)]
      rw [hit _ _ _ _ hv]
      iterate 5 rw [zcp_fr (by omega)]
      exact e3 _ _ (by omega)
    · iterate 3 rw [zcp_fr (by omega)]
      rw [hit _ _ _ _ hv]
      iterate 6 rw [zcp_fr (by omega)]
      exact e3 _ _ (by omega)
    · iterate 2 rw [zcp_fr (by omega)]
      rw [hit _ _ _ _ hv]
      iterate 7 rw [zcp_fr (by omega)]
      exact e3 _ _ (by omega)
    · iterate 1 rw [zcp_fr (by omega)]
      rw [hit _ _ _ _ hv]
      iterate 8 rw [zcp_fr (by omega)]
      exact e3 _ _ (by omega)
    · rw [hit _ _ _ _ hv]
      iterate 9 rw [zcp_fr (by omega)]
      exact e3 _ _ (by omega)
/-- the relation asks of a class' rows no more than their first n places -/
theorem zmr_base {h2 : zHp} {o : Nat} (e0 : h2 b 0 = h o 0 ∧ h2 b 1 = h o 1) (e : ∀ i v, 1 ≤ i → i ≤ 10 → v < 8 → h2 (b + i) v = h (o + i) v) (R : zmr h o k r n on K) : zmr h2 b k r n on K := by
  have h8 := m_8 R
  obtain ⟨⟨b1, b2, b3, b4⟩, ⟨d1, d2⟩, R3, R4, R5, R6, R7, R8⟩ := R
  refine ⟨⟨e0.1.trans b1, b2, b3, fun v hv => ?_⟩, ⟨e0.2.trans d1, d2⟩, fun v hv => ?_, R4, R5, R6, fun v hv => ?_, fun v hv => ?_⟩
  · rw [e 1 v (by omega) (by omega) (by omega), e 5 v (by omega) (by omega) (by omega)]
    exact b4 v hv
  · rw [e 2 v (by omega) (by omega) (by omega), e 3 v (by omega) (by omega) (by omega), e 4 v (by omega) (by omega) (by omega)]
    exact R3 v hv
  · rw [e 6 v (by omega) (by omega) (by omega), e 7 v (by omega) (by omega) (by omega), e 8 v (by omega) (by omega) (by omega), e0.2, q_nr_congr (M := h (o + 2)) hv (fun x hx => e 2 x (by omega) (by omega) (by omega))]
    exact R7 v hv
  · rw [e 9 v (by omega) (by omega) (by omega), e 10 v (by omega) (by omega) (by omega), e 3 v (by omega) (by omega) (by omega), e 4 v (by omega) (by omega) (by omega), e 1 v (by omega) (by omega) (by omega)]
    exact R8 v hv
theorem m_copyC {o : Nat} (hb : b = 3 ∨ b = 15 ∨ b = 27) (ho : o = 3 ∨ o = 15 ∨ o = 27) (hbo : b ≠ o) (R : zmr h o k r n on K) : zmr (o_Mesh_copyFrom h b o) b k r n on K := by
  obtain ⟨e0, e⟩ := q_copyFrom (h := h) hb ho hbo
  exact zmr_base e0 e R
theorem q_copyM {r2 : Nat} (hr : r = 54 ∨ r = 55 ∨ r = 56) (hr2 : r2 = 54 ∨ r2 = 55 ∨ r2 = 56) (hne : r ≠ r2) : ∀ c j, o_Model_copy k r r2 c j = if c = r2 ∧ j < 25 then k r j else k c j := by
  unfold o_Model_copy
  exact q_row (h := k) (c := r2) (F := fun i s => s r i) (G := fun i => k r i) 25 (fun i s hi hs => hs r i (by omega))
/-- the same in another row of the reference -/
theorem zmr_rowM {k2 : zHp} {r2 : Nat} (e1 : k2 51 1 = k 51 1) (e2 : ∀ v, v < n → k2 53 v = k 53 v) (e3 : ∀ j, j < 25 → k2 r2 j = k r j) (R : zmr h b k r n on K) : zmr h b k2 r2 n on K := by
  have h8 := m_8 R
  obtain ⟨⟨b1, b2, b3, b4⟩, ⟨d1, d2⟩, R3, R4, R5, R6, R7, R8⟩ := R
  refine ⟨⟨b1, e1.trans b2, b3, fun v hv => ?_⟩, ⟨?_, ?_⟩, fun v hv => ?_, fun v hv => ?_, fun v hv => ?_, R6, R7, R8⟩
  · rw [e2 v hv]
    exact b4 v hv
  · rw [e3 24 (by omega)]
    exact d1
  · rw [e3 24 (by omega)]
    exact d2
  · rw [e3 v (by omega), e3 (8 + v) (by omega), e3 (16 + v) (by omega)]
    exact R3 v hv
  · rw [e3 v (by omega), e3 (8 + v) (by omega), e2 v hv]
    exact R4 v hv
  · obtain ⟨l1, l2, l3⟩ := R5 v hv
    rw [e3 (16 + v) (by omega)]
    exact ⟨l1, l2, fun u hu => by rw [e3 (16 + u) (by omega)]; exact l3 u hu⟩
theorem m_copyM {r2 : Nat} (hr : r = 54 ∨ r = 55 ∨ r = 56) (hr2 : r2 = 54 ∨ r2 = 55 ∨ r2 = 56) (hne : r ≠ r2) (R : zmr h b k r n on K) : zmr h b (o_Model_copy k r r2) r2 n on K := by
  have e := q_copyM (k := k) hr hr2 hne
  exact zmr_rowM (by rw [e, if_neg (by omega)]) (fun v hv => by rw [e, if_neg (by omega)]) (fun j hj => by rw [e, if_pos ⟨rfl, hj⟩]) R
-- who is near, laid by the reference
theorem q_neigh {x : Nat} (hx : x < 32) : o_Model_neighbours k r x = if bt (k 51 9) x = true then (k r (16 + x) &&& k 51 9) else 0 := by
  unfold o_Model_neighbours
  rw [q_hasM hx]
theorem q_layIn {s : zHp} {i : Nat} (hr : r = 54 ∨ r = 55 ∨ r = 56) (x : Int32) (h8 : n ≤ 8) : ∀ (a : Int32) (m : Nat), m ≤ n → zrep (fun (e : Nat) (t : zHp) => (zup t 66 i ((t 66 i) ||| (if (o_Model_has x (nI e)) = true then (o_Model_neighbours t r e) else 0)))) (zup s 66 i a) m = zup s 66 i (q_og (fun e => bt x e) (fun e => o_Model_neighbours s r e) a m)
  | a, 0, _ => rfl
  | a, m + 1, hm => by
    show zup (zrep _ (zup s 66 i a) m) 66 i (((zrep _ (zup s 66 i a) m) 66 i) ||| (if (o_Model_has x (nI m)) = true then (o_Model_neighbours (zrep _ (zup s 66 i a) m) r m) else 0)) = zup s 66 i (if bt x m = true then q_og (fun e => bt x e) (fun e => o_Model_neighbours s r e) a m ||| o_Model_neighbours s r m else q_og (fun e => bt x e) (fun e => o_Model_neighbours s r e) a m)
    rw [q_layIn hr x h8 a m (by omega), q_zup_zup, zup_at, q_hasM (by omega)]
    congr 1
    have e : ∀ v, o_Model_neighbours (zup s 66 i v) r m = o_Model_neighbours s r m := fun v => rd_Model_neighbours (zup_fr (by omega)) (funext fun j => zup_fr (by omega))
    rw [e]
    by_cases c : bt x m = true
    · rw [if_pos c, if_pos c]
    · rw [if_neg c, if_neg c, q_or_0]
theorem q_layNear {those : Int32} (hr : r = 54 ∨ r = 55 ∨ r = 56) (hn : k 51 1 = nI n) (h8 : n ≤ 8) : y_laid (o_Model_layNear k r those) r n those := by
  have f0 : o_Model_layNear k r those r = k r := funext fun j => fr_Model_layNear _ _ (by omega) (by omega)
  have key : ∀ c2 k2, o_Model_layNear k r those c2 k2 = if c2 = 66 ∧ k2 < n then q_nr (q_nb (fun e => k r (16 + e)) those) n k2 else zup k 51 9 those c2 k2 := by
    unfold o_Model_layNear
    rw [hn, zcn_nI (by omega), q_congr (g := fun i (s : zHp) => zup s 66 i ((q_og (fun e => bt (o_Model_neighbours s r i) e) (fun e => o_Model_neighbours s r e) (o_Model_neighbours s r i) n) &&& ((zshl 1 (nI i)) ^^^ (-1)))) n (fun i s hi => by
      rw [q_layIn hr (o_Model_neighbours s r i) h8 (o_Model_neighbours s r i) n (by omega), zup_at, q_zup_zup])]
    refine q_row (h := zup k 51 9 those) (c := 66) (F := fun i s => (q_og (fun e => bt (o_Model_neighbours s r i) e) (fun e => o_Model_neighbours s r e) (o_Model_neighbours s r i) n) &&& ((zshl 1 (nI i)) ^^^ (-1))) (G := fun i => q_nr (q_nb (fun e => k r (16 + e)) those) n i) n (fun i s hi hs => ?_)
    have e9 : s 51 9 = those := by rw [hs 51 9 (by omega), zup_at]
    have er : ∀ j, s r j = k r j := fun j => by rw [hs r j (by omega), zup_fr (by omega)]
    have en : ∀ x, x < n → o_Model_neighbours s r x = q_nb (fun e => k r (16 + e)) those x := fun x hx => by
      rw [q_neigh (by omega), e9, er]
      rfl
    show (q_og (fun e => bt (o_Model_neighbours s r i) e) (fun e => o_Model_neighbours s r e) (o_Model_neighbours s r i) n) &&& ((zshl 1 (nI i)) ^^^ (-1)) = q_nr (q_nb (fun e => k r (16 + e)) those) n i
    unfold q_nr
    rw [q_og_congr (Q := fun e => bt (q_nb (fun e => k r (16 + e)) those i) e) (G := q_nb (fun e => k r (16 + e)) those) (fun x hx => ⟨by rw [en i hi], fun _ => en x hx⟩), en i hi]
    congr 1
    have := q_og_acc (P := fun e => bt (q_nb (fun e => k r (16 + e)) those i) e) (F := q_nb (fun e => k r (16 + e)) those) (x := q_nb (fun e => k r (16 + e)) those i) (a := 0) (n := n)
    rw [q_or_0] at this
    exact this
  refine ⟨by rw [key, if_neg (by omega), zup_at], fun v hv => ?_⟩
  rw [key, if_pos ⟨rfl, hv⟩, f0]
theorem m_layNear {those : Int32} (hr : r = 54 ∨ r = 55 ∨ r = 56) (R : zmr h b k r n on K) : zmr h b (o_Model_layNear k r those) r n on K :=
  have f : ∀ c j, c ≠ 51 → c ≠ 66 → o_Model_layNear k r those c j = k c j := fun c j q1 q2 => fr_Model_layNear _ _ (by omega) q2
  zmr_frM (fr_Model_layNear _ _ (by omega) (by omega)) (fun v _ => f _ _ (by omega) (by omega)) (fun v _ => ⟨f _ _ (by omega) (by omega), f _ _ (by omega) (by omega), f _ _ (by omega) (by omega)⟩) (f _ _ (by omega) (by omega)) R
theorem m_all (hn : k 51 1 = nI n) : o_Model_all k = q_all n := by
  unfold o_Model_all q_all
  rw [hn]
theorem m_on_all (h8 : n ≤ 8) {v : Nat} (hv : v < n) : bt (q_all n) v = true := by
  rw [q_all_bt h8 (by omega)]
  exact decide_eq_true hv
/-- conflicts -/
theorem m_conf (hr : r = 54 ∨ r = 55 ∨ r = 56) (R : zmr h b k r n (q_all n) K) : o_Mesh_conflicts h b = (o_Model_clashes k r).1 := by
  have h8 := m_8 R
  have R2 := m_layNear (those := o_Model_all k) hr R
  have D2 := q_layNear (k := k) (those := o_Model_all k) hr R.1.2.1 h8
  rw [m_all R.1.2.1] at R2 D2
  unfold o_Mesh_conflicts o_Model_clashes
  dsimp only
  rw [m_all R.1.2.1, (m_cnt R).1, (m_cnt R).2]
  refine q_congr n (fun i s hi => q_congr i (fun e t he => ?_))
  rw [m_near R2 D2 hi, q_has (by omega), q_hasM (by omega), m_tick R hi (m_on_all h8 hi), m_tick R (v := e) (by omega) (m_on_all h8 (by omega))]
  by_cases c1 : bt (o_Model_layNear k r (q_all n) 66 i) e = true
  · rw [if_pos c1, c1, Bool.true_and, q_and_comm]
    by_cases c2 : (o_Model_ticks k r i &&& o_Model_ticks k r e) = 0
    · rw [if_pos c2, decide_eq_true c2]
      exact (Int32.add_zero t).symm
    · rw [if_neg c2, decide_eq_false c2]
      rfl
  · rw [if_neg c1, show bt (o_Model_layNear k r (q_all n) 66 i) e = false by simpa using c1]
    exact (Int32.add_zero t).symm
/-- what clashes depends on -/
theorem q_clash_congr {k2 : zHp} (hr : r = 54 ∨ r = 55 ∨ r = 56) (h8 : n ≤ 8) (hn : k 51 1 = nI n) (hn2 : k2 51 1 = nI n) (e2 : ∀ v, v < n → k2 53 v = k 53 v) (e3 : ∀ v, v < n → k2 r v = k r v ∧ k2 r (16 + v) = k r (16 + v)) : (o_Model_clashes k2 r).1 = (o_Model_clashes k r).1 := by
  have D1 := q_layNear (k := k) (those := q_all n) hr hn h8
  have D2 := q_layNear (k := k2) (those := q_all n) hr hn2 h8
  have f1 : ∀ j, o_Model_layNear k r (q_all n) r j = k r j := fun j => fr_Model_layNear _ _ (by omega) (by omega)
  have f2 : ∀ j, o_Model_layNear k2 r (q_all n) r j = k2 r j := fun j => fr_Model_layNear _ _ (by omega) (by omega)
  unfold o_Model_clashes
  dsimp only
  rw [m_all hn, m_all hn2, hn, hn2, zcn_nI (by omega)]
  refine q_congr n (fun i s hi => q_congr i (fun e t he => ?_))
  have g : o_Model_layNear k2 r (q_all n) 66 i = o_Model_layNear k r (q_all n) 66 i := by
    rw [D1.2 i hi, D2.2 i hi]
    refine q_nr_congr hi (fun x hx => ?_)
    unfold q_nb
    dsimp only
    rw [f1, f2, (e3 x hx).2]
  unfold o_Model_ticks
  rw [g, e2 i hi, e2 e (by omega), (e3 i hi).1, (e3 e (by omega)).1]
end ZQ
