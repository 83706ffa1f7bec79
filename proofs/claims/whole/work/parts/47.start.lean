/-! Runs with some stations alone, and from random offsets. -/
theorem q_row2s {h : zHp} {c d : Nat} {F G : Nat → zHp → Int32} {F2 G2 : Nat → Int32} (hcd : c ≠ d) : ∀ (n : Nat), (∀ i s, i < n → (∀ c2 k2, ((c2 ≠ c ∧ c2 ≠ d) ∨ i ≤ k2) → s c2 k2 = h c2 k2) → F i s = F2 i ∧ G i s = G2 i) → ∀ (c2 k2 : Nat), (zrep (fun i (s : zHp) => zup (zup s c i (F i s)) d i (G i s)) h n) c2 k2 = if c2 = d ∧ k2 < n then G2 k2 else if c2 = c ∧ k2 < n then F2 k2 else h c2 k2
  | 0, _, c2, k2 => by
    rw [if_neg (by omega), if_neg (by omega)]
    rfl
  | n + 1, hF, c2, k2 => by
    have ih := q_row2s (h := h) (F := F) (G := G) (F2 := F2) (G2 := G2) hcd n (fun i s hi => hF i s (by omega))
    show zup (zup (zrep (fun i (s : zHp) => zup (zup s c i (F i s)) d i (G i s)) h n) c n (F n (zrep (fun i (s : zHp) => zup (zup s c i (F i s)) d i (G i s)) h n))) d n (G n (zrep (fun i (s : zHp) => zup (zup s c i (F i s)) d i (G i s)) h n)) c2 k2 = _
    obtain ⟨e1, e2⟩ := hF n (zrep (fun i (s : zHp) => zup (zup s c i (F i s)) d i (G i s)) h n) (by omega) (fun c3 k3 q => by rw [ih, if_neg (by omega), if_neg (by omega)])
    rw [e1, e2]
    by_cases q : c2 = d ∧ k2 = n
    · obtain ⟨rfl, rfl⟩ := q
      rw [zup_at, if_pos ⟨rfl, by omega⟩]
    · rw [zup_fr (by omega)]
      by_cases q1 : c2 = c ∧ k2 = n
      · obtain ⟨rfl, rfl⟩ := q1
        rw [zup_at, if_neg (by omega), if_pos ⟨rfl, by omega⟩]
      · rw [zup_fr (by omega), ih]
        by_cases q2 : c2 = d ∧ k2 < n
        · rw [if_pos q2, if_pos ⟨q2.1, by omega⟩]
        · rw [if_neg q2, if_neg (c := c2 = d ∧ k2 < n + 1) (by omega)]
          by_cases q3 : c2 = c ∧ k2 < n
          · rw [if_pos q3, if_pos ⟨q3.1, by omega⟩]
          · rw [if_neg q3, if_neg (by omega)]
section ZQ
variable {h : zHp} {b : Nat} {k : zHp} {r n : Nat} {on : Int32} {K : Nat}
theorem m_start (R : zmr h b k r n (q_all n) K) (hon : y_on n on) {k2 : zHp} (e1 : k2 51 1 = k 51 1) (e2 : ∀ v, v < n → k2 53 v = k 53 v) (e3 : ∀ v, v < n → k2 r v = -9 ∧ k2 r (8 + v) = -9 ∧ k2 r (16 + v) = k r (16 + v)) (e4 : k2 r 24 = 0) : zmr (o_Mesh_startWithOnly h b on) b k2 r n on 0 := by
  have h8 := m_8 R
  unfold o_Mesh_startWithOnly
  rw [(m_cnt R).1]
  have hL := q_row2s (h := h) (c := b + 2) (d := b + 3) (F := fun i s => (if (o_Slots_has on (nI i)) = true then ((s (b + 2) i) &&& on) else 0)) (G := fun i _ => (if (o_Slots_has on (nI i)) = true then (-9) else 0)) (F2 := fun i => if bt on i = true then h (b + 2) i &&& on else 0) (G2 := fun i => if bt on i = true then -9 else 0) (by omega) n (fun i s hi hs => by
    rw [q_has (by omega), hs (b + 2) i (by omega)]
    exact ⟨rfl, rfl⟩)
  generalize zrep (fun (i2_1 : Nat) (s2_1 : zHp) => (zup (zup s2_1 (b + 2) i2_1 (if (o_Slots_has on (nI i2_1)) = true then ((s2_1 (b + 2) i2_1) &&& on) else 0)) (b + 3) i2_1 (if (o_Slots_has on (nI i2_1)) = true then (-9) else 0))) h n = h1 at hL ⊢
  have g1 : ∀ c j, c ≠ b + 2 → c ≠ b + 3 → h1 c j = h c j := fun c j q1 q2 => by rw [hL, if_neg (by omega), if_neg (by omega)]
  obtain ⟨d1, d2⟩ := q_drop (h := h1) (b := b) ((g1 _ _ (by omega) (by omega)).trans R.1.1) h8 (fun v hv => by
    rw [g1 _ _ (by omega) (by omega), g1 _ _ (by omega) (by omega)]
    refine ⟨(m_hp R v hv).1, (m_hp R v hv).2, ?_⟩
    rw [hL, if_pos ⟨rfl, hv⟩]
    by_cases c : bt on v = true
    · rw [if_pos c]
      exact Or.inl rfl
    · rw [if_neg c]
      exact Or.inr ⟨0, (zprd_pos (m_hp R v hv).1).1, rfl⟩)
  have f : ∀ c j, c ≠ b + 4 → c ≠ b + 6 → c ≠ b + 7 → c ≠ b + 8 → c ≠ b + 9 → c ≠ b + 10 → ¬ (c = b ∧ j = 1) → o_Mesh_relate (zup (o_Mesh_dropOlds h1 b) b 1 0) b c j = h1 c j := fun c j q1 q2 q3 q4 q5 q6 q7 => by
    rw [fr_Mesh_relate _ _ q2 q3 q4, zup_fr (by omega), fr_Mesh_dropOlds _ _ q1 q5 q6]
  have hl : y_lnk k2 r n := fun v hv => by
    obtain ⟨l1, l2, l3⟩ := R.2.2.2.2.1 v hv
    rw [(e3 v hv).2.2]
    exact ⟨l1, l2, fun u hu => by rw [(e3 u hu).2.2]; exact l3 u hu⟩
  refine ⟨⟨?_, e1.trans R.1.2.1, h8, fun v hv => ?_⟩, ⟨?_, 0, by omega, e4⟩, fun v hv => ?_, fun v hv => ?_, hl, hon, ?_, ?_⟩
  · rw [f _ _ (by omega) (by omega) (by omega) (by omega) (by omega) (by omega) (by omega), g1 _ _ (by omega) (by omega)]
    exact R.1.1
  · rw [f _ _ (by omega) (by omega) (by omega) (by omega) (by omega) (by omega) (by omega), f _ _ (by omega) (by omega) (by omega) (by omega) (by omega) (by omega) (by omega), g1 _ _ (by omega) (by omega), g1 _ _ (by omega) (by omega), e2 v hv]
    exact R.1.2.2.2 v hv
  · rw [fr_Mesh_relate _ _ (by omega) (by omega) (by omega), zup_at, e4]
  · have x2 : h1 (b + 2) v = if bt on v = true then k r (16 + v) &&& on else 0 := by rw [hL, if_neg (by omega), if_pos (c := b + 2 = b + 2 ∧ v < n) ⟨rfl, hv⟩, (m_rowAll R hv).1]
    have x3 : h1 (b + 3) v = if bt on v = true then -9 else 0 := by rw [hL, if_pos (c := b + 3 = b + 3 ∧ v < n) ⟨rfl, hv⟩]
    rw [f (b + 2) v (by omega) (by omega) (by omega) (by omega) (by omega) (by omega) (by omega), f (b + 3) v (by omega) (by omega) (by omega) (by omega) (by omega) (by omega) (by omega), fr_Mesh_relate (b + 4) v (by omega) (by omega) (by omega), zup_fr (by omega), d2 v hv, (e3 v hv).1, (e3 v hv).2.1, (e3 v hv).2.2, x2, x3]
    refine ⟨fun c => ?_, fun c => ?_⟩
    · rw [if_pos c, if_pos c]
      exact ⟨rfl, rfl, rfl⟩
    · rw [if_neg (by rw [c]; decide), if_neg (by rw [c]; decide)]
      exact ⟨rfl, rfl, rfl, rfl, rfl⟩
  · rw [(e3 v hv).1, (e3 v hv).2.1]
    exact ⟨Or.inl rfl, Or.inl rfl⟩
  · refine q_relate (m := 0) ?_ h8 zup_at (by omega)
    rw [zup_fr (by omega), fr_Mesh_dropOlds _ _ (by omega) (by omega) (by omega), g1 _ _ (by omega) (by omega)]
    exact R.1.1
  · have step : ∀ c j, c ≠ b → c ≠ b + 6 → c ≠ b + 7 → c ≠ b + 8 → o_Mesh_relate (zup (o_Mesh_dropOlds h1 b) b 1 0) b c j = o_Mesh_dropOlds h1 b c j := fun c j q0 q2 q3 q4 => (fr_Mesh_relate _ _ q2 q3 q4).trans (zup_fr (by omega))
    exact y_cT_fr (fun v => step _ _ (by omega) (by omega) (by omega) (by omega)) (fun v => step _ _ (by omega) (by omega) (by omega) (by omega)) (fun v => step _ _ (by omega) (by omega) (by omega) (by omega)) (fun v => step _ _ (by omega) (by omega) (by omega) (by omega)) (fun v => step _ _ (by omega) (by omega) (by omega) (by omega)) d1
/-- who has an offset, of those that are on -/
theorem m_placedOn (R : zmr h b k r n on K) : o_Mesh_placedSet h b &&& on = o_Model_withOffset k r ∧ ∀ j, j < 32 → bt (o_Model_withOffset k r) j = true → bt on j = true ∧ j < n := by
  have h8 := m_8 R
  have e : o_Model_withOffset k r = q_mk (fun v => !(decide (k r v = -9))) n := by
    unfold o_Model_withOffset
    rw [(m_cnt R).2]
    refine q_congr n (fun i s hi => ?_)
    by_cases c : k r i = -9
    · rw [if_pos c, if_neg (by simp [c]), q_or_0]
    · rw [if_neg c, if_pos (by simp [c])]
  have off : ∀ v, v < n → ¬ k r v = -9 → bt on v = true := fun v hv q => by
    cases hb : bt on v
    · exact absurd ((R.2.2.1 v hv).2 hb).2.2.2.1 q
    · rfl
  rw [e]
  refine ⟨b_ext (fun j hj => ?_), fun j hj hb => ?_⟩
  · rw [b_and, q_placed_bt R.1.1 h8 hj, q_mk_bt hj (by omega)]
    by_cases hn : j < n
    · rw [decide_eq_true hn, Bool.true_and, Bool.true_and]
      cases hb : bt on j
      · have := ((R.2.2.1 j hn).2 hb).2.2.2.1
        rw [this]
        simp
      · rw [((R.2.2.1 j hn).1 hb).2.1, Bool.and_true]
    · rw [decide_eq_false hn, Bool.false_and, Bool.false_and, Bool.false_and]
  · rw [q_mk_bt hj (by omega), Bool.and_eq_true, decide_eq_true_eq, Bool.not_eq_true', decide_eq_false_iff_not] at hb
    exact ⟨off j hb.1 hb.2, hb.1⟩
end ZQ
section ZO
variable {K : Nat} {C M : zHp} {x y : Int64}
theorem q_runW (M : zHp) : ∀ c j, (zup (zrep (fun (i13_2 : Nat) (s13_2 : zHp) => (zup s13_2 56 i13_2 (-9))) (o_Model_copy M 54 56) 16) 56 24 0) c j = if c = 56 ∧ j = 24 then 0 else if c = 56 ∧ j < 16 then -9 else if c = 56 ∧ j < 25 then M 54 j else M c j := by
  intro c j
  by_cases q1 : c = 56 ∧ j = 24
  · obtain ⟨rfl, rfl⟩ := q1
    rw [zup_at, if_pos ⟨rfl, rfl⟩]
  · rw [zup_fr (by omega), if_neg q1, q_row (h := o_Model_copy M 54 56) (c := 56) (F := fun _ _ => -9) (G := fun _ => -9) 16 (fun _ _ _ _ => rfl), q_copyM (by omega) (by omega) (by decide)]
/-- a run with some alone -/
theorem m_withS {n : Nat} (R : zmr C 3 M 54 n (q_all n) K) {on : Int32} (hon : y_on n on) : o_Mesh_placedSet (o_Mesh_settle (o_Mesh_startWithOnly (o_Mesh_copyFrom C 27 3) 27 on) 27).2 27 &&& on = (o_Model_runWith M on).1 ∧ ∀ j, j < 32 → bt (o_Model_runWith M on).1 j = true → bt on j = true ∧ j < n := by
  have h8 := m_8 R
  have hk := q_runW M
  have R1 := m_copyM (r2 := 56) (Or.inl rfl) (Or.inr (Or.inr rfl)) (by decide) (m_copyC (b := 27) (o := 3) (Or.inr (Or.inr rfl)) (Or.inl rfl) (by decide) R)
  have cM := q_copyM (k := M) (r := 54) (r2 := 56) (by omega) (by omega) (by decide)
  have R2 := m_start R1 hon (k2 := (zup (zrep (fun (i13_2 : Nat) (s13_2 : zHp) => (zup s13_2 56 i13_2 (-9))) (o_Model_copy M 54 56) 16) 56 24 0)) (by rw [hk, if_neg (by omega), if_neg (by omega), if_neg (by omega), cM, if_neg (by omega)]) (fun v hv => by rw [hk, if_neg (by omega), if_neg (by omega), if_neg (by omega), cM, if_neg (by omega)]) (fun v hv => ⟨by rw [hk, if_neg (by omega), if_pos ⟨rfl, by omega⟩], by rw [hk, if_neg (by omega), if_pos ⟨rfl, by omega⟩], by rw [hk, if_neg (by omega), if_neg (by omega), if_pos ⟨rfl, by omega⟩, cM, if_pos ⟨rfl, by omega⟩]⟩) (by rw [hk, if_pos ⟨rfl, rfl⟩])
  have R3 := m_layNear (those := on) (Or.inr (Or.inr rfl)) R2
  have D3 := q_layNear (k := (zup (zrep (fun (i13_2 : Nat) (s13_2 : zHp) => (zup s13_2 56 i13_2 (-9))) (o_Model_copy M 54 56) 16) 56 24 0)) (r := 56) (those := on) (Or.inr (Or.inr rfl)) R2.1.2.1 h8
  obtain ⟨a1, -, -, -⟩ := m_run R3 D3 (Or.inr (Or.inr rfl)) (by omega)
  obtain ⟨p1, p2⟩ := m_placedOn a1
  unfold o_Model_runWith
  dsimp only
  exact ⟨p1, p2⟩
theorem m_with {n : Nat} (R : zmr C 3 M 54 n (q_all n) K) {on : Int32} (hon : y_on n on) : (o_Slots_placedIfOnly C on).1 = o_Int_bitCount (o_Model_runWith M on).1 := by
  rw [← (m_withS R hon).1]
  rfl
-- random offsets
def q_lcg (z : Int64) : Int64 := z * 6364136223846793005 + 1442695040888963407
theorem q_draws {p : Int32} (hp : zprd p) (z : Int64) : (Int64.toInt32 (zlshr z 33)) &&& (p - 1) = Int64.toInt32 (zlrem (zlshr z 33) (Int32.toInt64 p)) ∧ ∃ j, j < zcn p ∧ Int64.toInt32 (zlrem (zlshr z 33) (Int32.toInt64 p)) = nI j := by
  have hz : ∃ m, m < 2 ^ 31 ∧ zlshr z 33 = lN m := by
    refine ⟨z.toBitVec.toNat / 2 ^ 33, ?_, ?_⟩
    · have := z.toBitVec.isLt
      omega
    · unfold zlshr
      apply Int64.toBitVec_inj.mp
      apply BitVec.eq_of_toNat_eq
      show (z.toUInt64 >>> ((33 : Int32).toInt64.toUInt64 &&& Int64.toUInt64 63)).toBitVec.toNat = (BitVec.ofNat 64 (z.toBitVec.toNat / 2 ^ 33)).toNat
      rw [UInt64.toBitVec_shiftRight]
      show (z.toUInt64.toBitVec >>> (((33 : Int32).toInt64.toUInt64 &&& Int64.toUInt64 63).toBitVec % 64).toNat).toNat = _
      rw [show (((33 : Int32).toInt64.toUInt64 &&& Int64.toUInt64 63).toBitVec % 64).toNat = 33 by decide +kernel, BitVec.toNat_ushiftRight, Nat.shiftRight_eq_div_pow, BitVec.toNat_ofNat, Nat.mod_eq_of_lt]
      · rfl
      · have := z.toBitVec.isLt
        omega
  obtain ⟨m, hm, e⟩ := hz
  rw [e, lN_i]
  have hP := zprd_pos hp
  have er : zlrem (lN m) (Int32.toInt64 p) = lN (m % zcn p) := by
    rw [hP.2.2.1, zcn_nI (by omega), nI_l (by omega), q_zlrem (by omega) hP.1 (by omega)]
  rw [er, lN_i]
  refine ⟨?_, m % zcn p, Nat.mod_lt _ hP.1, rfl⟩
  rcases hp with rfl | rfl | rfl
  · exact pk_andN (n := m) (m := 2 - 1) (by omega) 1 (by decide)
  · exact pk_andN (n := m) (m := 4 - 1) (by omega) 2 (by decide)
  · exact pk_andN (n := m) (m := 8 - 1) (by omega) 3 (by decide)
/-- the offsets drawn, and the random state behind them -/
def q_dz (z : Int64) : Nat → Int64
  | 0 => z
  | i + 1 => q_lcg (q_dz z i)
def q_dv (M : zHp) (z : Int64) (v : Nat) : Int32 := Int64.toInt32 (zlrem (zlshr (q_dz z (v + 1)) 33) (Int32.toInt64 (M 53 v)))
theorem q_dz0 (z : Int64) : q_dz z 0 = z := rfl
def q_W0 (M : zHp) : zHp := fun c j => if c = 55 ∧ j = 24 then 0 else if c = 55 ∧ j < 16 then -9 else o_Model_copy M 54 55 c j
theorem q_W0_at (M : zHp) : ∀ c j, q_W0 M c j = if c = 55 ∧ j = 24 then 0 else if c = 55 ∧ j < 16 then -9 else o_Model_copy M 54 55 c j := fun _ _ => rfl
theorem q_dzS (z : Int64) (i : Nat) : q_dz z (i + 1) = q_dz z i * 6364136223846793005 + 1442695040888963407 := rfl
theorem zupg_at {g : zLg} {k : Nat} {v : Int64} : zupg g k v k = v := if_pos rfl
theorem zupg_ne {g : zLg} {k j : Nat} {v : Int64} (h : j ≠ k) : zupg g k v j = g j := if_neg h
def q_dF (C : zHp) (i : Nat) (s : zHp × zLg) : zHp × zLg := ((o_Mesh_place s.1 27 i (o_Mesh_wrapped (o_Mesh_copyFrom C 27 3) 27 i (Int64.toInt32 (zlshr ((zupg s.2 0 (((s.2 0) * 6364136223846793005) + 1442695040888963407)) 0) 33)))), (zupg s.2 0 (((s.2 0) * 6364136223846793005) + 1442695040888963407)))
theorem q_dF_1 (C : zHp) (i : Nat) (s : zHp × zLg) : (q_dF C i s).1 = o_Mesh_place s.1 27 i (o_Mesh_wrapped (o_Mesh_copyFrom C 27 3) 27 i (Int64.toInt32 (zlshr (q_lcg (s.2 0)) 33))) := by
  unfold q_dF q_lcg
  rw [zupg_at]
theorem q_dF_2 (C : zHp) (i : Nat) (s : zHp × zLg) : (q_dF C i s).2 = zupg s.2 0 (q_lcg (s.2 0)) := rfl
theorem q_drawF (C : zHp) (g : zLg) {n : Nat} (ec : o_Mesh_copyFrom C 27 3 27 0 = nI n) (h8 : n ≤ 8) : o_Slots_drawOffsets C g = zrep (q_dF C) ((o_Mesh_startWithOnly (o_Mesh_copyFrom C 27 3) 27 (q_all n)), g) n := by
  unfold o_Slots_drawOffsets q_dF
  rw [ec, zcn_nI (by omega)]
  rfl
def q_dI (C M : zHp) (g : zLg) (n i : Nat) (s : zHp × zLg) : Prop := (∀ c j, (c < 27 ∨ 38 < c) → s.1 c j = C c j) ∧ s.2 0 = q_dz (g 0) i ∧ (∀ j, j ≠ 0 → s.2 j = g j) ∧ ∃ W : zHp, zmr s.1 27 W 55 n (q_all n) 0 ∧ (∀ v, v < n → W 55 v = (if v < i then q_dv M (g 0) v else -9) ∧ W 55 (8 + v) = -9 ∧ W 55 (16 + v) = M 54 (16 + v)) ∧ W 55 24 = 0 ∧ (∀ v, v < n → W 53 v = M 53 v)
theorem m_drawC {n : Nat} (R : zmr C 3 M 54 n (q_all n) K) (g : zLg) : (∀ c j, (c < 27 ∨ 38 < c) → (o_Slots_drawOffsets C g).1 c j = C c j) ∧ (o_Slots_drawOffsets C g).2 0 = q_dz (g 0) n ∧ (∀ j, j ≠ 0 → (o_Slots_drawOffsets C g).2 j = g j) ∧ ∃ W, zmr (o_Slots_drawOffsets C g).1 27 W 55 n (q_all n) 0 ∧ (∀ v, v < n → W 55 v = q_dv M (g 0) v ∧ W 55 (8 + v) = -9 ∧ W 55 (16 + v) = M 54 (16 + v)) ∧ W 55 24 = 0 ∧ (∀ v, v < n → W 53 v = M 53 v) := by
  have h8 := m_8 R
  have R1 := m_copyM (r2 := 55) (Or.inl rfl) (Or.inr (Or.inl rfl)) (by decide) (m_copyC (b := 27) (o := 3) (Or.inr (Or.inr rfl)) (Or.inl rfl) (by decide) R)
  have cM := q_copyM (k := M) (r := 54) (r2 := 55) (by omega) (by omega) (by decide)
  have ec : o_Mesh_copyFrom C 27 3 27 0 = nI n := R1.1.1
  have hW0 := q_W0_at M
  generalize q_W0 M = W0 at hW0
  have R2 := m_start R1 (y_on_all h8) (k2 := W0) (by rw [hW0, if_neg (by omega), if_neg (by omega)]) (fun v hv => by rw [hW0, if_neg (by omega), if_neg (by omega)]) (fun v hv => ⟨by rw [hW0, if_neg (by omega), if_pos ⟨rfl, by omega⟩], by rw [hW0, if_neg (by omega), if_pos ⟨rfl, by omega⟩], by rw [hW0, if_neg (by omega), if_neg (by omega)]⟩) (by rw [hW0, if_pos ⟨rfl, rfl⟩])
  have fC : ∀ c j, (c < 27 ∨ 38 < c) → o_Mesh_startWithOnly (o_Mesh_copyFrom C 27 3) 27 (q_all n) c j = C c j := fun c j q => (by
    refine Eq.trans (b := o_Mesh_copyFrom C 27 3 c j) ?_ ?_
    · apply fr_Mesh_startWithOnly <;> omega
    · apply fr_Mesh_copyFrom <;> omega)
  rw [q_drawF C g ec h8]
  have base : q_dI C M g n 0 ((o_Mesh_startWithOnly (o_Mesh_copyFrom C 27 3) 27 (q_all n)), g) := by
    unfold q_dI
    dsimp only
    refine ⟨fC, rfl, fun j _ => rfl, W0, R2, fun v hv => ?_, ?_, fun v hv => ?_⟩
    · rw [hW0 55 v, hW0 55 (8 + v), hW0 55 (16 + v), if_neg (c := 55 = 55 ∧ v = 24) (by omega), if_pos (c := 55 = 55 ∧ v < 16) ⟨rfl, by omega⟩, if_neg (c := v < 0) (by omega), if_neg (c := 55 = 55 ∧ 8 + v = 24) (by omega), if_pos (c := 55 = 55 ∧ 8 + v < 16) ⟨rfl, by omega⟩, if_neg (c := 55 = 55 ∧ 16 + v = 24) (by omega), if_neg (c := 55 = 55 ∧ 16 + v < 16) (by omega), cM, if_pos (c := 55 = 55 ∧ 16 + v < 25) ⟨rfl, by omega⟩]
      exact ⟨rfl, rfl, rfl⟩
    · rw [hW0, if_pos ⟨rfl, rfl⟩]
    · rw [hW0, if_neg (by omega), if_neg (by omega), cM, if_neg (by omega)]
  have key := zrep_inv (f := q_dF C) (a := ((o_Mesh_startWithOnly (o_Mesh_copyFrom C 27 3) 27 (q_all n)), g)) (q_dI C M g n) n base
    (fun i s hi hI => by
      obtain ⟨I1, I2, I3, W, I4, I5, I6, I7⟩ := hI
      have hp := (R.1.2.2.2 i hi).2.1
      have ez : q_lcg (s.2 0) = q_dz (g 0) (i + 1) := by rw [I2]; rfl
      obtain ⟨d1, d2⟩ := q_draws hp (q_dz (g 0) (i + 1))
      have ew : o_Mesh_wrapped (o_Mesh_copyFrom C 27 3) 27 i (Int64.toInt32 (zlshr (q_lcg (s.2 0)) 33)) = q_dv M (g 0) i := by
        unfold o_Mesh_wrapped q_dv
        rw [ez, ← d1, (R1.1.2.2.2 i hi).1, cM, if_neg (by omega)]
      unfold q_dI
      rw [q_dF_1, q_dF_2, ew]
      have R3 := m_place I4 (Or.inr (Or.inl rfl)) hi (o := q_dv M (g 0) i) (by rw [I7 i hi]; exact Or.inr d2)
      refine ⟨fun c j q => ?_, (by rw [zupg_at]; exact ez), fun j hj => ?_, _, R3, fun v hv => ⟨?_, ?_, ?_⟩, ?_, fun v hv => ?_⟩
      · refine Eq.trans ?_ (I1 c j q)
        apply fr_Mesh_place <;> omega
      · rw [zupg_ne hj]
        exact I3 j hj
      · by_cases q : v = i
        · rw [q, zup_at, if_pos (by omega)]
        · rw [zup_fr (by omega), q_dropOldM, if_neg (by omega), (I5 v hv).1]
          by_cases q2 : v < i
          · rw [if_pos q2, if_pos (by omega)]
          · rw [if_neg q2, if_neg (by omega)]
      · rw [zup_fr (by omega), q_dropOldM, if_pos ⟨rfl, by omega, by omega⟩]
      · rw [zup_fr (by omega), q_dropOldM, if_neg (by omega)]
        exact (I5 v hv).2.2
      · rw [zup_fr (by omega), q_dropOldM, if_neg (by omega)]
        exact I6
      · rw [zup_fr (by omega), q_dropOldM, if_neg (by omega)]
        exact I7 v hv)
  obtain ⟨I1, I2, I3, W, I4, I5, I6, I7⟩ := key
  exact ⟨I1, I2, I3, W, I4, fun v hv => ⟨by rw [(I5 v hv).1, if_pos hv], (I5 v hv).2⟩, I6, I7⟩
end ZO
