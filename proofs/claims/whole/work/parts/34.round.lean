/-! A round. -/
theorem q_zb (b : Bool) : (!(decide (zb b = 0))) = b := by cases b <;> decide
theorem q_zbi {a b : Bool} (h : a = b) : zb a = zb b := by rw [h]
theorem q_zb1 (x : Int32) (i : Nat) (hi : i < 32) : (zsar x (nI i)) &&& 1 = zb (bt x i) := by
  rw [q_and1, q_sar0 hi]
  rfl
theorem q_all_iff {P : Nat → Bool} {a : Bool} : ∀ {n : Nat}, zrep (fun i (s : Bool) => s && P i) a n = true ↔ a = true ∧ ∀ i, i < n → P i = true
  | 0 => ⟨fun h => ⟨h, fun i hi => absurd hi (by omega)⟩, fun h => h.1⟩
  | n + 1 => by
    show (zrep (fun i (s : Bool) => s && P i) a n && P n) = true ↔ _
    rw [Bool.and_eq_true, q_all_iff (n := n)]
    refine ⟨fun h => ⟨h.1.1, fun i hi => ?_⟩, fun h => ⟨⟨h.1, fun i hi => h.2 i (by omega)⟩, h.2 n (by omega)⟩⟩
    rcases Nat.lt_or_ge i n with q | q
    · exact h.1.2 i q
    · obtain rfl : i = n := by omega
      exact h.2
theorem q_stop {σ : Type} {f : Nat → σ → σ} {a : σ} {n : Nat} (h : ∀ i s, n ≤ i → f i s = s) : ∀ m, zrep f a (n + m) = zrep f a n
  | 0 => rfl
  | m + 1 => by
    show f (n + m) (zrep f a (n + m)) = _
    rw [h _ _ (by omega), q_stop h m]
theorem q_ones_mk {P : Nat → Bool} {n : Nat} (h8 : n ≤ 8) : o_Model_ones (q_mk P n) = zrep (fun i (s : Int32) => s + zb (P i)) 0 n := by
  unfold o_Model_ones
  rw [q_congr (g := fun i (s : Int32) => s + zb (decide (i < n) && P i)) 8 (fun i s hi => by rw [q_zb1 _ _ (by omega), q_mk_bt (by omega) (by omega)])]
  have e := q_stop (f := fun i (s : Int32) => s + zb (decide (i < n) && P i)) (a := 0) (n := n) (fun i s hi => by
    rw [decide_eq_false (by omega), Bool.false_and]
    exact Int32.add_zero s) (8 - n)
  rw [show n + (8 - n) = 8 by omega] at e
  rw [e]
  exact q_congr n (fun i s hi => by rw [decide_eq_true hi, Bool.true_and])
theorem q_bc_mk {P : Nat → Bool} {n : Nat} (h8 : n ≤ 8) : o_Int_bitCount (q_mk P n) = zrep (fun i (s : Int32) => s + zb (P i)) 0 n := by
  rw [q_bc h8 (q_mk_small h8), q_ones_mk h8]
-- the reference's round
def q_first (k : zHp) (r n v : Nat) : Bool := zrep (fun (i : Nat) (s : Bool) => (s && (!(o_Model_has ((o_Model_unsettled k r) &&& (k 66 v)) (nI i)) || (!(o_Model_isAbove (nI i) (nI v) (k r 24)))))) (o_Model_has (o_Model_unsettled k r) (nI v)) n
def q_mv (k : zHp) (r n v : Nat) : Int32 := if q_first k r n v = true then o_Model_leastOf (o_Model_free k r v) else k r v
def q_mo (k : zHp) (r n v : Nat) : Int32 := if q_first k r n v = true then (if o_Model_leastOf (o_Model_free k r v) = -9 then -9 else k r v) else -9
def q_go (k : zHp) (r n : Nat) : Nat → Bool
  | 0 => false
  | v + 1 => q_go k r n v || (q_first k r n v && !(decide (o_Model_leastOf (o_Model_free k r v) = -9)))
def q_R1 (h : zHp) (r : Nat) : zHp := (zrep (fun (i13_2 : Nat) (s13_2 : zHp) => (if (zrep (fun (i48_7 : Nat) (s48_7 : Bool) => (s48_7 && (!(o_Model_has ((o_Model_unsettled h r) &&& (h 66 i13_2)) (nI i48_7)) || (!(o_Model_isAbove (nI i48_7) (nI i13_2) (s13_2 r 24)))))) (o_Model_has (o_Model_unsettled h r) (nI i13_2)) (zcn (h 51 1))) = true then (zup (zup (zup (zup (zup s13_2 67 i13_2 (s13_2 r i13_2)) 68 i13_2 (-9)) 67 i13_2 (o_Model_leastOf (o_Model_free s13_2 r i13_2))) 68 i13_2 (if (o_Model_leastOf (o_Model_free s13_2 r i13_2)) = (-9) then (-9) else (s13_2 r i13_2))) 51 10 (zb (!(decide ((s13_2 51 10) = 0)) || (!(decide ((o_Model_leastOf (o_Model_free s13_2 r i13_2)) = (-9))))))) else (zup (zup s13_2 67 i13_2 (s13_2 r i13_2)) 68 i13_2 (-9)))) (zup h 51 10 0) (zcn (h 51 1)))
def q_R2 (h : zHp) (r : Nat) : Int32 × zHp := (zrep (fun (i187_15 : Nat) (s187_15 : Int32 × zHp) => ((s187_15.1 + (zb (!(decide ((s187_15.2 r i187_15) = (s187_15.2 67 i187_15)))))), (zup (zup s187_15.2 r i187_15 (s187_15.2 67 i187_15)) r (8 + i187_15) (s187_15.2 68 i187_15)))) (0, q_R1 h r) (zcn (h 51 1)))
theorem q_roundOf (h : zHp) (r : Nat) : o_Model_roundOf h r = ((q_R2 h r).1, zup (q_R2 h r).2 r 24 ((q_R2 h r).2 r 24 + 1)) := rfl
theorem q_R1_at {k : zHp} {r n : Nat} (hr : r = 54 ∨ r = 55 ∨ r = 56) (hn : k 51 1 = nI n) (h8 : n ≤ 8) : ∀ c2 k2, q_R1 k r c2 k2 = if c2 = 67 ∧ k2 < n then q_mv k r n k2 else if c2 = 68 ∧ k2 < n then q_mo k r n k2 else if c2 = 51 ∧ k2 = 10 then zb (q_go k r n n) else k c2 k2 := by
  unfold q_R1
  rw [hn, zcn_nI (by omega)]
  refine zrep_inv (fun i (s : zHp) => ∀ c2 k2, s c2 k2 = if c2 = 67 ∧ k2 < i then q_mv k r n k2 else if c2 = 68 ∧ k2 < i then q_mo k r n k2 else if c2 = 51 ∧ k2 = 10 then zb (q_go k r n i) else k c2 k2) n ?_ ?_
  · intro c2 k2
    rw [if_neg (by omega), if_neg (by omega)]
    by_cases q : c2 = 51 ∧ k2 = 10
    · obtain ⟨rfl, rfl⟩ := q
      rw [zup_at, if_pos ⟨rfl, rfl⟩]
      rfl
    · rw [zup_fr (by omega), if_neg q]
  · intro i s hi hI c2 k2
    have e53 : s 53 = k 53 := funext fun j => by rw [hI, if_neg (by omega), if_neg (by omega), if_neg (by omega)]
    have e66 : s 66 = k 66 := funext fun j => by rw [hI, if_neg (by omega), if_neg (by omega), if_neg (by omega)]
    have er : s r = k r := funext fun j => by rw [hI, if_neg (by omega), if_neg (by omega), if_neg (by omega)]
    have e51 : s 51 1 = k 51 1 := by rw [hI, if_neg (by omega), if_neg (by omega), if_neg (by omega)]
    have ef : o_Model_free s r i = o_Model_free k r i := rd_Model_free e51 e53 e66 er
    rw [er, ef]
    by_cases cf : q_first k r n i = true
    · have cf2 := cf
      unfold q_first at cf2
      rw [if_pos cf2]
      by_cases q1 : c2 = 51 ∧ k2 = 10
      · obtain ⟨rfl, rfl⟩ := q1
        rw [zup_at, if_neg (by omega), if_neg (by omega), if_pos ⟨rfl, rfl⟩, hI 51 10, if_neg (by omega), if_neg (by omega), if_pos ⟨rfl, rfl⟩, q_zb]
        refine q_zbi ?_
        show _ = (q_go k r n i || (q_first k r n i && _))
        rw [cf, Bool.true_and]
      · rw [zup_fr (by omega)]
        by_cases q2 : c2 = 68 ∧ k2 = i
        · obtain ⟨rfl, rfl⟩ := q2
          rw [zup_at, if_neg (c := 68 = 67 ∧ k2 < k2 + 1) (by omega), if_pos (c := 68 = 68 ∧ k2 < k2 + 1) ⟨rfl, by omega⟩]
          unfold q_mo
          rw [if_pos cf]
        · rw [zup_fr (by omega)]
          by_cases q3 : c2 = 67 ∧ k2 = i
          · obtain ⟨rfl, rfl⟩ := q3
            rw [zup_at, if_pos ⟨rfl, by omega⟩]
            unfold q_mv
            rw [if_pos cf]
          · rw [zup_fr (by omega), zup_fr (by omega), zup_fr (by omega), hI]
            by_cases a1 : c2 = 67 ∧ k2 < i
            · rw [if_pos a1, if_pos ⟨a1.1, by omega⟩]
            · rw [if_neg a1, if_neg (c := c2 = 67 ∧ k2 < i + 1) (by omega)]
              by_cases a2 : c2 = 68 ∧ k2 < i
              · rw [if_pos a2, if_pos ⟨a2.1, by omega⟩]
              · rw [if_neg a2, if_neg (c := c2 = 68 ∧ k2 < i + 1) (by omega), if_neg q1, if_neg q1]
    · have cf2 := cf
      unfold q_first at cf2
      rw [if_neg cf2]
      have eg : q_go k r n (i + 1) = q_go k r n i := by
        show (q_go k r n i || (q_first k r n i && _)) = _
        rw [show q_first k r n i = false by simpa using cf, Bool.false_and, Bool.or_false]
      rw [eg]
      by_cases q2 : c2 = 68 ∧ k2 = i
      · obtain ⟨rfl, rfl⟩ := q2
        rw [zup_at, if_neg (by omega), if_pos ⟨rfl, by omega⟩]
        unfold q_mo
        rw [if_neg cf]
      · rw [zup_fr (by omega)]
        by_cases q3 : c2 = 67 ∧ k2 = i
        · obtain ⟨rfl, rfl⟩ := q3
          rw [zup_at, if_pos ⟨rfl, by omega⟩]
          unfold q_mv
          rw [if_neg cf]
        · rw [zup_fr (by omega), hI]
          by_cases a1 : c2 = 67 ∧ k2 < i
          · rw [if_pos a1, if_pos ⟨a1.1, by omega⟩]
          · rw [if_neg a1, if_neg (c := c2 = 67 ∧ k2 < i + 1) (by omega)]
            by_cases a2 : c2 = 68 ∧ k2 < i
            · rw [if_pos a2, if_pos ⟨a2.1, by omega⟩]
            · rw [if_neg a2, if_neg (c := c2 = 68 ∧ k2 < i + 1) (by omega)]
theorem q_R2_at {k : zHp} {r n : Nat} (hr : r = 54 ∨ r = 55 ∨ r = 56) (hn : k 51 1 = nI n) (h8 : n ≤ 8) : (q_R2 k r).1 = zrep (fun i (s : Int32) => s + zb (!(decide (k r i = q_mv k r n i)))) 0 n ∧ ∀ c2 k2, (q_R2 k r).2 c2 k2 = if c2 = r ∧ k2 < n then q_mv k r n k2 else if c2 = r ∧ 8 ≤ k2 ∧ k2 < 8 + n then q_mo k r n (k2 - 8) else q_R1 k r c2 k2 := by
  unfold q_R2
  rw [hn, zcn_nI (by omega)]
  have e1 := q_R1_at hr hn h8
  refine zrep_inv (fun i (s : Int32 × zHp) => s.1 = zrep (fun i (s : Int32) => s + zb (!(decide (k r i = q_mv k r n i)))) 0 i ∧ ∀ c2 k2, s.2 c2 k2 = if c2 = r ∧ k2 < i then q_mv k r n k2 else if c2 = r ∧ 8 ≤ k2 ∧ k2 < 8 + i then q_mo k r n (k2 - 8) else q_R1 k r c2 k2) n ?_ ?_
  · refine ⟨rfl, fun c2 k2 => ?_⟩
    rw [if_neg (by omega), if_neg (by omega)]
  · intro i s hi hI
    obtain ⟨hI1, hI2⟩ := hI
    have r1 : s.2 r i = k r i := by rw [hI2, if_neg (by omega), if_neg (by omega), e1, if_neg (by omega), if_neg (by omega), if_neg (by omega)]
    have r2 : s.2 67 i = q_mv k r n i := by rw [hI2, if_neg (by omega), if_neg (by omega), e1, if_pos ⟨rfl, hi⟩]
    have r3 : s.2 68 i = q_mo k r n i := by rw [hI2, if_neg (by omega), if_neg (by omega), e1, if_neg (by omega), if_pos ⟨rfl, hi⟩]
    rw [r1, r2, r3, hI1]
    refine ⟨rfl, fun c2 k2 => ?_⟩
    dsimp only
    by_cases q1 : c2 = r ∧ k2 = 8 + i
    · obtain ⟨rfl, rfl⟩ := q1
      rw [zup_at, if_neg (by omega), if_pos ⟨rfl, by omega, by omega⟩, show 8 + i - 8 = i by omega]
    · rw [zup_fr (by omega)]
      by_cases q2 : c2 = r ∧ k2 = i
      · obtain ⟨rfl, rfl⟩ := q2
        rw [zup_at, if_pos ⟨rfl, by omega⟩]
      · rw [zup_fr (by omega), hI2]
        by_cases a1 : c2 = r ∧ k2 < i
        · rw [if_pos a1, if_pos ⟨a1.1, by omega⟩]
        · rw [if_neg a1, if_neg (c := c2 = r ∧ k2 < i + 1) (by omega)]
          by_cases a2 : c2 = r ∧ 8 ≤ k2 ∧ k2 < 8 + i
          · rw [if_pos a2, if_pos ⟨a2.1, a2.2.1, by omega⟩]
          · rw [if_neg a2, if_neg (c := c2 = r ∧ 8 ≤ k2 ∧ k2 < 8 + (i + 1)) (by omega)]
/-- the row behind a round -/
theorem q_round_at {k : zHp} {r n : Nat} (hr : r = 54 ∨ r = 55 ∨ r = 56) (hn : k 51 1 = nI n) (h8 : n ≤ 8) : (o_Model_roundOf k r).1 = zrep (fun i (s : Int32) => s + zb (!(decide (k r i = q_mv k r n i)))) 0 n ∧ (∀ v, v < n → (o_Model_roundOf k r).2 r v = q_mv k r n v ∧ (o_Model_roundOf k r).2 r (8 + v) = q_mo k r n v) ∧ (o_Model_roundOf k r).2 r 24 = k r 24 + 1 ∧ (∀ j, 16 ≤ j → j < 24 → (o_Model_roundOf k r).2 r j = k r j) ∧ (o_Model_roundOf k r).2 51 10 = zb (q_go k r n n) := by
  have e1 := q_R1_at hr hn h8
  obtain ⟨e2, e3⟩ := q_R2_at hr hn h8
  rw [q_roundOf]
  dsimp only
  refine ⟨e2, fun v hv => ⟨?_, ?_⟩, ?_, fun j h1 h2 => ?_, ?_⟩
  · rw [zup_fr (by omega), e3, if_pos ⟨rfl, hv⟩]
  · rw [zup_fr (by omega), e3, if_neg (by omega), if_pos ⟨rfl, by omega, by omega⟩, show 8 + v - 8 = v by omega]
  · rw [zup_at, e3, if_neg (by omega), if_neg (by omega), e1, if_neg (by omega), if_neg (by omega), if_neg (by omega)]
  · rw [zup_fr (by omega), e3, if_neg (by omega), if_neg (by omega), e1, if_neg (by omega), if_neg (by omega), if_neg (by omega)]
  · rw [zup_fr (by omega), e3, if_neg (by omega), if_neg (by omega), e1, if_neg (by omega), if_neg (by omega), if_pos ⟨rfl, rfl⟩]
-- the class' round
def q_A1 (h : zHp) (b : Nat) : Int32 × zHp := (zrep (fun (i9_1 : Nat) (s9_1 : Int32 × zHp) => ((if (o_Slots_has (o_Mesh_unsettledSet h b) (nI i9_1)) = true then (if ((s9_1.2 (b + 8) i9_1) &&& (o_Mesh_unsettledSet h b)) = 0 then (s9_1.1 ||| (zshl 1 (nI i9_1))) else s9_1.1) else s9_1.1), (if (o_Slots_has (o_Mesh_unsettledSet h b) (nI i9_1)) = true then (if ((s9_1.2 (b + 8) i9_1) &&& (o_Mesh_unsettledSet h b)) = 0 then (zup s9_1.2 (b + 11) i9_1 (o_Slots_lowestOrNone (o_Mesh_freeOffsets s9_1.2 b i9_1))) else s9_1.2) else s9_1.2))) (0, h) (zcn (h b 0)))
def q_A2 (h : zHp) (b : Nat) (moving : Int32) : Int32 × zHp := (zrep (fun (i4_1 : Nat) (s4_1 : Int32 × zHp) => ((if (o_Slots_has moving (nI i4_1)) = true then (if (h (b + 11) i4_1) = (s4_1.2 (b + 3) i4_1) then s4_1.1 else (s4_1.1 ||| (zshl 1 (nI i4_1)))) else s4_1.1), (if (o_Slots_has moving (nI i4_1)) = true then (if (h (b + 11) i4_1) = (s4_1.2 (b + 3) i4_1) then (zup s4_1.2 (b + 4) i4_1 (-9)) else (zup (zup (zup s4_1.2 (b + 4) i4_1 (-9)) (b + 4) i4_1 (if (h (b + 11) i4_1) = (-9) then (-9) else (s4_1.2 (b + 3) i4_1))) (b + 3) i4_1 (h (b + 11) i4_1))) else (zup s4_1.2 (b + 4) i4_1 (-9))))) (0, h) (zcn (h b 0)))
theorem q_moveTo (h : zHp) (b : Nat) (moving : Int32) : o_Mesh_moveToNext h b moving = ((q_A2 h b moving).1, o_Mesh_markTicks (q_A2 h b moving).2 b) := rfl
theorem q_advance (h : zHp) (b : Nat) : o_Mesh_advance h b = ((q_A2 (q_A1 h b).2 b (q_A1 h b).1).1, o_Mesh_rank (zup (o_Mesh_markTicks (q_A2 (q_A1 h b).2 b (q_A1 h b).1).2 b) b 1 ((q_A1 h b).2 b 1 + 1)) b) := rfl
def q_cf (h : zHp) (b v : Nat) : Bool := bt (o_Mesh_unsettledSet h b) v && decide ((h (b + 8) v &&& o_Mesh_unsettledSet h b) = 0)
theorem q_A1_at {h : zHp} {b n : Nat} (hn : h b 0 = nI n) (h8 : n ≤ 8) : (q_A1 h b).1 = q_mk (q_cf h b) n ∧ ∀ c2 k2, (q_A1 h b).2 c2 k2 = if c2 = b + 11 ∧ k2 < n ∧ q_cf h b k2 = true then o_Slots_lowestOrNone (o_Mesh_freeOffsets h b k2) else h c2 k2 := by
  unfold q_A1
  rw [hn, zcn_nI (by omega)]
  refine zrep_inv (fun i (s : Int32 × zHp) => s.1 = q_mk (q_cf h b) i ∧ ∀ c2 k2, s.2 c2 k2 = if c2 = b + 11 ∧ k2 < i ∧ q_cf h b k2 = true then o_Slots_lowestOrNone (o_Mesh_freeOffsets h b k2) else h c2 k2) n ?_ ?_
  · refine ⟨rfl, fun c2 k2 => ?_⟩
    rw [if_neg (by omega)]
  · intro i s hi hI
    obtain ⟨hI1, hI2⟩ := hI
    have row : ∀ c, c ≠ b + 11 → s.2 c = h c := fun c hc => funext fun j => by rw [hI2, if_neg (by omega)]
    have e8 : s.2 (b + 8) i = h (b + 8) i := by rw [row _ (by omega)]
    have e0 : s.2 b 0 = h b 0 := by rw [row _ (by omega)]
    have ef : o_Mesh_freeOffsets s.2 b i = o_Mesh_freeOffsets h b i := rd_Mesh_freeOffsets (row _ (by omega)) (row _ (by omega)) (row _ (by omega)) (row _ (by omega)) e0
    rw [q_has (by omega), e8, ef, hI1]
    have emk : q_mk (q_cf h b) (i + 1) = if q_cf h b i = true then q_mk (q_cf h b) i ||| zshl 1 (nI i) else q_mk (q_cf h b) i := rfl
    rw [emk]
    have keep : ¬ q_cf h b i = true → ∀ c2 k2, s.2 c2 k2 = if c2 = b + 11 ∧ k2 < i + 1 ∧ q_cf h b k2 = true then o_Slots_lowestOrNone (o_Mesh_freeOffsets h b k2) else h c2 k2 := fun cf c2 k2 => by
      rw [hI2]
      by_cases a1 : c2 = b + 11 ∧ k2 < i ∧ q_cf h b k2 = true
      · rw [if_pos a1, if_pos ⟨a1.1, by omega, a1.2.2⟩]
      · rw [if_neg a1, if_neg]
        intro q
        rcases Nat.lt_or_ge k2 i with z | z
        · exact a1 ⟨q.1, z, q.2.2⟩
        · obtain rfl : k2 = i := by omega
          exact cf q.2.2
    by_cases c1 : bt (o_Mesh_unsettledSet h b) i = true
    · by_cases c2 : (h (b + 8) i &&& o_Mesh_unsettledSet h b) = 0
      · have cf : q_cf h b i = true := by unfold q_cf; rw [c1, decide_eq_true c2]; rfl
        rw [if_pos c1, if_pos c2, if_pos c1, if_pos c2, if_pos cf]
        refine ⟨rfl, fun c2 k2 => ?_⟩
        dsimp only
        by_cases q1 : c2 = b + 11 ∧ k2 = i
        · obtain ⟨rfl, rfl⟩ := q1
          rw [zup_at, if_pos ⟨rfl, by omega, cf⟩]
        · rw [zup_fr (by omega), hI2]
          by_cases a1 : c2 = b + 11 ∧ k2 < i ∧ q_cf h b k2 = true
          · rw [if_pos a1, if_pos ⟨a1.1, by omega, a1.2.2⟩]
          · rw [if_neg a1, if_neg]
            intro q
            exact a1 ⟨q.1, by omega, q.2.2⟩
      · have cf : ¬ q_cf h b i = true := by unfold q_cf; rw [decide_eq_false c2, Bool.and_false]; decide
        rw [if_pos c1, if_neg c2, if_pos c1, if_neg c2, if_neg cf]
        exact ⟨rfl, keep cf⟩
    · have cf : ¬ q_cf h b i = true := by unfold q_cf; rw [show bt (o_Mesh_unsettledSet h b) i = false by simpa using c1]; simp
      rw [if_neg c1, if_neg c1, if_neg cf]
      exact ⟨rfl, keep cf⟩
theorem q_A2_at {h : zHp} {b n : Nat} {mv : Int32} (hn : h b 0 = nI n) (h8 : n ≤ 8) : (q_A2 h b mv).1 = q_mk (fun v => bt mv v && !(decide (h (b + 11) v = h (b + 3) v))) n ∧ ∀ c2 k2, (q_A2 h b mv).2 c2 k2 = if c2 = b + 3 ∧ k2 < n then (if bt mv k2 = true then h (b + 11) k2 else h (b + 3) k2) else if c2 = b + 4 ∧ k2 < n then (if bt mv k2 = true ∧ ¬ h (b + 11) k2 = h (b + 3) k2 then (if h (b + 11) k2 = -9 then -9 else h (b + 3) k2) else -9) else h c2 k2 := by
  unfold q_A2
  rw [hn, zcn_nI (by omega)]
  refine zrep_inv (fun i (s : Int32 × zHp) => s.1 = q_mk (fun v => bt mv v && !(decide (h (b + 11) v = h (b + 3) v))) i ∧ ∀ c2 k2, s.2 c2 k2 = if c2 = b + 3 ∧ k2 < i then (if bt mv k2 = true then h (b + 11) k2 else h (b + 3) k2) else if c2 = b + 4 ∧ k2 < i then (if bt mv k2 = true ∧ ¬ h (b + 11) k2 = h (b + 3) k2 then (if h (b + 11) k2 = -9 then -9 else h (b + 3) k2) else -9) else h c2 k2) n ?_ ?_
  · refine ⟨rfl, fun c2 k2 => ?_⟩
    rw [if_neg (by omega), if_neg (by omega)]
  · intro i s hi hI
    obtain ⟨hI1, hI2⟩ := hI
    have e3 : s.2 (b + 3) i = h (b + 3) i := by rw [hI2, if_neg (by omega), if_neg (by omega)]
    rw [q_has (by omega), e3, hI1]
    have emk : q_mk (fun v => bt mv v && !(decide (h (b + 11) v = h (b + 3) v))) (i + 1) = if (bt mv i && !(decide (h (b + 11) i = h (b + 3) i))) = true then q_mk (fun v => bt mv v && !(decide (h (b + 11) v = h (b + 3) v))) i ||| zshl 1 (nI i) else q_mk (fun v => bt mv v && !(decide (h (b + 11) v = h (b + 3) v))) i := rfl
    rw [emk]
    have rest : ∀ c2 k2, ¬ (c2 = b + 3 ∧ k2 = i) → ¬ (c2 = b + 4 ∧ k2 = i) → s.2 c2 k2 = if c2 = b + 3 ∧ k2 < i + 1 then (if bt mv k2 = true then h (b + 11) k2 else h (b + 3) k2) else if c2 = b + 4 ∧ k2 < i + 1 then (if bt mv k2 = true ∧ ¬ h (b + 11) k2 = h (b + 3) k2 then (if h (b + 11) k2 = -9 then -9 else h (b + 3) k2) else -9) else h c2 k2 := fun c2 k2 n1 n2 => by
      rw [hI2]
      by_cases a1 : c2 = b + 3 ∧ k2 < i
      · rw [if_pos a1, if_pos (c := c2 = b + 3 ∧ k2 < i + 1) ⟨a1.1, by omega⟩]
      · rw [if_neg a1, if_neg (c := c2 = b + 3 ∧ k2 < i + 1) (by omega)]
        by_cases a2 : c2 = b + 4 ∧ k2 < i
        · rw [if_pos a2, if_pos (c := c2 = b + 4 ∧ k2 < i + 1) ⟨a2.1, by omega⟩]
        · rw [if_neg a2, if_neg (c := c2 = b + 4 ∧ k2 < i + 1) (by omega)]
    by_cases c1 : bt mv i = true
    · by_cases c2 : h (b + 11) i = h (b + 3) i
      · rw [if_pos c1, if_pos c2, if_pos c1, if_pos c2, if_neg (by rw [decide_eq_true c2]; simp)]
        refine ⟨rfl, fun c3 k3 => ?_⟩
        dsimp only
        by_cases q1 : c3 = b + 4 ∧ k3 = i
        · obtain ⟨rfl, rfl⟩ := q1
          rw [zup_at, if_neg (by omega), if_pos ⟨rfl, by omega⟩, if_neg (fun q => q.2 c2)]
        · rw [zup_fr (by omega)]
          by_cases q2 : c3 = b + 3 ∧ k3 = i
          · obtain ⟨rfl, rfl⟩ := q2
            rw [e3, if_pos ⟨rfl, by omega⟩, if_pos c1, c2]
          · exact rest c3 k3 q2 q1
      · rw [if_pos c1, if_neg c2, if_pos c1, if_neg c2, if_pos (c := (bt mv i && !(decide (h (b + 11) i = h (b + 3) i))) = true) (by rw [decide_eq_false c2, c1]; rfl)]
        refine ⟨rfl, fun c3 k3 => ?_⟩
        dsimp only
        by_cases q2 : c3 = b + 3 ∧ k3 = i
        · obtain ⟨rfl, rfl⟩ := q2
          rw [zup_at, if_pos ⟨rfl, by omega⟩, if_pos c1]
        · rw [zup_fr (by omega)]
          by_cases q1 : c3 = b + 4 ∧ k3 = i
          · obtain ⟨rfl, rfl⟩ := q1
            rw [zup_at, if_neg (c := b + 4 = b + 3 ∧ k3 < k3 + 1) (by omega), if_pos (c := b + 4 = b + 4 ∧ k3 < k3 + 1) ⟨rfl, by omega⟩, if_pos (c := bt mv k3 = true ∧ ¬ h (b + 11) k3 = h (b + 3) k3) ⟨c1, c2⟩]
          · rw [zup_fr (by omega), zup_fr (by omega)]
            exact rest c3 k3 q2 q1
    · rw [if_neg c1, if_neg c1, if_neg (by rw [show bt mv i = false by simpa using c1]; simp)]
      refine ⟨rfl, fun c3 k3 => ?_⟩
      dsimp only
      by_cases q1 : c3 = b + 4 ∧ k3 = i
      · obtain ⟨rfl, rfl⟩ := q1
        rw [zup_at, if_neg (by omega), if_pos ⟨rfl, by omega⟩, if_neg (fun q => c1 q.1)]
      · rw [zup_fr (by omega)]
        by_cases q2 : c3 = b + 3 ∧ k3 = i
        · obtain ⟨rfl, rfl⟩ := q2
          rw [e3, if_pos ⟨rfl, by omega⟩, if_neg c1]
        · exact rest c3 k3 q2 q1
