/-! Numbers: what both programs compute on small sets and offsets. -/
theorem q_small {x : Int32} {n : Nat} (hn : n ≤ 8) (h : ∀ i, n ≤ i → i < 32 → bt x i = false) : ∃ m, m < 2 ^ n ∧ x = nI m := by
  refine ⟨x.toBitVec.toNat, ?_, ?_⟩
  · refine Nat.lt_pow_two_of_testBit _ (fun i hi => ?_)
    rcases Nat.lt_or_ge i 32 with q | q
    · exact h i hi q
    · have hx : x.toBitVec.toNat < 2 ^ 32 := x.toBitVec.isLt
      exact Nat.testBit_lt_two_pow (Nat.lt_of_lt_of_le hx (Nat.pow_le_pow_right (by decide) q))
  · apply Int32.toBitVec_inj.mp
    show x.toBitVec = BitVec.ofNat 32 x.toBitVec.toNat
    rw [BitVec.ofNat_toNat, BitVec.setWidth_eq]
theorem q_small8 {x : Int32} {n : Nat} (hn : n ≤ 8) (h : ∀ i, n ≤ i → i < 32 → bt x i = false) : ∃ m, m < 256 ∧ x = nI m := by
  obtain ⟨m, h1, h2⟩ := q_small hn h
  exact ⟨m, Nat.lt_of_lt_of_le h1 (Nat.pow_le_pow_right (by decide) hn), h2⟩
theorem q_mk_small {P : Nat → Bool} {n : Nat} (hn : n ≤ 8) : ∀ i, n ≤ i → i < 32 → bt (q_mk P n) i = false := fun i h1 h2 => by
  rw [q_mk_bt h2 (by omega), decide_eq_false (by omega), Bool.false_and]
theorem q_bc256 : ∀ x, x < 256 → o_Int_bitCount (nI x) = o_Model_ones (nI x) := by decide +kernel
theorem q_lo256 : ∀ x, x < 256 → o_Slots_lowestOrNone (nI x) = o_Model_leastOf (nI x) := by decide +kernel
theorem q_le256 : ∀ x, x < 256 → (x = 0 ∧ o_Model_leastOf (nI x) = -9) ∨ (∃ k, k < 8 ∧ o_Model_leastOf (nI x) = nI k ∧ bt (nI x) k = true ∧ o_Int_lowestOneBit (nI x) = zshl 1 (nI k) ∧ ∀ j, j < k → bt (nI x) j = false) := by decide +kernel
theorem q_bc {x : Int32} {n : Nat} (hn : n ≤ 8) (h : ∀ i, n ≤ i → i < 32 → bt x i = false) : o_Int_bitCount x = o_Model_ones x := by
  obtain ⟨m, h1, rfl⟩ := q_small8 hn h
  exact q_bc256 m h1
theorem q_lo {x : Int32} {n : Nat} (hn : n ≤ 8) (h : ∀ i, n ≤ i → i < 32 → bt x i = false) : o_Slots_lowestOrNone x = o_Model_leastOf x := by
  obtain ⟨m, h1, rfl⟩ := q_small8 hn h
  exact q_lo256 m h1
theorem q_least {x : Int32} {n : Nat} (hn : n ≤ 8) (h : ∀ i, n ≤ i → i < 32 → bt x i = false) : (x = 0 ∧ o_Model_leastOf x = -9) ∨ (∃ k, k < n ∧ o_Model_leastOf x = nI k ∧ bt x k = true ∧ o_Int_lowestOneBit x = zshl 1 (nI k) ∧ ∀ j, j < k → bt x j = false) := by
  obtain ⟨m, h1, rfl⟩ := q_small8 hn h
  rcases q_le256 m h1 with ⟨e1, e2⟩ | ⟨k, hk, e1, e2, e3, e4⟩
  · subst e1
    exact Or.inl ⟨rfl, e2⟩
  · refine Or.inr ⟨k, ?_, e1, e2, e3, e4⟩
    rcases Nat.lt_or_ge k n with q | q
    · exact q
    · rw [h k q (by omega)] at e2
      cases e2
-- periods, offsets, ticks
def zpat (p : Int32) : Int32 := if p = 2 then 85 else if p = 4 then 17 else 1
def zprd (p : Int32) : Prop := p = 2 ∨ p = 4 ∨ p = 8
def zoff (p o : Int32) : Prop := o = -9 ∨ ∃ j, j < zcn p ∧ o = nI j
theorem zprd_pos {p : Int32} (h : zprd p) : 0 < zcn p ∧ zcn p ≤ 8 ∧ p = nI (zcn p) ∧ ¬ p = 0 := by
  rcases h with rfl | rfl | rfl <;> decide
theorem q_tk2 : ∀ j, j < 2 → zshl (zpat 2) (nI j) = o_Model_ticksOf (nI j) 2 := by decide +kernel
theorem q_tk4 : ∀ j, j < 4 → zshl (zpat 4) (nI j) = o_Model_ticksOf (nI j) 4 := by decide +kernel
theorem q_tk8 : ∀ j, j < 8 → zshl (zpat 8) (nI j) = o_Model_ticksOf (nI j) 8 := by decide +kernel
theorem q_tk {p : Int32} (h : zprd p) {j : Nat} (hj : j < zcn p) : zshl (zpat p) (nI j) = o_Model_ticksOf (nI j) p := by
  rcases h with rfl | rfl | rfl
  · exact q_tk2 j hj
  · exact q_tk4 j hj
  · exact q_tk8 j hj
theorem q_tkN (p : Int32) : o_Model_ticksOf (-9) p = 0 := by
  unfold o_Model_ticksOf
  rw [q_congr (g := fun _ s => s) 8 (fun i s _ => by rw [if_pos rfl, q_or_0])]
  rfl
theorem q_ticksAt {h : zHp} {b v : Nat} {p o : Int32} (hp : zprd p) (h5 : h (b + 5) v = zpat p) (ho : zoff p o) : o_Mesh_ticksAt h b v o = o_Model_ticksOf o p := by
  unfold o_Mesh_ticksAt
  rcases ho with rfl | ⟨j, hj, rfl⟩
  · rw [if_pos rfl, q_tkN]
  · have h9 : ¬ nI j = -9 := fun e => nI_pos (n := j) (by have := (zprd_pos hp).2.1; omega) (by rw [e]; decide)
    rw [if_neg h9, h5, q_tk hp hj]
theorem q_nI_ne9 {j : Nat} (h : j < 2 ^ 31) : ¬ nI j = -9 := fun e => nI_pos h (by rw [e]; decide)
/-- ticks lie in the cycle -/
theorem q_tk_small {o p : Int32} : ∀ i, 8 ≤ i → i < 32 → bt (o_Model_ticksOf o p) i = false := by
  intro i h1 h2
  unfold o_Model_ticksOf
  refine zrep_inv (fun _ (s : Int32) => bt s i = false) 8 (b_0 i) (fun k s hk hI => ?_)
  rw [b_or, hI, Bool.false_or]
  repeat' split
  · exact b_0 i
  · rw [q_one (by omega) h2]
    exact decide_eq_false (by omega)
  · exact b_0 i
-- shifting an offset
theorem q_wr2 : ∀ j, j < 2 → ∀ d, d < 8 → (nI j + nI d) &&& (2 - 1) = zrem (nI j + nI d) 2 ∧ zrem (nI j + nI d) 2 = nI ((j + d) % 2) := by decide +kernel
theorem q_wr4 : ∀ j, j < 4 → ∀ d, d < 8 → (nI j + nI d) &&& (4 - 1) = zrem (nI j + nI d) 4 ∧ zrem (nI j + nI d) 4 = nI ((j + d) % 4) := by decide +kernel
theorem q_wr8 : ∀ j, j < 8 → ∀ d, d < 8 → (nI j + nI d) &&& (8 - 1) = zrem (nI j + nI d) 8 ∧ zrem (nI j + nI d) 8 = nI ((j + d) % 8) := by decide +kernel
theorem q_wrap {p : Int32} (h : zprd p) {j d : Nat} (hj : j < zcn p) (hd : d < 8) : (nI j + nI d) &&& (p - 1) = zrem (nI j + nI d) p ∧ zrem (nI j + nI d) p = nI ((j + d) % zcn p) := by
  rcases h with rfl | rfl | rfl
  · exact q_wr2 j hj d hd
  · exact q_wr4 j hj d hd
  · exact q_wr8 j hj d hd
-- priorities
theorem q_draw {v m : Nat} (hv : v < 8) (hm : m < 2 ^ 20) : o_Model_drawOf (nI v) (nI m) = nI (((7 + 37 * v + 101 * m) % 1009) * ((7 + 37 * v + 101 * m) % 1009) * ((7 + 37 * v + 101 * m) % 1009) % 1009) := by
  have e1 : zrem (nI m) 1009 = nI (m % 1009) := zn_rem rfl rfl (by omega) (by decide) (by decide)
  have e2 : (7 : Int32) + 37 * nI v + 101 * zrem (nI m) 1009 = nI (7 + 37 * v + 101 * (m % 1009)) := by
    rw [e1]
    exact zn_add (zn_add rfl (zn_mul rfl rfl)) (zn_mul rfl rfl)
  have h3 : m % 1009 < 1009 := Nat.mod_lt _ (by decide)
  have e3 : zrem (7 + 37 * nI v + 101 * zrem (nI m) 1009) 1009 = nI ((7 + 37 * v + 101 * m) % 1009) := by
    rw [zn_rem (y := 1009) (b := 1009) e2 rfl (by omega) (by decide) (by decide)]
    congr 1
    omega
  generalize hx : (7 + 37 * v + 101 * m) % 1009 = x at e3 ⊢
  have hx2 : x < 1009 := by rw [← hx]; exact Nat.mod_lt _ (by decide)
  have hxx : x * x < 1009 * 1009 := Nat.mul_lt_mul'' hx2 hx2
  have hy : x * x % 1009 < 1009 := Nat.mod_lt _ (by decide)
  have hyx : x * x % 1009 * x < 1009 * 1009 := Nat.mul_lt_mul'' hy hx2
  unfold o_Model_drawOf
  rw [e3, zn_rem (y := 1009) (b := 1009) (zn_mul rfl rfl) rfl (by omega) (by decide) (by decide), zn_rem (y := 1009) (b := 1009) (zn_mul rfl rfl) rfl (by omega) (by decide) (by decide)]
  congr 1
  rw [Nat.mul_mod, Nat.mod_mod, ← Nat.mul_mod]
theorem q_zlrem {a b : Nat} (ha : a < 2 ^ 63) (h0 : 0 < b) (hb : b < 2 ^ 63) : zlrem (lN a) (lN b) = lN (a % b) := pk_lRem ha h0 hb
theorem q_prio {h : zHp} {b v m : Nat} (hv : v < 8) (hm : m < 2 ^ 20) (hr : h b 1 = nI m) : o_Mesh_priority h b (nI v) = o_Model_drawOf (nI v) (nI m) := by
  rw [q_draw hv hm]
  unfold o_Mesh_priority
  rw [hr, nI_l (n := v) (by omega), nI_l (n := m) (by omega)]
  have e2 : (7 : Int64) + 37 * lN v + 101 * lN m = lN (7 + 37 * v + 101 * m) := by
    rw [show (7 : Int64) = lN 7 from rfl, show (37 : Int64) = lN 37 from rfl, show (101 : Int64) = lN 101 from rfl, lN_mul, lN_mul, lN_add, lN_add]
  have e3 : zlrem (7 + 37 * lN v + 101 * lN m) 1009 = lN ((7 + 37 * v + 101 * m) % 1009) := by
    rw [e2, show (1009 : Int64) = lN 1009 from rfl, q_zlrem (by omega) (by decide) (by decide)]
  generalize hx : (7 + 37 * v + 101 * m) % 1009 = x at e3 ⊢
  have hx2 : x < 1009 := by rw [← hx]; exact Nat.mod_lt _ (by decide)
  have hxx : x * x < 1009 * 1009 := Nat.mul_lt_mul'' hx2 hx2
  have hxxx : x * x * x < 1009 * 1009 * 1009 := Nat.mul_lt_mul'' hxx hx2
  rw [e3, lN_mul, lN_mul, show (1009 : Int64) = lN 1009 from rfl, q_zlrem (by omega) (by decide) (by decide), lN_i]
-- all stations
def q_all (n : Nat) : Int32 := zshl 1 (nI n) - 1
theorem q_allN : ∀ n, n ≤ 8 → q_all n = nI (2 ^ n - 1) := by decide +kernel
theorem q_all_bt8 : ∀ n, n ≤ 8 → ∀ i, i < 32 → bt (q_all n) i = decide (i < n) := by decide +kernel
theorem q_all_bt {n i : Nat} (hn : n ≤ 8) (hi : i < 32) : bt (q_all n) i = decide (i < n) := q_all_bt8 n hn i hi
