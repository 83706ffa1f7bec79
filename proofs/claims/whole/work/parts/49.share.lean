/-! share, off: sums over sets, fractions. -/
theorem q_gcdM : ∀ (k p q : Nat), q ≤ k → p < 2 ^ 31 → q < 2 ^ 31 → zgcd k (nI p) (nI q) = nI (Nat.gcd p q)
  | 0, p, q, hk, hp, hq => by
    have : q = 0 := by omega
    subst this
    rw [Nat.gcd_zero_right]
    rfl
  | k + 1, p, q, hk, hp, hq => by
    show (if nI q = 0 then nI p else zgcd k (nI q) (zrem (nI p) (nI q))) = _
    by_cases h0 : q = 0
    · subst h0
      rw [if_pos (show nI 0 = 0 from rfl), Nat.gcd_zero_right]
    · have hlt : p % q < q := Nat.mod_lt _ (by omega)
      rw [if_neg (nI_ne0 (by omega) hq), zn_rem rfl rfl hp (by omega) hq, q_gcdM k q (p % q) (by omega) hq (by omega)]
      rw [Nat.gcd_comm p q, Nat.gcd_rec q p, Nat.gcd_comm]
theorem q_gcdm {p q : Nat} (hp : p < 2 ^ 31) (hq : q < 2 ^ 31) : o_Model_gcd (nI p) (nI q) = nI (Nat.gcd p q) := by
  unfold o_Model_gcd
  exact q_gcdM _ p q (by rw [nI_toInt hq]; omega) hp hq
theorem q_xinl {σ ρ : Type} {f : Nat → σ → σ ⊕ ρ} {a s : σ} {n : Nat} (h : zrex f a n = .inl s) : zrex f a (n + 1) = f n s := by simp only [zrex, h]
theorem q_xinr {σ ρ : Type} {f : Nat → σ → σ ⊕ ρ} {a : σ} {r : ρ} {n : Nat} (h : zrex f a n = .inr r) : zrex f a (n + 1) = .inr r := by simp only [zrex, h]
def q_eS (_ : Nat) (s : Int32 × Int32) : (Int32 × Int32) ⊕ Int32 := if s.2 = 0 then .inr s.1 else .inl (s.2, (zrem s.1 s.2))
theorem q_gcdC {p q : Nat} (hp : p < 2 ^ 31) (hq : q < 2 ^ 31) : o_Slots_commonDivisor (nI p) (nI q) = nI (Nat.gcd p q) := by
  have key : ∀ j, j ≤ 31 → zrex q_eS (nI p, nI q) (2 * j) = .inr (nI (Nat.gcd p q)) ∨ ∃ p2 q2, zrex q_eS (nI p, nI q) (2 * j) = .inl (nI p2, nI q2) ∧ Nat.gcd p2 q2 = Nat.gcd p q ∧ p2 < 2 ^ 31 ∧ q2 < 2 ^ (31 - j) := by
    intro j
    induction j with
    | zero => exact fun _ => Or.inr ⟨p, q, rfl, rfl, hp, hq⟩
    | succ j ih =>
      intro hj
      have e2 : 2 * (j + 1) = 2 * j + 1 + 1 := by omega
      rw [e2]
      rcases ih (by omega) with h | ⟨p2, q2, h, hg, h1, h2⟩
      · exact Or.inl (by simp only [zrex, h])
      · have hq2 : q2 < 2 ^ 31 := Nat.lt_of_lt_of_le h2 (Nat.pow_le_pow_right (by decide) (by omega))
        by_cases z : q2 = 0
        · subst z
          rw [Nat.gcd_zero_right] at hg
          refine Or.inl ?_
          simp only [zrex, h, q_eS]
          rw [if_pos (show nI 0 = 0 from rfl), hg]
        · have s1 : q_eS (2 * j) (nI p2, nI q2) = .inl (nI q2, nI (p2 % q2)) := by
            unfold q_eS
            dsimp only
            rw [if_neg (nI_ne0 (by omega) hq2), zn_rem rfl rfl h1 (by omega) hq2]
          have hr : p2 % q2 < q2 := Nat.mod_lt _ (by omega)
          have hg2 : Nat.gcd q2 (p2 % q2) = Nat.gcd p q := by
            rw [← hg, Nat.gcd_comm p2 q2, Nat.gcd_rec q2 p2, Nat.gcd_comm]
          by_cases z2 : p2 % q2 = 0
          · refine Or.inl ?_
            rw [z2, Nat.gcd_zero_right] at hg2
            simp only [zrex, h, s1, z2]
            unfold q_eS
            dsimp only
            rw [if_pos (show nI 0 = 0 from rfl), hg2]
          · have s2 : q_eS (2 * j + 1) (nI q2, nI (p2 % q2)) = .inl (nI (p2 % q2), nI (q2 % (p2 % q2))) := by
              unfold q_eS
              dsimp only
              rw [if_neg (nI_ne0 (by omega) (by omega)), zn_rem rfl rfl hq2 (by omega) (by omega)]
            refine Or.inr ⟨p2 % q2, q2 % (p2 % q2), by simp only [zrex, h, s1, s2], ?_, by omega, ?_⟩
            · rw [← hg2, Nat.gcd_comm q2, Nat.gcd_rec (p2 % q2) q2, Nat.gcd_comm]
            · have h3 : q2 % (p2 % q2) < p2 % q2 := Nat.mod_lt _ (by omega)
              have h4 : q2 % (p2 % q2) + (p2 % q2) ≤ q2 := by
                have h5 := Nat.mod_add_div q2 (p2 % q2)
                have h6 : 1 ≤ q2 / (p2 % q2) := (Nat.one_le_div_iff (by omega)).mpr (by omega)
                have h7 : (p2 % q2) * 1 ≤ (p2 % q2) * (q2 / (p2 % q2)) := Nat.mul_le_mul_left _ h6
                omega
              have h8 : 2 ^ (31 - j) = 2 * 2 ^ (31 - (j + 1)) := by
                rw [← Nat.pow_succ']
                congr 1
                omega
              omega
  show Sum.elim (fun r7_1 => r7_1.1) (fun q7_1 => q7_1) (zrex q_eS (nI p, nI q) 64) = _
  rcases key 31 (Nat.le_refl _) with h | ⟨p2, q2, h, hg, h1, h2⟩
  · have h64 : zrex q_eS (nI p, nI q) 64 = .inr (nI (Nat.gcd p q)) := q_xinr (n := 63) (q_xinr (n := 62) h)
    rw [h64]
    rfl
  · have z : q2 = 0 := by omega
    subst z
    rw [Nat.gcd_zero_right] at hg
    have s1 : q_eS 62 (nI p2, nI 0) = .inr (nI p2) := by
      unfold q_eS
      dsimp only
      rw [if_pos (show nI 0 = 0 from rfl)]
    have h64 : zrex q_eS (nI p, nI q) 64 = .inr (nI p2) := q_xinr (n := 63) ((q_xinl (n := 62) h).trans s1)
    rw [h64, hg]
    rfl
theorem q_frac {num den : Int32} {p q : Nat} {u : Bool} (h1 : (if 0 ≤ num then num else 0 - num) = nI p) (hp : p < 2 ^ 31) (h2 : den = nI q) (h0 : 0 < q) (hq : q < 2 ^ 31) : o_Slots_partOfFraction num den u = o_Model_fraction num den u := by
  unfold o_Slots_partOfFraction o_Model_fraction
  rw [h1, h2, q_gcdC hp hq, q_gcdm hp hq]
  have hg : 0 < Nat.gcd p q := Nat.gcd_pos_of_pos_right _ h0
  have hg2 : Nat.gcd p q ≤ q := Nat.gcd_le_right _ h0
  rw [if_pos (show 1 ≤ nI (Nat.gcd p q) from nI_le (a := 1) (b := Nat.gcd p q) hg (by omega))]
-- sums
def q_sum (f : Nat → Int32) (n : Nat) : Int32 := zrep (fun i (s : Int32) => s + f i) 0 n
theorem q_sum_add {f : Nat → Int32} {a : Nat} : ∀ b, q_sum f (a + b) = q_sum f a + q_sum (fun i => f (a + i)) b
  | 0 => (Int32.add_zero _).symm
  | b + 1 => by
    show q_sum f (a + b) + f (a + b) = q_sum f a + (q_sum (fun i => f (a + i)) b + f (a + b))
    rw [q_sum_add b, Int32.add_assoc]
theorem q_sum_two {f g : Nat → Int32} : ∀ n, q_sum f n + q_sum g n = q_sum (fun i => f i + g i) n
  | 0 => rfl
  | n + 1 => by
    show (q_sum f n + f n) + (q_sum g n + g n) = q_sum (fun i => f i + g i) n + (f n + g n)
    rw [← q_sum_two n, Int32.add_assoc, Int32.add_assoc, ← Int32.add_assoc (f n), Int32.add_comm (f n), Int32.add_assoc (q_sum g n)]
theorem q_sum_congr {f g : Nat → Int32} {n : Nat} (h : ∀ i, i < n → f i = g i) : q_sum f n = q_sum g n := q_congr n (fun i s hi => by rw [h i hi])
theorem q_pairs : ∀ (n v : Nat) (f g : Nat → Int32), v < n → (∀ i, i < 2 ^ n → i.testBit v = false → f i + f (i + 2 ^ v) = g i + g (i + 2 ^ v)) → q_sum f (2 ^ n) = q_sum g (2 ^ n)
  | 0, v, f, g, hv, _ => absurd hv (by omega)
  | n + 1, v, f, g, hv, H => by
    have e2 : 2 ^ (n + 1) = 2 ^ n + 2 ^ n := by rw [Nat.pow_succ]; omega
    rw [e2, q_sum_add, q_sum_add]
    by_cases q : v = n
    · subst q
      rw [q_sum_two, q_sum_two]
      refine q_sum_congr (fun i hi => ?_)
      rw [Nat.add_comm (2 ^ v) i]
      exact H i (by omega) (Nat.testBit_lt_two_pow hi)
    · have hv2 : v < n := by omega
      rw [q_pairs n v f g hv2 (fun i hi hb => H i (by omega) hb), q_pairs n v (fun i => f (2 ^ n + i)) (fun i => g (2 ^ n + i)) hv2 (fun i hi hb => by
        have := H (2 ^ n + i) (by omega) (by rw [Nat.testBit_two_pow_add_gt hv2]; exact hb)
        rw [Nat.add_assoc] at this
        exact this)]
theorem q_bt_nI {i j : Nat} (hj : j < 32) : bt (nI i) j = i.testBit j := by
  show (BitVec.ofNat 32 i).getLsbD j = i.testBit j
  rw [BitVec.getLsbD_ofNat, decide_eq_true hj, Bool.true_and]
theorem y_on_nI {n i : Nat} (hi : i < 2 ^ n) : y_on n (nI i) := fun j h1 h2 => by
  rw [q_bt_nI h2]
  exact Nat.testBit_lt_two_pow (Nat.lt_of_lt_of_le hi (Nat.pow_le_pow_right (by decide) h1))
theorem q_onesC {x : Int32} : o_Model_ones x = nI (q_cnt x 8) := by
  have key : ∀ m, m ≤ 32 → zrep (fun (i4_1 : Nat) (s4_1 : Int32) => (s4_1 + ((zsar x (nI i4_1)) &&& 1))) 0 m = nI (q_cnt x m) := by
    intro m
    induction m with
    | zero => exact fun _ => rfl
    | succ m ih =>
      intro hm
      show zrep (fun (i4_1 : Nat) (s4_1 : Int32) => (s4_1 + ((zsar x (nI i4_1)) &&& 1))) 0 m + ((zsar x (nI m)) &&& 1) = nI (q_cnt x m + (if bt x m = true then 1 else 0))
      rw [ih (by omega), q_zb1 _ _ (by omega)]
      by_cases c : bt x m = true
      · rw [if_pos c, c]
        exact nI_1 _
      · rw [if_neg c, show bt x m = false by simpa using c]
        exact Int32.add_zero _
  exact key 8 (by omega)
theorem q_ones_inj {x y : Int32} {n : Nat} (h8 : n ≤ 8) (gy : y_on n y) (hle : q_le x y) (e : o_Model_ones x = o_Model_ones y) : x = y := by
  rw [q_onesC, q_onesC] at e
  have m1 := q_cnt_max x 8
  have m2 := q_cnt_max y 8
  have e2 := (nI_eq (by omega) (by omega)).mp e
  refine q_le_anti hle (fun j hj hb => ?_)
  refine Classical.byContradiction (fun z => ?_)
  have hjn : j < n := by
    rcases Nat.lt_or_ge j n with q | q
    · exact q
    · rw [gy j q hj] at hb
      cases hb
  have := q_cnt_lt hle z hb 8 (by omega) (by omega)
  omega
theorem q_pc1 : ∀ v, v < 8 → ∀ i, i < 256 → i.testBit v = false → q_cnt (nI (i + 2 ^ v)) 8 = q_cnt (nI i) 8 + 1 ∧ i ||| 2 ^ v = i + 2 ^ v := by decide +kernel
theorem q_ff : ∀ n, n ≤ 8 → ∀ p, p ≤ 8 → zcn (o_Model_factorial (nI p) * o_Model_factorial (nI n - 1 - nI p)) ≤ 40320 ∧ o_Model_factorial (nI p) * o_Model_factorial (nI n - 1 - nI p) = nI (zcn (o_Model_factorial (nI p) * o_Model_factorial (nI n - 1 - nI p))) := by decide +kernel
theorem q_fd : ∀ n, n ≤ 8 → 0 < zcn (o_Model_factorial (nI n)) ∧ o_Model_factorial (nI n) = nI (zcn (o_Model_factorial (nI n))) := by decide +kernel
theorem q_pd : ∀ n, n ≤ 8 → 0 < zcn (o_Model_power 10 (nI n)) ∧ o_Model_power 10 (nI n) = nI (zcn (o_Model_power 10 (nI n))) := by decide +kernel
theorem q_toInt_add {x y : Int32} {A B : Int} (hx : -A ≤ x.toInt ∧ x.toInt ≤ A) (hy : -B ≤ y.toInt ∧ y.toInt ≤ B) (h : A + B < 2 ^ 31) : -(A + B) ≤ (x + y).toInt ∧ (x + y).toInt ≤ A + B := by
  rw [Int32.toInt_add, Int.bmod_eq_of_le (by omega) (by omega)]
  omega
theorem q_sum_bound {f : Nat → Int32} {A : Nat} : ∀ n, (∀ i, i < n → -(A : Int) ≤ (f i).toInt ∧ (f i).toInt ≤ A) → A * n < 2 ^ 31 → -((A * n : Nat) : Int) ≤ (q_sum f n).toInt ∧ (q_sum f n).toInt ≤ ((A * n : Nat) : Int)
  | 0, _, _ => by
    have e : (q_sum f 0).toInt = 0 := rfl
    rw [e]
    omega
  | n + 1, hf, h => by
    have h2 : A * (n + 1) = A * n + A := Nat.mul_succ A n
    have ih := q_sum_bound n (fun i hi => hf i (by omega)) (by omega)
    have := q_toInt_add ih (hf n (by omega)) (by omega)
    show -((A * (n + 1) : Nat) : Int) ≤ (q_sum f n + f n).toInt ∧ (q_sum f n + f n).toInt ≤ ((A * (n + 1) : Nat) : Int)
    omega
theorem q_abs {x : Int32} {A : Nat} (h : -(A : Int) ≤ x.toInt ∧ x.toInt ≤ A) (hA : A < 2 ^ 31) : ∃ p, p < 2 ^ 31 ∧ (if 0 ≤ x then x else 0 - x) = nI p := by
  have e0 : (0 : Int32).toInt = 0 := rfl
  by_cases c : 0 ≤ x
  · rw [if_pos c]
    exact ⟨zcn x, zcn_small x, (znI_cn c).symm⟩
  · rw [if_neg c]
    have c2 : ¬ 0 ≤ x.toInt := fun q => c (Int32.le_iff_toInt_le.mpr (by omega))
    refine ⟨x.toInt.natAbs, by omega, ?_⟩
    apply Int32.toInt_inj.mp
    rw [Int32.toInt_sub, e0, nI_toInt (by omega), Int.bmod_eq_of_le (by omega) (by omega)]
    omega
section ZO
variable {K : Nat} {C M : zHp} {x y : Int64}
theorem m_runW2 {n : Nat} (R : zmr C 3 M 54 n (q_all n) K) {on : Int32} (hon : y_on n on) {t : zHp} (ht : ∀ c j, ¬ zscrM c j → t c j = M c j) : (o_Model_runWith t on).1 = (o_Model_runWith M on).1 := by
  have Rt : zmr C 3 t 54 n (q_all n) K := zmr_frM (ht _ _ (by unfold zscrM; omega)) (fun v _ => ht _ _ (by unfold zscrM; omega)) (fun v _ => ⟨ht _ _ (by unfold zscrM; omega), ht _ _ (by unfold zscrM; omega), ht _ _ (by unfold zscrM; omega)⟩) (ht _ _ (by unfold zscrM; omega)) R
  rw [← (m_withS Rt hon).1, ← (m_withS R hon).1]
theorem m_place2 {n : Nat} (R : zmr C 3 M 54 n (q_all n) K) {on : Int32} (hon : y_on n on) {s : zHp} (hs : ∀ c j, (c < 27 ∨ 38 < c) → s c j = C c j) : (o_Slots_placedIfOnly s on).1 = o_Model_ones (o_Model_runWith M on).1 := by
  have h8 := m_8 R
  have Rs : zmr s 3 M 54 n (q_all n) K := zmr_frC (fun j hj => hs _ _ (by omega)) (fun i v h1 h2 => hs _ _ (by omega)) R
  rw [m_with Rs hon]
  refine q_bc h8 (fun i h1 h2 => ?_)
  cases hb : bt (o_Model_runWith M on).1 i
  · rfl
  · have := ((m_withS R hon).2 i h2 hb).2
    omega
def q_wo (M : zHp) (i : Nat) : Int32 := o_Model_ones (o_Model_runWith M (nI i)).1
theorem q_two_n {n : Nat} (h8 : n ≤ 8) : zcn (zshl 1 (nI n)) = 2 ^ n := by
  have key : ∀ n, n ≤ 8 → zcn (zshl 1 (nI n)) = 2 ^ n := by decide +kernel
  exact key n h8
theorem q_all_n {n : Nat} (h8 : n ≤ 8) : zcn (q_all n) + 1 = 2 ^ n := by
  have key : ∀ n, n ≤ 8 → zcn (q_all n) + 1 = 2 ^ n := by decide +kernel
  exact key n h8
theorem q_256 {n : Nat} (h8 : n ≤ 8) : 2 ^ n ≤ 256 := Nat.pow_le_pow_right (n := 2) (by decide) h8
theorem q_ring (a b w w2 : Int32) : (0 - a) * b * w + a * b * w2 = a * b * (w2 - w) + 0 := by grind
theorem op_share {n : Nat} (R : zmr C 3 M 54 n (q_all n) K) (s : Int32) (u : Bool) : (o_Slots_share C s u).1 = (o_Model_share M s u).1 := by
  have h8 := m_8 R
  have h256 := q_256 h8
  unfold o_Slots_share o_Model_share
  rw [m_exE R]
  by_cases c : o_Model_isStation M s = true
  · rw [if_pos c, if_pos c]
    obtain ⟨v, hv, ev, zv⟩ := m_exT R c
    dsimp only
    rw [R.1.1, R.1.2.1, m_all R.1.2.1, q_two_n h8, q_all_n h8, zv, ev]
    -- the class' sum
    have SC := q_rel (fun i (s : Int32 × zHp) (t : Int32) => s.1 = t ∧ ∀ c j, (c < 27 ∨ 38 < c) → s.2 c j = C c j) (f := (fun (i18_2 : Nat) (s18_2 : Int32 × zHp) => ((s18_2.1 + ((o_Slots_ordersCounting C (nI v) (nI i18_2)) * ((o_Slots_placedIfOnly s18_2.2 (nI i18_2)).1))), ((o_Slots_placedIfOnly s18_2.2 (nI i18_2)).2)))) (g := fun i (t : Int32) => t + o_Slots_ordersCounting C (nI v) (nI i) * q_wo M i) (a := (0, C)) (b := 0) (2 ^ n) ⟨rfl, fun _ _ _ => rfl⟩ (fun i s t hi hI => by
      obtain ⟨I1, I2⟩ := hI
      dsimp only
      rw [m_place2 R (y_on_nI hi) I2, I1]
      refine ⟨rfl, fun c j q => ?_⟩
      refine Eq.trans ?_ (I2 c j q)
      apply fr_Slots_placedIfOnly <;> omega)
    rw [SC.1]
    -- the reference's table
    have TM := zrep_inv (f := (fun (i12_2 : Nat) (s12_2 : zHp) => (zup ((o_Model_runWith s12_2 (nI i12_2)).2) 70 i12_2 (o_Model_ones ((o_Model_runWith s12_2 (nI i12_2)).1))))) (a := M) (fun i s => (∀ c j, ¬ zscrM c j → s c j = M c j) ∧ ∀ j, j < i → s 70 j = q_wo M j) (2 ^ n) ⟨fun _ _ _ => rfl, fun j hj => absurd hj (by omega)⟩ (fun i s hi hI => by
      obtain ⟨I1, I2⟩ := hI
      refine ⟨fun c j q => ?_, fun j hj => ?_⟩
      · have q9 := q
        unfold zscrM at q
        rw [zup_fr (by omega)]
        refine Eq.trans ?_ (I1 c j q9)
        apply fr_Model_runWith <;> omega
      · by_cases e : j = i
        · subst e
          rw [zup_at, m_runW2 R (y_on_nI hi) I1]
          rfl
        · rw [zup_fr (by omega)]
          refine Eq.trans ?_ (I2 j (by omega))
          apply fr_Model_runWith <;> omega)
    generalize (zrep (fun (i12_2 : Nat) (s12_2 : zHp) => (zup ((o_Model_runWith s12_2 (nI i12_2)).2) 70 i12_2 (o_Model_ones ((o_Model_runWith s12_2 (nI i12_2)).1)))) M (2 ^ n)) = T at TM ⊢
    obtain ⟨-, T2⟩ := TM
    -- the two sums
    have SM : zrep (fun (i45_6 : Nat) (s45_6 : Int32) => (s45_6 + (if (o_Model_has (nI i45_6) (nI v)) = true then 0 else (((o_Model_factorial (o_Model_ones (nI i45_6))) * (o_Model_factorial (((nI n) - 1) - (o_Model_ones (nI i45_6))))) * ((T 70 (i45_6 ||| 2 ^ v)) - (T 70 i45_6)))))) 0 (2 ^ n) = q_sum (fun i => if i.testBit v = true then 0 else (((o_Model_factorial (nI (q_cnt (nI i) 8))) * (o_Model_factorial (((nI n) - 1) - (nI (q_cnt (nI i) 8))))) * (q_wo M (i + 2 ^ v) - q_wo M i))) (2 ^ n) := q_congr (2 ^ n) (fun i s hi => by
      congr 1
      rw [q_hasM (by omega), q_bt_nI (by omega), q_onesC]
      dsimp only
      by_cases cb : i.testBit v = true
      · rw [if_pos cb, if_pos cb]
      · have hpc := q_pc1 v (by omega) i (by omega) (by simpa using cb)
        have hlt : i + 2 ^ v < 2 ^ n := by
          rw [← hpc.2]
          exact Nat.or_lt_two_pow hi (Nat.pow_lt_pow_right (by decide) hv)
        rw [if_neg cb, if_neg cb, hpc.2, T2 _ hlt, T2 _ hi])
    rw [SM]
    have S2 : zrep (fun i (t : Int32) => t + o_Slots_ordersCounting C (nI v) (nI i) * q_wo M i) 0 (2 ^ n) = q_sum (fun i => if i.testBit v = true then 0 else (((o_Model_factorial (nI (q_cnt (nI i) 8))) * (o_Model_factorial (((nI n) - 1) - (nI (q_cnt (nI i) 8))))) * (q_wo M (i + 2 ^ v) - q_wo M i))) (2 ^ n) := by
      have oc : ∀ i, i < 2 ^ n → o_Slots_ordersCounting C (nI v) (nI i) = if i.testBit v = true then (o_Model_factorial (nI (q_cnt (nI i) 8) - 1)) * (o_Model_factorial (nI n - nI (q_cnt (nI i) 8))) else (0 - o_Model_factorial (nI (q_cnt (nI i) 8))) * (o_Model_factorial (nI n - 1 - nI (q_cnt (nI i) 8))) := fun i hi => by
        unfold o_Slots_ordersCounting
        rw [q_has (by omega), q_bt_nI (by omega), q_bc h8 (y_on_nI hi), q_onesC, R.1.1]
        rfl
      refine q_pairs n v (fun i => o_Slots_ordersCounting C (nI v) (nI i) * q_wo M i) _ hv (fun i hi hb => ?_)
      have hpc := q_pc1 v (by omega) i (by omega) hb
      have hlt : i + 2 ^ v < 2 ^ n := by
        rw [← hpc.2]
        exact Nat.or_lt_two_pow hi (Nat.pow_lt_pow_right (by decide) hv)
      have hb2 : (i + 2 ^ v).testBit v = true := by
        rw [← hpc.2, Nat.testBit_or, Nat.testBit_two_pow_self, Bool.or_true]
      rw [oc i hi, oc _ hlt, hpc.1, hb, hb2, if_neg (by decide), if_pos rfl, if_neg (by decide), if_pos rfl]
      rw [show nI (q_cnt (nI i) 8 + 1) - 1 = nI (q_cnt (nI i) 8) from nI_pred _, show nI n - nI (q_cnt (nI i) 8 + 1) = nI n - 1 - nI (q_cnt (nI i) 8) by rw [nI_succ, Int32.add_comm, ← Int32.sub_sub]]
      exact q_ring _ _ _ _
    rw [S2]
    obtain ⟨fd1, fd2⟩ := q_fd n h8
    have bnd := q_sum_bound (f := (fun i => if i.testBit v = true then 0 else (((o_Model_factorial (nI (q_cnt (nI i) 8))) * (o_Model_factorial (((nI n) - 1) - (nI (q_cnt (nI i) 8))))) * (q_wo M (i + 2 ^ v) - q_wo M i)))) (A := 322560) (2 ^ n) (fun i hi => by
      by_cases cb : i.testBit v = true
      · rw [if_pos cb]
        decide
      · rw [if_neg cb]
        obtain ⟨f1, f2⟩ := q_ff n h8 (q_cnt (nI i) 8) (q_cnt_max _ _)
        obtain ⟨p, hp, e1⟩ := zon (o_Model_runWith M (nI (i + 2 ^ v))).1
        obtain ⟨q, hq, e2⟩ := zon (o_Model_runWith M (nI i)).1
        unfold q_wo
        rw [f2, e1, e2, Int32.toInt_mul, pk_sub_toInt (by omega) (by omega), nI_toInt (zcn_small _)]
        generalize zcn (o_Model_factorial (nI (q_cnt (nI i) 8)) * o_Model_factorial (nI n - 1 - nI (q_cnt (nI i) 8))) = t at f1
        have b1 : (t : Int) * ((p : Int) - q) ≤ t * 8 := Int.mul_le_mul_of_nonneg_left (by omega) (by omega)
        have b2 : (t : Int) * (-8) ≤ t * ((p : Int) - q) := Int.mul_le_mul_of_nonneg_left (by omega) (by omega)
        rw [Int.bmod_eq_of_le (by omega) (by omega)]
        omega) (by omega)
    obtain ⟨p, hp, ep⟩ := q_abs bnd (by omega)
    exact q_frac ep hp fd2 fd1 (zcn_small _)
  · rw [if_neg c, if_neg c]
end ZO
