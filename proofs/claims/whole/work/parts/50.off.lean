/-! off. -/
def q_ns (f : Nat → Nat) : Nat → Nat
  | 0 => 0
  | n + 1 => q_ns f n + f n
theorem q_ns_add {f : Nat → Nat} {a : Nat} : ∀ b, q_ns f (a + b) = q_ns f a + q_ns (fun i => f (a + i)) b
  | 0 => rfl
  | b + 1 => by
    show q_ns f (a + b) + f (a + b) = q_ns f a + (q_ns (fun i => f (a + i)) b + f (a + b))
    rw [q_ns_add b, Nat.add_assoc]
theorem q_ns_congr {f g : Nat → Nat} : ∀ n, (∀ i, i < n → f i = g i) → q_ns f n = q_ns g n
  | 0, _ => rfl
  | n + 1, h => by
    show q_ns f n + f n = q_ns g n + g n
    rw [q_ns_congr n (fun i hi => h i (by omega)), h n (by omega)]
theorem q_ns_mul {f : Nat → Nat} {a : Nat} : ∀ n, q_ns (fun i => a * f i) n = a * q_ns f n
  | 0 => rfl
  | n + 1 => by
    show q_ns (fun i => a * f i) n + a * f n = a * (q_ns f n + f n)
    rw [q_ns_mul n, Nat.mul_add]
theorem q_ns_le {f g : Nat → Nat} : ∀ n, (∀ i, i < n → f i ≤ g i) → q_ns f n ≤ q_ns g n
  | 0, _ => Nat.le_refl _
  | n + 1, h => Nat.add_le_add (q_ns_le n (fun i hi => h i (by omega))) (h n (by omega))
theorem q_pc2 : ∀ n, n < 8 → ∀ i, i < 256 → i < 2 ^ n → q_cnt (nI (2 ^ n + i)) 8 = q_cnt (nI i) 8 + 1 ∧ q_cnt (nI i) 8 ≤ n := by decide +kernel
theorem q_pc0 : q_cnt (nI 0) 8 = 0 := by decide
theorem q_binom {a b : Nat} : ∀ n, n ≤ 8 → q_ns (fun i => a ^ q_cnt (nI i) 8 * b ^ (n - q_cnt (nI i) 8)) (2 ^ n) = (a + b) ^ n
  | 0, _ => by
    show 0 + a ^ q_cnt (nI 0) 8 * b ^ (0 - q_cnt (nI 0) 8) = _
    rw [q_pc0]
    simp
  | n + 1, h8 => by
    have ih := q_binom (a := a) (b := b) n (by omega)
    have h256 : 2 ^ n ≤ 256 := Nat.pow_le_pow_right (n := 2) (by decide) (by omega : n ≤ 8)
    have e2 : 2 ^ (n + 1) = 2 ^ n + 2 ^ n := by rw [Nat.pow_succ]; omega
    rw [e2, q_ns_add]
    have e3 : q_ns (fun i => a ^ q_cnt (nI i) 8 * b ^ (n + 1 - q_cnt (nI i) 8)) (2 ^ n) = b * q_ns (fun i => a ^ q_cnt (nI i) 8 * b ^ (n - q_cnt (nI i) 8)) (2 ^ n) := by
      rw [← q_ns_mul]
      refine q_ns_congr _ (fun i hi => ?_)
      have h1 := (q_pc2 n (by omega) i (by omega) hi).2
      rw [show n + 1 - q_cnt (nI i) 8 = (n - q_cnt (nI i) 8) + 1 by omega, Nat.pow_succ, Nat.mul_comm b, Nat.mul_assoc]
    have e4 : q_ns (fun i => a ^ q_cnt (nI (2 ^ n + i)) 8 * b ^ (n + 1 - q_cnt (nI (2 ^ n + i)) 8)) (2 ^ n) = a * q_ns (fun i => a ^ q_cnt (nI i) 8 * b ^ (n - q_cnt (nI i) 8)) (2 ^ n) := by
      rw [← q_ns_mul]
      refine q_ns_congr _ (fun i hi => ?_)
      rw [(q_pc2 n (by omega) i (by omega) hi).1, show n + 1 - (q_cnt (nI i) 8 + 1) = n - q_cnt (nI i) 8 by omega, Nat.pow_succ, Nat.mul_comm (a ^ _) a, Nat.mul_assoc]
    rw [e3, e4, ih, Nat.pow_succ, ← Nat.add_mul, Nat.mul_comm, Nat.add_comm b a]
theorem q_powN (a : Nat) : ∀ e, e < 2 ^ 31 → o_Model_power (nI a) (nI e) = nI (a ^ e) := by
  have key : ∀ e, zrep (fun (_ : Nat) (s : Int32) => s * nI a) 1 e = nI (a ^ e) := by
    intro e
    induction e with
    | zero => rfl
    | succ e ih =>
      show zrep (fun (_ : Nat) (s : Int32) => s * nI a) 1 e * nI a = _
      rw [ih, pk_mul, Nat.pow_succ]
  intro e he
  unfold o_Model_power
  rw [zcn_nI he]
  exact key e
theorem q_powE : o_Slots_power = o_Model_power := rfl
theorem q_sumN {f : Nat → Nat} : ∀ n, q_sum (fun i => nI (f i)) n = nI (q_ns f n)
  | 0 => rfl
  | n + 1 => by
    show q_sum (fun i => nI (f i)) n + nI (f n) = _
    rw [q_sumN n, nI_add]
    rfl
section ZO
variable {K : Nat} {C M : zHp} {x y : Int64}
theorem op_off {n : Nat} (R : zmr C 3 M 54 n (q_all n) K) (a : Int32) (u : Bool) : (o_Slots_off C a u).1 = (o_Model_off M a u).1 := by
  have h8 := m_8 R
  have h256 := q_256 h8
  unfold o_Slots_off o_Model_off
  have e0 : (0 : Int32).toInt = 0 := rfl
  have e10 : (10 : Int32).toInt = 10 := rfl
  have e9 : (0 : Int64).toInt = 0 := rfl
  have e7 : (10 : Int64).toInt = 10 := rfl
  by_cases c1 : a < 0
  · rw [if_pos c1, if_neg (fun z => by rw [q_inI] at z; rw [Int32.lt_iff_toInt_lt] at c1; omega)]
  · rw [if_neg c1]
    by_cases c2 : a ≤ 10
    · have c3 : ¬ nI 11 ≤ a := fun z => by
        rw [Int32.le_iff_toInt_le] at c2 z
        rw [nI_toInt (by omega)] at z
        omega
      obtain ⟨b, hb, eb⟩ := q_nat (N := 11) c1 c3 (by decide)
      rw [if_pos c2, if_pos (c := o_Model_in (Int32.toInt64 a) 0 10 = true) (by rw [q_inI, eb, nI_toInt (by omega)]; omega)]
      dsimp only
      rw [R.1.1, R.1.2.1, m_all R.1.2.1, q_two_n h8, q_all_n h8, eb]
      -- the terms as numbers
      have term : ∀ i, i < 2 ^ n → o_Model_power (10 - nI b) (nI (q_cnt (nI i) 8)) * o_Model_power (nI b) (nI n - nI (q_cnt (nI i) 8)) = nI ((10 - b) ^ q_cnt (nI i) 8 * b ^ (n - q_cnt (nI i) 8)) := fun i hi => by
        have hm := q_cnt_max (nI i) 8
        have hn : q_cnt (nI i) 8 ≤ n := by
          have h1 : q_cnt (nI i) 8 ≤ q_cnt (q_all n) 8 := q_cnt_le (fun j hj hbj => by
            rw [q_all_bt h8 hj, decide_eq_true_eq]
            rcases Nat.lt_or_ge j n with q | q
            · exact q
            · rw [y_on_nI hi j q hj] at hbj
              cases hbj) 8 (by omega)
          have h2 : ∀ n, n ≤ 8 → q_cnt (q_all n) 8 ≤ n := by decide +kernel
          exact Nat.le_trans h1 (h2 n h8)
        rw [show (10 : Int32) = nI 10 from rfl, pk_sub (by omega), pk_sub hn, q_powN _ _ (by omega), q_powN _ _ (by omega), pk_mul]
      have cond : ∀ i, i < 2 ^ n → ((o_Model_ones (o_Model_runWith M (nI i)).1 = nI (q_cnt (nI i) 8)) ↔ (o_Model_runWith M (nI i)).1 = nI i) := fun i hi => by
        rw [← q_onesC]
        refine ⟨fun q => ?_, fun q => by rw [q]⟩
        exact q_ones_inj h8 (y_on_nI hi) (fun j hj h => ((m_withS R (y_on_nI hi)).2 j hj h).1) q
      -- the class' sum
      have SC := q_rel (fun i (s : Int32 × zHp) (t : Int32) => s.1 = t ∧ ∀ c j, (c < 27 ∨ 38 < c) → s.2 c j = C c j) (f := (fun (i18_2 : Nat) (s18_2 : Int32 × zHp) => ((if ((o_Slots_placedIfOnly s18_2.2 (nI i18_2)).1) = (o_Int_bitCount (nI i18_2)) then (s18_2.1 + ((o_Slots_power (10 - nI b) (o_Int_bitCount (nI i18_2))) * (o_Slots_power (nI b) ((nI n) - (o_Int_bitCount (nI i18_2)))))) else s18_2.1), ((o_Slots_placedIfOnly s18_2.2 (nI i18_2)).2)))) (g := fun i (t : Int32) => t + nI (if (o_Model_runWith M (nI i)).1 = nI i then (10 - b) ^ q_cnt (nI i) 8 * b ^ (n - q_cnt (nI i) 8) else 0)) (a := (0, C)) (b := 0) (2 ^ n) ⟨rfl, fun _ _ _ => rfl⟩ (fun i s t hi hI => by
        obtain ⟨I1, I2⟩ := hI
        dsimp only
        rw [m_place2 R (y_on_nI hi) I2, I1, q_bc h8 (y_on_nI hi), q_onesC (x := nI i)]
        refine ⟨?_, fun c j q => ?_⟩
        · by_cases z : (o_Model_runWith M (nI i)).1 = nI i
          · rw [if_pos ((cond i hi).mpr z), if_pos z, q_powE, term i hi]
          · rw [if_neg (fun q => z ((cond i hi).mp q)), if_neg z]
            rw [nI_0]
            exact (Int32.add_zero t).symm
        · refine Eq.trans ?_ (I2 c j q)
          apply fr_Slots_placedIfOnly <;> omega)
      rw [SC.1]
      -- the reference's sum
      have SM := q_rel (fun i (s : Int32 × zHp) (t : Int32) => s.1 = t ∧ ∀ c j, ¬ zscrM c j → s.2 c j = M c j) (f := (fun (i20_2 : Nat) (s20_2 : Int32 × zHp) => ((s20_2.1 + (if ((o_Model_runWith s20_2.2 (nI i20_2)).1) = (nI i20_2) then ((o_Model_power (10 - nI b) (o_Model_ones (nI i20_2))) * (o_Model_power (nI b) ((nI n) - (o_Model_ones (nI i20_2))))) else 0)), ((o_Model_runWith s20_2.2 (nI i20_2)).2)))) (g := fun i (t : Int32) => t + nI (if (o_Model_runWith M (nI i)).1 = nI i then (10 - b) ^ q_cnt (nI i) 8 * b ^ (n - q_cnt (nI i) 8) else 0)) (a := (0, M)) (b := 0) (2 ^ n) ⟨rfl, fun _ _ _ => rfl⟩ (fun i s t hi hI => by
        obtain ⟨I1, I2⟩ := hI
        dsimp only
        rw [m_runW2 R (y_on_nI hi) I2, I1, q_onesC (x := nI i)]
        refine ⟨?_, fun c j q => ?_⟩
        · by_cases z : (o_Model_runWith M (nI i)).1 = nI i
          · rw [if_pos z, if_pos z, term i hi]
          · rw [if_neg z, if_neg z, nI_0]
        · have q9 := q
          unfold zscrM at q
          refine Eq.trans ?_ (I2 c j q9)
          apply fr_Model_runWith <;> omega)
      rw [SM.1]
      have SS : zrep (fun i (t : Int32) => t + nI (if (o_Model_runWith M (nI i)).1 = nI i then (10 - b) ^ q_cnt (nI i) 8 * b ^ (n - q_cnt (nI i) 8) else 0)) 0 (2 ^ n) = nI (q_ns (fun i => if (o_Model_runWith M (nI i)).1 = nI i then (10 - b) ^ q_cnt (nI i) 8 * b ^ (n - q_cnt (nI i) 8) else 0) (2 ^ n)) := q_sumN (2 ^ n)
      rw [SS]
      have hle : q_ns (fun i => if (o_Model_runWith M (nI i)).1 = nI i then (10 - b) ^ q_cnt (nI i) 8 * b ^ (n - q_cnt (nI i) 8) else 0) (2 ^ n) ≤ 10 ^ n := by
        refine Nat.le_trans (q_ns_le (g := fun i => (10 - b) ^ q_cnt (nI i) 8 * b ^ (n - q_cnt (nI i) 8)) (2 ^ n) (fun i hi => ?_)) ?_
        · by_cases z : (o_Model_runWith M (nI i)).1 = nI i
          · rw [if_pos z]
            exact Nat.le_refl _
          · rw [if_neg z]
            exact Nat.zero_le _
        · rw [q_binom n h8, show 10 - b + b = 10 by omega]
          exact Nat.le_refl _
      have h10 : 10 ^ n ≤ 10 ^ 8 := Nat.pow_le_pow_right (by decide) h8
      generalize q_ns (fun i => if (o_Model_runWith M (nI i)).1 = nI i then (10 - b) ^ q_cnt (nI i) 8 * b ^ (n - q_cnt (nI i) 8) else 0) (2 ^ n) = p at hle ⊢
      obtain ⟨pd1, pd2⟩ := q_pd n h8
      exact q_frac (p := p) (by rw [if_pos (nI_pos' (by omega))]) (by omega) pd2 pd1 (zcn_small _)
    · rw [if_neg c2, if_neg (fun z => by rw [q_inI] at z; rw [Int32.le_iff_toInt_le] at c2; omega)]
end ZO
