/-! Walks of methods, by program (wip/whole/gen). -/
theorem d_X7_fraction_0 : decode prog_9_method_10_code 0 = .ok (.iload_n 0, 1) := by decide +kernel
theorem d_X7_fraction_1 : decode prog_9_method_10_code 1 = .ok (.ifCond .ge 8, 3) := by decide +kernel
theorem d_X7_fraction_4 : decode prog_9_method_10_code 4 = .ok (.iload_n 0, 1) := by decide +kernel
theorem d_X7_fraction_5 : decode prog_9_method_10_code 5 = .ok (.ineg, 1) := by decide +kernel
theorem d_X7_fraction_6 : decode prog_9_method_10_code 6 = .ok (.goto 4, 3) := by decide +kernel
theorem d_X7_fraction_9 : decode prog_9_method_10_code 9 = .ok (.iload_n 0, 1) := by decide +kernel
theorem d_X7_fraction_10 : decode prog_9_method_10_code 10 = .ok (.istore_n 3, 1) := by decide +kernel
theorem d_X7_fraction_11 : decode prog_9_method_10_code 11 = .ok (.iload_n 1, 1) := by decide +kernel
theorem d_X7_fraction_12 : decode prog_9_method_10_code 12 = .ok (.istore 4, 2) := by decide +kernel
theorem d_X7_fraction_14 : decode prog_9_method_10_code 14 = .ok (.iload 4, 2) := by decide +kernel
theorem d_X7_fraction_16 : decode prog_9_method_10_code 16 = .ok (.ifCond .eq 19, 3) := by decide +kernel
theorem d_X7_fraction_19 : decode prog_9_method_10_code 19 = .ok (.iload_n 3, 1) := by decide +kernel
theorem d_X7_fraction_20 : decode prog_9_method_10_code 20 = .ok (.iload 4, 2) := by decide +kernel
theorem d_X7_fraction_22 : decode prog_9_method_10_code 22 = .ok (.irem, 1) := by decide +kernel
theorem d_X7_fraction_23 : decode prog_9_method_10_code 23 = .ok (.istore 5, 2) := by decide +kernel
theorem d_X7_fraction_25 : decode prog_9_method_10_code 25 = .ok (.iload 4, 2) := by decide +kernel
theorem d_X7_fraction_27 : decode prog_9_method_10_code 27 = .ok (.istore_n 3, 1) := by decide +kernel
theorem d_X7_fraction_28 : decode prog_9_method_10_code 28 = .ok (.iload 5, 2) := by decide +kernel
theorem d_X7_fraction_30 : decode prog_9_method_10_code 30 = .ok (.istore 4, 2) := by decide +kernel
theorem d_X7_fraction_32 : decode prog_9_method_10_code 32 = .ok (.goto (-18), 3) := by decide +kernel
theorem d_X7_fraction_35 : decode prog_9_method_10_code 35 = .ok (.iload_n 2, 1) := by decide +kernel
theorem d_X7_fraction_36 : decode prog_9_method_10_code 36 = .ok (.ifCond .eq 9, 3) := by decide +kernel
theorem d_X7_fraction_39 : decode prog_9_method_10_code 39 = .ok (.iload_n 0, 1) := by decide +kernel
theorem d_X7_fraction_40 : decode prog_9_method_10_code 40 = .ok (.iload_n 3, 1) := by decide +kernel
theorem d_X7_fraction_41 : decode prog_9_method_10_code 41 = .ok (.idiv, 1) := by decide +kernel
theorem d_X7_fraction_42 : decode prog_9_method_10_code 42 = .ok (.goto 6, 3) := by decide +kernel
theorem d_X7_fraction_45 : decode prog_9_method_10_code 45 = .ok (.iload_n 1, 1) := by decide +kernel
theorem d_X7_fraction_46 : decode prog_9_method_10_code 46 = .ok (.iload_n 3, 1) := by decide +kernel
theorem d_X7_fraction_47 : decode prog_9_method_10_code 47 = .ok (.idiv, 1) := by decide +kernel
theorem d_X7_fraction_48 : decode prog_9_method_10_code 48 = .ok (.ireturn, 1) := by decide +kernel
abbrev M_Model_fraction : zMT := (⟨"PeriodSlotsModel", "fraction", "(IIZ)I"⟩, prog_9_method_10_code, 6, (some .int))
theorem k_Model_fraction : zcall M_Model_fraction 3 := ⟨zU_in (i := 1122) (by decide +kernel) rfl, m62, ⟨by decide, by decide, by decide +kernel⟩, by decide⟩
theorem ztmod {x y : Int32} (hy : ¬ y = 0) : (zrem x y).toInt = x.toInt.tmod y.toInt := by
  have hb : y.toInt ≠ 0 := fun e => hy (Int32.toInt_inj.mp e)
  have h1 := x.toInt_lt
  have h2 := x.le_toInt
  have h3 := y.toInt_lt
  have h4 := y.le_toInt
  have hm : (x.toInt.tmod y.toInt).natAbs < y.toInt.natAbs := by
    rw [Int.natAbs_tmod]
    exact Nat.mod_lt _ (Int.natAbs_pos.mpr hb)
  unfold zrem
  rw [Int32.toInt_sub, Int32.toInt_mul, Int32.toInt_div, Int.bmod_mul_bmod, Int.sub_bmod_bmod, show x.toInt - x.toInt.tdiv y.toInt * y.toInt = x.toInt.tmod y.toInt by rw [Int.tmod_def, Int.mul_comm]]
  exact Int.bmod_eq_of_le (by omega) (by omega)
theorem ztmod_lt {x y : Int32} (hy : ¬ y = 0) : (zrem x y).toInt.natAbs < y.toInt.natAbs := by
  have hb : y.toInt ≠ 0 := fun e => hy (Int32.toInt_inj.mp e)
  rw [ztmod hy, Int.natAbs_tmod]
  exact Nat.mod_lt _ (Int.natAbs_pos.mpr hb)
/-- Euclid's steps, at most k -/
def zgcd : Nat → Int32 → Int32 → Int32
  | 0, x, _ => x
  | k + 1, x, y => if y = 0 then x else zgcd k y (zrem x y)
def o_Model_gcd (x y : Int32) : Int32 := zgcd y.toInt.natAbs x y
theorem zgcd_ne : ∀ (k : Nat) (x y : Int32), y.toInt.natAbs ≤ k → ¬ (x = 0 ∧ y = 0) → ¬ zgcd k x y = 0
  | 0, x, y, hk, hn => by
    have hy : y = 0 := Int32.toInt_inj.mp (by have e3 : (0 : Int32).toInt = 0 := rfl; omega)
    exact fun e => hn ⟨e, hy⟩
  | k + 1, x, y, hk, hn => by
    unfold zgcd
    by_cases hy : y = 0
    · rw [if_pos hy]
      exact fun e => hn ⟨e, hy⟩
    · rw [if_neg hy]
      exact zgcd_ne k y _ (by have := ztmod_lt (x := x) hy; omega) (fun e => hy e.1)
theorem zgcd_fuel : ∀ (k m : Nat) (x y : Int32), y.toInt.natAbs ≤ k → y.toInt.natAbs ≤ m → zgcd k x y = zgcd m x y
  | 0, 0, _, _, _, _ => rfl
  | 0, m + 1, x, y, hk, _ => by
    have hy : y = 0 := Int32.toInt_inj.mp (by have e3 : (0 : Int32).toInt = 0 := rfl; omega)
    show x = if y = 0 then x else _
    rw [if_pos hy]
  | k + 1, 0, x, y, _, hm => by
    have hy : y = 0 := Int32.toInt_inj.mp (by have e3 : (0 : Int32).toInt = 0 := rfl; omega)
    show (if y = 0 then x else _) = x
    rw [if_pos hy]
  | k + 1, m + 1, x, y, hk, hm => by
    show (if y = 0 then x else zgcd k y (zrem x y)) = (if y = 0 then x else zgcd m y (zrem x y))
    by_cases hy : y = 0
    · rw [if_pos hy, if_pos hy]
    · have := ztmod_lt (x := x) hy
      rw [if_neg hy, if_neg hy, zgcd_fuel k m y _ (by omega) (by omega)]
def o_Model_fraction (above : Int32) (below : Int32) (upper : Bool) : Int32 :=
  if upper = true then above / o_Model_gcd (if 0 ≤ above then above else 0 - above) below else below / o_Model_gcd (if 0 ≤ above then above else 0 - above) below
theorem c_Model_fraction (X : zXT) (h : zHp) (g : zLg) (above : Int32) (below : Int32) (upper : Bool) (hbl : ¬ below = 0) : zDi X M_Model_fraction 0 [.int above, .int below, .int (zb upper)] h g (zI (o_Model_fraction above below upper)) h g := by
  refine zDi_of "PeriodSlotsModel" M_Model_fraction.2.1 6 (some .int) rfl (by decide) [zI above, zI below, zI (zb upper), none, none, none] rfl (fun _ q => q) (Nat.le_of_ble_eq_true rfl) ?_
  intro Γ Q C hQ
  have tail : ∀ x y : Int32, o_Model_gcd x y = o_Model_gcd (if 0 ≤ above then above else 0 - above) below → ¬ (x = 0 ∧ y = 0) → zV X Γ Q 14 [zI above, zI below, zI (zb upper), zI x, zI y, none] [] h g := by
    intro x y
    generalize hk : y.toInt.natAbs = k
    induction k using Nat.strongRecOn generalizing x y with
    | _ k ih =>
      intro e hn
      refine zr_iload C d_X7_fraction_14 rfl ?_
      refine zr_if_eq C 35 d_X7_fraction_16 (by decide) (fun c => ?_) (fun c => ?_)
      · subst c
        have e2 : x = o_Model_gcd (if 0 ≤ above then above else 0 - above) below := e
        have hx : ¬ x = 0 := fun q => hn ⟨q, rfl⟩
        refine zr_iload_n C d_X7_fraction_35 rfl ?_
        have fin : ∀ v : Int32, o_Model_fraction above below upper = v → zV X Γ Q 48 [zI above, zI below, zI (zb upper), zI x, zI 0, none] [.int v] h g := by
          intro v ev
          subst hQ
          rw [ev]
          exact zr_ireti C d_X7_fraction_48
        refine zr_ifz_eq C 45 d_X7_fraction_36 (by decide) (fun c => ?_) (fun c => ?_)
        · refine zr_iload_n C d_X7_fraction_45 rfl ?_
          refine zr_iload_n C d_X7_fraction_46 rfl ?_
          refine zr_idiv C d_X7_fraction_47 hx ?_
          exact fin _ (by unfold o_Model_fraction; rw [if_neg (by rw [c]; decide), ← e2])
        · refine zr_iload_n C d_X7_fraction_39 rfl ?_
          refine zr_iload_n C d_X7_fraction_40 rfl ?_
          refine zr_idiv C d_X7_fraction_41 hx ?_
          refine zr_goto C 48 d_X7_fraction_42 (by decide) ?_
          exact fin _ (by unfold o_Model_fraction; rw [if_pos c, ← e2])
      · refine zr_iload_n C d_X7_fraction_19 rfl ?_
        refine zr_iload C d_X7_fraction_20 rfl ?_
        refine zr_irem C d_X7_fraction_22 c ?_
        refine zr_istore C [zI above, zI below, zI (zb upper), zI x, zI y, zI (zrem x y)] d_X7_fraction_23 (Nat.le_of_ble_eq_true rfl) rfl rfl ?_
        refine zr_iload C d_X7_fraction_25 rfl ?_
        refine zr_istore_n C [zI above, zI below, zI (zb upper), zI y, zI y, zI (zrem x y)] d_X7_fraction_27 (Nat.le_of_ble_eq_true rfl) rfl rfl ?_
        refine zr_iload C d_X7_fraction_28 rfl ?_
        refine zr_istore C [zI above, zI below, zI (zb upper), zI y, zI (zrem x y), zI (zrem x y)] d_X7_fraction_30 (Nat.le_of_ble_eq_true rfl) rfl rfl ?_
        refine zr_goto C 14 d_X7_fraction_32 (by decide) ?_
        have hlt := ztmod_lt (x := x) c
        refine zr_lv [zI above, zI below, zI (zb upper), zI y, zI (zrem x y), none] (by simp [zle]) ?_
        refine ih _ (by rw [← hk]; exact hlt) y (zrem x y) rfl ?_ (fun q => c q.1)
        rw [← e]
        unfold o_Model_gcd
        rw [show y.toInt.natAbs = (y.toInt.natAbs - 1) + 1 by omega]
        show _ = if y = 0 then x else _
        rw [if_neg c]
        exact zgcd_fuel _ _ _ _ (Nat.le_refl _) (by omega)
  refine zr_iload_n C d_X7_fraction_0 rfl ?_
  have mid : ∀ x : Int32, x = (if 0 ≤ above then above else 0 - above) → zV X Γ Q 10 [zI above, zI below, zI (zb upper), none, none, none] [.int x] h g := by
    intro x ex
    refine zr_istore_n C [zI above, zI below, zI (zb upper), zI x, none, none] d_X7_fraction_10 (Nat.le_of_ble_eq_true rfl) rfl rfl ?_
    refine zr_iload_n C d_X7_fraction_11 rfl ?_
    refine zr_istore C [zI above, zI below, zI (zb upper), zI x, zI below, none] d_X7_fraction_12 (Nat.le_of_ble_eq_true rfl) rfl rfl ?_
    exact tail x below (by rw [ex]) (fun q => hbl q.2)
  refine zr_if_ge C 9 d_X7_fraction_1 (by decide) (fun c => ?_) (fun c => ?_)
  · refine zr_iload_n C d_X7_fraction_9 rfl ?_
    exact mid _ (by rw [if_pos c])
  · refine zr_iload_n C d_X7_fraction_4 rfl ?_
    refine zr_ineg C d_X7_fraction_5 ?_
    refine zr_goto C 10 d_X7_fraction_6 (by decide) ?_
    exact mid _ (by rw [if_neg c])
theorem zon (x : Int32) : ∃ j : Nat, j ≤ 8 ∧ o_Model_ones x = nI j := by
  unfold o_Model_ones
  refine zrep_inv (fun i (s : Int32) => ∃ j : Nat, j ≤ i ∧ s = nI j) 8 ⟨0, Nat.le_refl _, rfl⟩ (fun i s hi hI => ?_)
  obtain ⟨j, hj, e⟩ := hI
  obtain ⟨b, hb, e2⟩ := pk_andE (zsar x (nI i)) (m := 1) 1 rfl
  exact ⟨j + b, by omega, by rw [e, show zsar x (nI i) &&& 1 = nI b from e2, nI_add]⟩
theorem zon0 (x : Int32) : zcn (o_Model_ones x) < 2147483646 := by
  obtain ⟨j, hj, e⟩ := zon x
  rw [e, zcn_nI (by omega)]
  omega
theorem zonS {h : zHp} (f : zfit h 51 1 8) : zcn (h 51 1) < 2147483646 := by have := f.1; omega
theorem zon3 {h : zHp} (f : zfit h 51 1 8) (x : Int32) : zcn (h 51 1 - 1 - o_Model_ones x) < 2147483646 := by
  obtain ⟨j, hj, e⟩ := zon x
  have h1 := f.1
  have e2 : nI (zcn (h 51 1)) - 1 - nI j = nI (zcn (h 51 1)) - nI (1 + j) := by
    rw [← nI_add, Int32.sub_eq_add_neg, Int32.sub_eq_add_neg, Int32.sub_eq_add_neg, Int32.neg_add, Int32.sub_eq_add_neg, Int32.add_assoc]
    rfl
  rw [e, f.2, e2]
  exact zsubN (by omega) (by omega)
theorem zall {h : zHp} (f : zfit h 51 1 8) : zcn (o_Model_all h) ≤ 255 := by
  unfold o_Model_all
  have h1 := f.1
  rw [f.2]
  have key : ∀ n, n ≤ 8 → zcn (zshl 1 (nI n) - 1) ≤ 255 := by decide +kernel
  exact key _ h1
theorem zall0 {h : zHp} (f : zfit h 51 1 8) : o_Model_all h = nI (zcn (o_Model_all h)) := by
  unfold o_Model_all
  have h1 := f.1
  rw [f.2]
  have key : ∀ n, n ≤ 8 → zshl 1 (nI n) - 1 = nI (zcn (zshl 1 (nI n) - 1)) := by decide +kernel
  exact key _ h1
theorem zgt_no0 {y y0 : Int32} {m : Nat} (e : y = y0) (hy : y0 = nI (zcn y0)) (h : m < zcn y0 + 1) : ¬ y < nI m := by
  rw [e, hy]
  exact nI_nlt (by omega) (zcn_small _)
theorem znor (a b : Nat) : nI a ||| nI b = nI (a ||| b) := by
  apply Int32.toBitVec_inj.1
  show BitVec.ofNat 32 a ||| BitVec.ofNat 32 b = BitVec.ofNat 32 (a ||| b)
  apply BitVec.eq_of_getLsbD_eq
  intro i hi
  simp [hi]
theorem zorb {i : Nat} {s : Int32} (hi : i < 256) (e : s = nI (zcn s)) (hs : zcn s < 8) : nI i ||| zshl 1 s = nI (i ||| 2 ^ zcn s) := by
  have key : ∀ k, k < 8 → zshl 1 (nI k) = nI (2 ^ k) := by decide +kernel
  rw [e, zcn_nI (by omega), key _ hs]
  exact znor i (2 ^ zcn s)
theorem zorl {i k : Nat} (hi : i < 256) (hk : k < 8) : i ||| 2 ^ k < 256 := Nat.or_lt_two_pow (n := 8) hi (Nat.pow_lt_pow_right (by decide) hk)
theorem zfact_ne {h : zHp} (f : zfit h 51 1 8) : ¬ o_Model_factorial (h 51 1) = 0 := by
  have h1 := f.1
  rw [f.2]
  have key : ∀ n, n ≤ 8 → ¬ o_Model_factorial (nI n) = 0 := by decide +kernel
  exact key _ h1
theorem zpow_ne {h : zHp} (f : zfit h 51 1 8) : ¬ o_Model_power 10 (h 51 1) = 0 := by
  have h1 := f.1
  rw [f.2]
  have key : ∀ n, n ≤ 8 → ¬ o_Model_power 10 (nI n) = 0 := by decide +kernel
  exact key _ h1

theorem d_X7_share_0 : decode prog_9_method_73_code 0 = .ok (.aload_n 0, 1) := by decide +kernel
theorem d_X7_share_1 : decode prog_9_method_73_code 1 = .ok (.iload_n 1, 1) := by decide +kernel
theorem d_X7_share_2 : decode prog_9_method_73_code 2 = .ok (.invokevirtual 212, 3) := by decide +kernel
theorem d_X7_share_5 : decode prog_9_method_73_code 5 = .ok (.ifCond .ne 5, 3) := by decide +kernel
theorem d_X7_share_8 : decode prog_9_method_73_code 8 = .ok (.iconst (-1), 1) := by decide +kernel
theorem d_X7_share_9 : decode prog_9_method_73_code 9 = .ok (.ireturn, 1) := by decide +kernel
theorem d_X7_share_10 : decode prog_9_method_73_code 10 = .ok (.iconst 0, 1) := by decide +kernel
theorem d_X7_share_11 : decode prog_9_method_73_code 11 = .ok (.istore_n 3, 1) := by decide +kernel
theorem d_X7_share_12 : decode prog_9_method_73_code 12 = .ok (.iload_n 3, 1) := by decide +kernel
theorem d_X7_share_13 : decode prog_9_method_73_code 13 = .ok (.aload_n 0, 1) := by decide +kernel
theorem d_X7_share_14 : decode prog_9_method_73_code 14 = .ok (.invokevirtual 159, 3) := by decide +kernel
theorem d_X7_share_17 : decode prog_9_method_73_code 17 = .ok (.if_icmp .gt 23, 3) := by decide +kernel
theorem d_X7_share_20 : decode prog_9_method_73_code 20 = .ok (.aload_n 0, 1) := by decide +kernel
theorem d_X7_share_21 : decode prog_9_method_73_code 21 = .ok (.getfield 65, 3) := by decide +kernel
theorem d_X7_share_24 : decode prog_9_method_73_code 24 = .ok (.iload_n 3, 1) := by decide +kernel
theorem d_X7_share_25 : decode prog_9_method_73_code 25 = .ok (.aload_n 0, 1) := by decide +kernel
theorem d_X7_share_26 : decode prog_9_method_73_code 26 = .ok (.iload_n 3, 1) := by decide +kernel
theorem d_X7_share_27 : decode prog_9_method_73_code 27 = .ok (.invokevirtual 276, 3) := by decide +kernel
theorem d_X7_share_30 : decode prog_9_method_73_code 30 = .ok (.invokestatic 191, 3) := by decide +kernel
theorem d_X7_share_33 : decode prog_9_method_73_code 33 = .ok (.iastore, 1) := by decide +kernel
theorem d_X7_share_34 : decode prog_9_method_73_code 34 = .ok (.iinc 3 1, 3) := by decide +kernel
theorem d_X7_share_37 : decode prog_9_method_73_code 37 = .ok (.goto (-25), 3) := by decide +kernel
theorem d_X7_share_40 : decode prog_9_method_73_code 40 = .ok (.iconst 0, 1) := by decide +kernel
theorem d_X7_share_41 : decode prog_9_method_73_code 41 = .ok (.istore_n 3, 1) := by decide +kernel
theorem d_X7_share_42 : decode prog_9_method_73_code 42 = .ok (.iconst 0, 1) := by decide +kernel
theorem d_X7_share_43 : decode prog_9_method_73_code 43 = .ok (.istore 4, 2) := by decide +kernel
theorem d_X7_share_45 : decode prog_9_method_73_code 45 = .ok (.iload 4, 2) := by decide +kernel
theorem d_X7_share_47 : decode prog_9_method_73_code 47 = .ok (.aload_n 0, 1) := by decide +kernel
theorem d_X7_share_48 : decode prog_9_method_73_code 48 = .ok (.invokevirtual 159, 3) := by decide +kernel
theorem d_X7_share_51 : decode prog_9_method_73_code 51 = .ok (.if_icmp .gt 70, 3) := by decide +kernel
theorem d_X7_share_54 : decode prog_9_method_73_code 54 = .ok (.iload 4, 2) := by decide +kernel
theorem d_X7_share_56 : decode prog_9_method_73_code 56 = .ok (.invokestatic 191, 3) := by decide +kernel
theorem d_X7_share_59 : decode prog_9_method_73_code 59 = .ok (.istore 5, 2) := by decide +kernel
theorem d_X7_share_61 : decode prog_9_method_73_code 61 = .ok (.iload_n 3, 1) := by decide +kernel
theorem d_X7_share_62 : decode prog_9_method_73_code 62 = .ok (.iload 4, 2) := by decide +kernel
theorem d_X7_share_64 : decode prog_9_method_73_code 64 = .ok (.iload_n 1, 1) := by decide +kernel
theorem d_X7_share_65 : decode prog_9_method_73_code 65 = .ok (.invokestatic 107, 3) := by decide +kernel
theorem d_X7_share_68 : decode prog_9_method_73_code 68 = .ok (.ifCond .eq 7, 3) := by decide +kernel
theorem d_X7_share_71 : decode prog_9_method_73_code 71 = .ok (.iconst 0, 1) := by decide +kernel
theorem d_X7_share_72 : decode prog_9_method_73_code 72 = .ok (.goto 41, 3) := by decide +kernel
theorem d_X7_share_75 : decode prog_9_method_73_code 75 = .ok (.iload 5, 2) := by decide +kernel
theorem d_X7_share_77 : decode prog_9_method_73_code 77 = .ok (.invokestatic 279, 3) := by decide +kernel
theorem d_X7_share_80 : decode prog_9_method_73_code 80 = .ok (.aload_n 0, 1) := by decide +kernel
theorem d_X7_share_81 : decode prog_9_method_73_code 81 = .ok (.getfield 72, 3) := by decide +kernel
theorem d_X7_share_84 : decode prog_9_method_73_code 84 = .ok (.iconst 1, 1) := by decide +kernel
theorem d_X7_share_85 : decode prog_9_method_73_code 85 = .ok (.isub, 1) := by decide +kernel
theorem d_X7_share_86 : decode prog_9_method_73_code 86 = .ok (.iload 5, 2) := by decide +kernel
theorem d_X7_share_88 : decode prog_9_method_73_code 88 = .ok (.isub, 1) := by decide +kernel
theorem d_X7_share_89 : decode prog_9_method_73_code 89 = .ok (.invokestatic 279, 3) := by decide +kernel
theorem d_X7_share_92 : decode prog_9_method_73_code 92 = .ok (.imul, 1) := by decide +kernel
theorem d_X7_share_93 : decode prog_9_method_73_code 93 = .ok (.aload_n 0, 1) := by decide +kernel
theorem d_X7_share_94 : decode prog_9_method_73_code 94 = .ok (.getfield 65, 3) := by decide +kernel
theorem d_X7_share_97 : decode prog_9_method_73_code 97 = .ok (.iload 4, 2) := by decide +kernel
theorem d_X7_share_99 : decode prog_9_method_73_code 99 = .ok (.iconst 1, 1) := by decide +kernel
theorem d_X7_share_100 : decode prog_9_method_73_code 100 = .ok (.iload_n 1, 1) := by decide +kernel
theorem d_X7_share_101 : decode prog_9_method_73_code 101 = .ok (.ishl, 1) := by decide +kernel
theorem d_X7_share_102 : decode prog_9_method_73_code 102 = .ok (.ior, 1) := by decide +kernel
theorem d_X7_share_103 : decode prog_9_method_73_code 103 = .ok (.iaload, 1) := by decide +kernel
theorem d_X7_share_104 : decode prog_9_method_73_code 104 = .ok (.aload_n 0, 1) := by decide +kernel
theorem d_X7_share_105 : decode prog_9_method_73_code 105 = .ok (.getfield 65, 3) := by decide +kernel
theorem d_X7_share_108 : decode prog_9_method_73_code 108 = .ok (.iload 4, 2) := by decide +kernel
theorem d_X7_share_110 : decode prog_9_method_73_code 110 = .ok (.iaload, 1) := by decide +kernel
theorem d_X7_share_111 : decode prog_9_method_73_code 111 = .ok (.isub, 1) := by decide +kernel
theorem d_X7_share_112 : decode prog_9_method_73_code 112 = .ok (.imul, 1) := by decide +kernel
theorem d_X7_share_113 : decode prog_9_method_73_code 113 = .ok (.iadd, 1) := by decide +kernel
theorem d_X7_share_114 : decode prog_9_method_73_code 114 = .ok (.istore_n 3, 1) := by decide +kernel
theorem d_X7_share_115 : decode prog_9_method_73_code 115 = .ok (.iinc 4 1, 3) := by decide +kernel
theorem d_X7_share_118 : decode prog_9_method_73_code 118 = .ok (.goto (-73), 3) := by decide +kernel
theorem d_X7_share_121 : decode prog_9_method_73_code 121 = .ok (.iload_n 3, 1) := by decide +kernel
theorem d_X7_share_122 : decode prog_9_method_73_code 122 = .ok (.aload_n 0, 1) := by decide +kernel
theorem d_X7_share_123 : decode prog_9_method_73_code 123 = .ok (.getfield 72, 3) := by decide +kernel
theorem d_X7_share_126 : decode prog_9_method_73_code 126 = .ok (.invokestatic 279, 3) := by decide +kernel
theorem d_X7_share_129 : decode prog_9_method_73_code 129 = .ok (.iload_n 2, 1) := by decide +kernel
theorem d_X7_share_130 : decode prog_9_method_73_code 130 = .ok (.invokestatic 282, 3) := by decide +kernel
theorem d_X7_share_133 : decode prog_9_method_73_code 133 = .ok (.ireturn, 1) := by decide +kernel
abbrev M_Model_share : zMT := (⟨"PeriodSlotsModel", "share", "(IZ)I"⟩, prog_9_method_73_code, 6, (some .int))
theorem k_Model_share : zcall M_Model_share 2 := ⟨zU_in (i := 1112) (by decide +kernel) rfl, m62, ⟨by decide, by decide, by decide +kernel⟩, by decide⟩
def o_Model_share (h : zHp) (s : Int32) (upper : Bool) : Int32 × zHp :=
  (if (o_Model_isStation h s) = true then ((o_Model_fraction (zrep (fun (i45_6 : Nat) (s45_6 : Int32) => (s45_6 + (if (o_Model_has (nI i45_6) s) = true then 0 else (((o_Model_factorial (o_Model_ones (nI i45_6))) * (o_Model_factorial (((h 51 1) - 1) - (o_Model_ones (nI i45_6))))) * (((zrep (fun (i12_2 : Nat) (s12_2 : zHp) => (zup ((o_Model_runWith s12_2 (nI i12_2)).2) 70 i12_2 (o_Model_ones ((o_Model_runWith s12_2 (nI i12_2)).1)))) h (zcn (o_Model_all h) + 1)) 70 (i45_6 ||| 2 ^ zcn s)) - ((zrep (fun (i12_2 : Nat) (s12_2 : zHp) => (zup ((o_Model_runWith s12_2 (nI i12_2)).2) 70 i12_2 (o_Model_ones ((o_Model_runWith s12_2 (nI i12_2)).1)))) h (zcn (o_Model_all h) + 1)) 70 i45_6)))))) 0 (zcn (o_Model_all h) + 1)) (o_Model_factorial (h 51 1)) upper), (zrep (fun (i12_2 : Nat) (s12_2 : zHp) => (zup ((o_Model_runWith s12_2 (nI i12_2)).2) 70 i12_2 (o_Model_ones ((o_Model_runWith s12_2 (nI i12_2)).1)))) h (zcn (o_Model_all h) + 1))) else ((-1), h))
theorem fr_Model_share {h : zHp} {s : Int32} {upper : Bool} (c k : Nat) (q0 : ¬ (c = 51 ∧ k = 9)) (q1 : c ≠ 66) (q2 : c ≠ 56) (q3 : ¬ (c = 51 ∧ k = 10)) (q4 : ¬ (c = 51 ∧ k = 11)) (q5 : c ≠ 67) (q6 : c ≠ 68) (q7 : c ≠ 70) : (o_Model_share h s upper).2 c k = h c k := by
  unfold o_Model_share
  by_cases f1 : (o_Model_isStation h s) = true
  · rw [if_pos f1]
    have hI12_2 := zrep_inv (f := (fun (i12_2 : Nat) (s12_2 : zHp) => (zup ((o_Model_runWith s12_2 (nI i12_2)).2) 70 i12_2 (o_Model_ones ((o_Model_runWith s12_2 (nI i12_2)).1))))) (a := h) (fun _ s12_2 => ∀ c k : Nat, ¬ (c = 51 ∧ k = 9) → c ≠ 66 → c ≠ 56 → ¬ (c = 51 ∧ k = 10) → ¬ (c = 51 ∧ k = 11) → c ≠ 67 → c ≠ 68 → c ≠ 70 → s12_2 c k = h c k) (zcn (o_Model_all h) + 1) (fun _ _ _ _ _ _ _ _ _ _ => rfl) (fun i12_2 s12_2 hi12_2 hI12_2 => (fun c k q0 q1 q2 q3 q4 q5 q6 q7 => (by (try dsimp only); exact ((zup_fr (Or.inl (by assumption))).trans ((fr_Model_runWith _ _ (by assumption) (by assumption) (by assumption) (by assumption) (by assumption) (by assumption) (by assumption)).trans (hI12_2 _ _ (by assumption) (by assumption) (by assumption) (by assumption) (by assumption) (by assumption) (by assumption) (by assumption)))))))
    try dsimp only
    first | done | exact (hI12_2 _ _ (by assumption) (by assumption) (by assumption) (by assumption) (by assumption) (by assumption) (by assumption) (by assumption))
  · rw [if_neg f1]
    try dsimp only
    first | done | exact rfl
set_option maxHeartbeats 400000 in
set_option maxRecDepth 20000 in
theorem c_Model_share (X : zXT) (h : zHp) (g : zLg) (s : Int32) (upper : Bool) (hf0 : zfit h 51 1 8) (hper : zper h) : zDi X M_Model_share 9 [zR X 51, .int s, .int (zb upper)] h g (zI ((o_Model_share h s upper).1)) ((o_Model_share h s upper).2) g := by
  have hf0_1 := hf0.1
  refine zDi_of "PeriodSlotsModel" prog_9_method_73_code 6 (some .int) rfl (by decide) [zO X 51, zI s, zI (zb upper), none, none, none] rfl (fun _ q => q) (Nat.le_of_ble_eq_true rfl) ?_
  intro Γ Q C hQ
  refine zr_aload_n C d_X7_share_0 rfl ?_
  refine zr_iload_n C d_X7_share_1 rfl ?_
  refine zr_callVi (As := [.int s]) (st := []) (c := 51) C (c_Model_isStation X h g s) k_Model_isStation m980 m982 m40 (by decide) (zC_Model X _ _) rfl rfl (by decide) rfl (Nat.le_of_ble_eq_true rfl) d_X7_share_2 ?_
  refine zr_ifz_ne C 10 d_X7_share_5 (by decide) (fun c5 => ?_) (fun c5 => ?_)
  · have ex1 := zist hf0 c5
    have ex1_2 := ex1.2
    have ex1_b := (hf0).1
    have ea := zall hf0
    refine zr_iconst C (v := 0) d_X7_share_10 (by decide) ?_
    refine zr_istore_n C [zO X 51, zI s, zI (zb upper), zI 0, none, none] d_X7_share_11 (Nat.le_of_ble_eq_true rfl) rfl rfl ?_
    refine zfor (f := (fun (i12_2 : Nat) (s12_2 : zHp) => (zup ((o_Model_runWith s12_2 (nI i12_2)).2) 70 i12_2 (o_Model_ones ((o_Model_runWith s12_2 (nI i12_2)).1))))) (a := h) (fun i12_2 s12_2 => zV X Γ Q 12 [zO X 51, zI s, zI (zb upper), zI (nI i12_2), none, none] [] s12_2 g) (fun _ s12_2 => ∀ c k : Nat, ¬ (c = 51 ∧ k = 9) → c ≠ 66 → c ≠ 56 → ¬ (c = 51 ∧ k = 10) → ¬ (c = 51 ∧ k = 11) → c ≠ 67 → c ≠ 68 → c ≠ 70 → s12_2 c k = h c k) (zcn (o_Model_all h) + 1) (fun _ _ _ _ _ _ _ _ _ _ => rfl) (fun i12_2 s12_2 hi12_2 hI12_2 => ⟨(fun c k q0 q1 q2 q3 q4 q5 q6 q7 => (by (try dsimp only); exact ((zup_fr (Or.inl (by assumption))).trans ((fr_Model_runWith _ _ (by assumption) (by assumption) (by assumption) (by assumption) (by assumption) (by assumption) (by assumption)).trans (hI12_2 _ _ (by assumption) (by assumption) (by assumption) (by assumption) (by assumption) (by assumption) (by assumption) (by assumption)))))), fun hk12_2 => ?_⟩) (fun r12_2 er12_2 hI12_2 => ?_)
    · refine zr_iload_n C d_X7_share_12 rfl ?_
      refine zr_aload_n C d_X7_share_13 rfl ?_
      refine zr_callVi (As := []) (st := [.int (nI i12_2)]) (c := 51) C (c_Model_all X s12_2 g ) k_Model_all m901 m903 m25 (by decide) (zC_Model X _ _) rfl rfl (by decide) rfl (Nat.le_of_ble_eq_true rfl) d_X7_share_14 ?_
      refine zr_top (rd_Model_all (hI12_2 _ _ (by omega) (by omega) (by omega) (by omega) (by omega) (by omega) (by omega) (by omega))) ?_
      refine zr_icmp_gt C 40 d_X7_share_17 (by decide) (fun c => absurd c (zgt_no0 rfl (zall0 hf0) (by omega))) (fun _ => ?_)
      refine zr_aload_n C d_X7_share_20 rfl ?_
      refine gf_Model_31 C m784 d_X7_share_21 ?_
      refine zr_iload_n C d_X7_share_24 rfl ?_
      refine zr_aload_n C d_X7_share_25 rfl ?_
      refine zr_iload_n C d_X7_share_26 rfl ?_
      refine zr_callVi (As := [.int (nI i12_2)]) (st := [.int (nI i12_2), zR X 70]) (c := 51) C (c_Model_runWith X s12_2 g (nI i12_2) (zfit_fr (hI12_2 _ _ (by omega) (by omega) (by omega) (by omega) (by omega) (by omega) (by omega) (by omega)) hf0) (zper_fr (hI12_2 _ _ (by omega) (by omega) (by omega) (by omega) (by omega) (by omega) (by omega) (by omega)) (fun v => (hI12_2 _ _ (by omega) (by omega) (by omega) (by omega) (by omega) (by omega) (by omega) (by omega))) hper)) k_Model_runWith m1113 m1115 m52 (by decide) (zC_Model X _ _) rfl rfl (by decide) rfl (Nat.le_of_ble_eq_true rfl) d_X7_share_27 ?_
      refine zr_vi (fun y3 ey3 => ?_)
      refine zr_h (fun h4 eh4 => ?_)
      refine zr_callSi (As := [.int y3]) (st := [.int (nI i12_2), zR X 70]) C (c_Model_ones X h4 g y3) k_Model_ones m917 m918 rfl (by decide) rfl (Nat.le_of_ble_eq_true rfl) d_X7_share_30 ?_
      refine zr_iast C za_70 (i12_2) rfl (by omega) (by decide) d_X7_share_33 ?_
      refine zr_h (fun h5 eh5 => ?_)
      refine zr_iinc C [zO X 51, zI s, zI (zb upper), zI (nI (i12_2 + 1)), none, none] (v := (nI (i12_2 + 1))) d_X7_share_34 rfl (zn_add rfl rfl) (Nat.le_of_ble_eq_true rfl) rfl rfl ?_
      refine zr_goto C 12 d_X7_share_37 (by decide) ?_
      exact hk12_2 h5 (by subst eh5 eh4 ey3; exact rfl)
    refine zr_iload_n C d_X7_share_12 rfl ?_
    refine zr_aload_n C d_X7_share_13 rfl ?_
    refine zr_callVi (As := []) (st := [.int (nI (zcn (o_Model_all h) + 1))]) (c := 51) C (c_Model_all X r12_2 g ) k_Model_all m901 m903 m25 (by decide) (zC_Model X _ _) rfl rfl (by decide) rfl (Nat.le_of_ble_eq_true rfl) d_X7_share_14 ?_
    refine zr_top (rd_Model_all (hI12_2 _ _ (by omega) (by omega) (by omega) (by omega) (by omega) (by omega) (by omega) (by omega))) ?_
    refine zr_icmp_gt C 40 d_X7_share_17 (by decide) (fun _ => ?_) (fun c => absurd (zgt_yes rfl (by omega) (by have := zcn_small (o_Model_all h); omega)) c)
    refine zr_iconst C (v := 0) d_X7_share_40 (by decide) ?_
    refine zr_istore_n C [zO X 51, zI s, zI (zb upper), zI 0, none, none] d_X7_share_41 (Nat.le_of_ble_eq_true rfl) rfl rfl ?_
    refine zr_iconst C (v := 0) d_X7_share_42 (by decide) ?_
    refine zr_istore C [zO X 51, zI s, zI (zb upper), zI 0, zI 0, none] d_X7_share_43 (Nat.le_of_ble_eq_true rfl) rfl rfl ?_
    refine zfor (f := (fun (i45_6 : Nat) (s45_6 : Int32) => (s45_6 + (if (o_Model_has (nI i45_6) s) = true then 0 else (((o_Model_factorial (o_Model_ones (nI i45_6))) * (o_Model_factorial (((h 51 1) - 1) - (o_Model_ones (nI i45_6))))) * ((r12_2 70 (i45_6 ||| 2 ^ zcn s)) - (r12_2 70 i45_6))))))) (a := 0) (fun i45_6 s45_6 => zV X Γ Q 45 [zO X 51, zI s, zI (zb upper), zI s45_6, zI (nI i45_6), none] [] r12_2 g) (fun _ _ => True) (zcn (o_Model_all h) + 1) trivial (fun i45_6 s45_6 hi45_6 hI45_6 => ⟨trivial, fun hk45_6 => ?_⟩) (fun r45_6 er45_6 hI45_6 => ?_)
    · refine zr_iload C d_X7_share_45 rfl ?_
      refine zr_aload_n C d_X7_share_47 rfl ?_
      refine zr_callVi (As := []) (st := [.int (nI i45_6)]) (c := 51) C (c_Model_all X r12_2 g ) k_Model_all m901 m903 m25 (by decide) (zC_Model X _ _) rfl rfl (by decide) rfl (Nat.le_of_ble_eq_true rfl) d_X7_share_48 ?_
      refine zr_top (rd_Model_all (hI12_2 _ _ (by omega) (by omega) (by omega) (by omega) (by omega) (by omega) (by omega) (by omega))) ?_
      refine zr_icmp_gt C 121 d_X7_share_51 (by decide) (fun c => absurd c (zgt_no0 rfl (zall0 hf0) (by omega))) (fun _ => ?_)
      refine zr_iload C d_X7_share_54 rfl ?_
      refine zr_callSi (As := [.int (nI i45_6)]) (st := []) C (c_Model_ones X r12_2 g (nI i45_6)) k_Model_ones m917 m918 rfl (by decide) rfl (Nat.le_of_ble_eq_true rfl) d_X7_share_56 ?_
      refine zr_istore C [zO X 51, zI s, zI (zb upper), zI s45_6, zI (nI i45_6), zI (o_Model_ones (nI i45_6))] d_X7_share_59 (Nat.le_of_ble_eq_true rfl) rfl rfl ?_
      refine zr_iload_n C d_X7_share_61 rfl ?_
      refine zr_iload C d_X7_share_62 rfl ?_
      refine zr_iload_n C d_X7_share_64 rfl ?_
      refine zr_callSi (As := [.int (nI i45_6), .int s]) (st := [.int s45_6]) C (c_Model_has X r12_2 g (nI i45_6) s) k_Model_has m890 m891 rfl (by decide) rfl (Nat.le_of_ble_eq_true rfl) d_X7_share_65 ?_
      suffices hJ68 : ∀ (y7 : Int32), (if (o_Model_has (nI i45_6) s) = true then 0 else (((o_Model_factorial (o_Model_ones (nI i45_6))) * (o_Model_factorial (((h 51 1) - 1) - (o_Model_ones (nI i45_6))))) * ((r12_2 70 (i45_6 ||| 2 ^ zcn s)) - (r12_2 70 i45_6)))) = y7 → zV X Γ Q 113 [zO X 51, zI s, zI (zb upper), none, zI (nI i45_6), none] [.int y7, .int s45_6] r12_2 g by
        refine zr_ifz_eq C 75 d_X7_share_68 (by decide) (fun c68 => ?_) (fun c68 => ?_)
        · refine zr_iload C d_X7_share_75 rfl ?_
          refine zr_callSi (As := [.int (o_Model_ones (nI i45_6))]) (st := [.int s45_6]) C (c_Model_factorial X r12_2 g (o_Model_ones (nI i45_6)) (by with_reducible first | exact zon0 _ | exact zon3 hf0 _ | exact zonS hf0)) k_Model_factorial m1117 m1118 rfl (by decide) rfl (Nat.le_of_ble_eq_true rfl) d_X7_share_77 ?_
          refine zr_aload_n C d_X7_share_80 rfl ?_
          refine gf_Model_2 C m755 d_X7_share_81 ?_
          refine zr_top (hI12_2 _ _ (by omega) (by omega) (by omega) (by omega) (by omega) (by omega) (by omega) (by omega)) ?_
          refine zr_iconst C (v := 1) d_X7_share_84 (by decide) ?_
          refine zr_isub C d_X7_share_85 ?_
          refine zr_iload C d_X7_share_86 rfl ?_
          refine zr_isub C d_X7_share_88 ?_
          refine zr_callSi (As := [.int (((h 51 1) - 1) - (o_Model_ones (nI i45_6)))]) (st := [.int (o_Model_factorial (o_Model_ones (nI i45_6))), .int s45_6]) C (c_Model_factorial X r12_2 g (((h 51 1) - 1) - (o_Model_ones (nI i45_6))) (by with_reducible first | exact zon0 _ | exact zon3 hf0 _ | exact zonS hf0)) k_Model_factorial m1117 m1118 rfl (by decide) rfl (Nat.le_of_ble_eq_true rfl) d_X7_share_89 ?_
          refine zr_imul C d_X7_share_92 ?_
          refine zr_aload_n C d_X7_share_93 rfl ?_
          refine gf_Model_31 C m784 d_X7_share_94 ?_
          refine zr_iload C d_X7_share_97 rfl ?_
          refine zr_iconst C (v := 1) d_X7_share_99 (by decide) ?_
          refine zr_iload_n C d_X7_share_100 rfl ?_
          refine zr_ishl C d_X7_share_101 ?_
          refine zr_ior C d_X7_share_102 ?_
          refine zr_iald C za_70 (i45_6 ||| 2 ^ zcn s) (zorb (by omega) (zix ex1.1) (by omega)) (zorl (by omega) (by omega)) (by decide) d_X7_share_103 ?_
          refine zr_aload_n C d_X7_share_104 rfl ?_
          refine gf_Model_31 C m784 d_X7_share_105 ?_
          refine zr_iload C d_X7_share_108 rfl ?_
          refine zr_iald C za_70 (i45_6) rfl (by omega) (by decide) d_X7_share_110 ?_
          refine zr_isub C d_X7_share_111 ?_
          refine zr_imul C d_X7_share_112 ?_
          refine zr_lv [zO X 51, zI s, zI (zb upper), none, zI (nI i45_6), none] (by simp [zle]) ?_
          exact hJ68 (((o_Model_factorial (o_Model_ones (nI i45_6))) * (o_Model_factorial (((h 51 1) - 1) - (o_Model_ones (nI i45_6))))) * ((r12_2 70 (i45_6 ||| 2 ^ zcn s)) - (r12_2 70 i45_6))) (((if_neg (zbf c68))))
        · refine zr_iconst C (v := 0) d_X7_share_71 (by decide) ?_
          refine zr_goto C 113 d_X7_share_72 (by decide) ?_
          refine zr_lv [zO X 51, zI s, zI (zb upper), none, zI (nI i45_6), none] (by simp [zle]) ?_
          exact hJ68 0 (((if_pos c68)))
      intro y7 ey7
      refine zr_iadd C d_X7_share_113 ?_
      refine zr_istore_n C [zO X 51, zI s, zI (zb upper), zI (s45_6 + y7), zI (nI i45_6), none] d_X7_share_114 (Nat.le_of_ble_eq_true rfl) rfl rfl ?_
      refine zr_iinc C [zO X 51, zI s, zI (zb upper), zI (s45_6 + y7), zI (nI (i45_6 + 1)), none] (v := (nI (i45_6 + 1))) d_X7_share_115 rfl (zn_add rfl rfl) (Nat.le_of_ble_eq_true rfl) rfl rfl ?_
      refine zr_goto C 45 d_X7_share_118 (by decide) ?_
      exact hk45_6 (s45_6 + y7) (by subst ey7; exact rfl)
    refine zr_iload C d_X7_share_45 rfl ?_
    refine zr_aload_n C d_X7_share_47 rfl ?_
    refine zr_callVi (As := []) (st := [.int (nI (zcn (o_Model_all h) + 1))]) (c := 51) C (c_Model_all X r12_2 g ) k_Model_all m901 m903 m25 (by decide) (zC_Model X _ _) rfl rfl (by decide) rfl (Nat.le_of_ble_eq_true rfl) d_X7_share_48 ?_
    refine zr_top (rd_Model_all (hI12_2 _ _ (by omega) (by omega) (by omega) (by omega) (by omega) (by omega) (by omega) (by omega))) ?_
    refine zr_icmp_gt C 121 d_X7_share_51 (by decide) (fun _ => ?_) (fun c => absurd (zgt_yes rfl (by omega) (by have := zcn_small (o_Model_all h); omega)) c)
    refine zr_iload_n C d_X7_share_121 rfl ?_
    refine zr_aload_n C d_X7_share_122 rfl ?_
    refine gf_Model_2 C m755 d_X7_share_123 ?_
    refine zr_top (hI12_2 _ _ (by omega) (by omega) (by omega) (by omega) (by omega) (by omega) (by omega) (by omega)) ?_
    refine zr_callSi (As := [.int (h 51 1)]) (st := [.int r45_6]) C (c_Model_factorial X r12_2 g (h 51 1) (by with_reducible first | exact zon0 _ | exact zon3 hf0 _ | exact zonS hf0)) k_Model_factorial m1117 m1118 rfl (by decide) rfl (Nat.le_of_ble_eq_true rfl) d_X7_share_126 ?_
    refine zr_iload_n C d_X7_share_129 rfl ?_
    refine zr_callSi (As := [.int r45_6, .int (o_Model_factorial (h 51 1)), .int (zb upper)]) (st := []) C (c_Model_fraction X r12_2 g r45_6 (o_Model_factorial (h 51 1)) upper (zfact_ne hf0)) k_Model_fraction m1120 m1121 rfl (by decide) rfl (Nat.le_of_ble_eq_true rfl) d_X7_share_130 ?_
    have eR : o_Model_share h s upper = ((o_Model_fraction r45_6 (o_Model_factorial (h 51 1)) upper), r12_2) := (by subst er45_6 er12_2; unfold o_Model_share; rw [if_pos c5])
    subst hQ
    exact zTQ_Ih eR (zr_ireti C d_X7_share_133)
  · refine zr_iconst C (v := (-1)) d_X7_share_8 (by decide) ?_
    have eR : o_Model_share h s upper = ((-1), h) := (by unfold o_Model_share; rw [if_neg (zbf c5)])
    subst hQ
    exact zTQ_Ih eR (zr_ireti C d_X7_share_9)
theorem d_X7_off_0 : decode prog_9_method_74_code 0 = .ok (.iload_n 1, 1) := by decide +kernel
theorem d_X7_off_1 : decode prog_9_method_74_code 1 = .ok (.i2l, 1) := by decide +kernel
theorem d_X7_off_2 : decode prog_9_method_74_code 2 = .ok (.lconst 0, 1) := by decide +kernel
theorem d_X7_off_3 : decode prog_9_method_74_code 3 = .ok (.ldc2_w 286, 3) := by decide +kernel
theorem d_X7_off_6 : decode prog_9_method_74_code 6 = .ok (.invokestatic 76, 3) := by decide +kernel
theorem d_X7_off_9 : decode prog_9_method_74_code 9 = .ok (.ifCond .ne 6, 3) := by decide +kernel
theorem d_X7_off_12 : decode prog_9_method_74_code 12 = .ok (.bipush (-2), 2) := by decide +kernel
theorem d_X7_off_14 : decode prog_9_method_74_code 14 = .ok (.ireturn, 1) := by decide +kernel
theorem d_X7_off_15 : decode prog_9_method_74_code 15 = .ok (.iconst 0, 1) := by decide +kernel
theorem d_X7_off_16 : decode prog_9_method_74_code 16 = .ok (.istore_n 3, 1) := by decide +kernel
theorem d_X7_off_17 : decode prog_9_method_74_code 17 = .ok (.iconst 0, 1) := by decide +kernel
theorem d_X7_off_18 : decode prog_9_method_74_code 18 = .ok (.istore 4, 2) := by decide +kernel
theorem d_X7_off_20 : decode prog_9_method_74_code 20 = .ok (.iload 4, 2) := by decide +kernel
theorem d_X7_off_22 : decode prog_9_method_74_code 22 = .ok (.aload_n 0, 1) := by decide +kernel
theorem d_X7_off_23 : decode prog_9_method_74_code 23 = .ok (.invokevirtual 159, 3) := by decide +kernel
theorem d_X7_off_26 : decode prog_9_method_74_code 26 = .ok (.if_icmp .gt 54, 3) := by decide +kernel
theorem d_X7_off_29 : decode prog_9_method_74_code 29 = .ok (.iload_n 3, 1) := by decide +kernel
theorem d_X7_off_30 : decode prog_9_method_74_code 30 = .ok (.aload_n 0, 1) := by decide +kernel
theorem d_X7_off_31 : decode prog_9_method_74_code 31 = .ok (.iload 4, 2) := by decide +kernel
theorem d_X7_off_33 : decode prog_9_method_74_code 33 = .ok (.invokevirtual 276, 3) := by decide +kernel
theorem d_X7_off_36 : decode prog_9_method_74_code 36 = .ok (.iload 4, 2) := by decide +kernel
theorem d_X7_off_38 : decode prog_9_method_74_code 38 = .ok (.if_icmp .ne 33, 3) := by decide +kernel
theorem d_X7_off_41 : decode prog_9_method_74_code 41 = .ok (.bipush 10, 2) := by decide +kernel
theorem d_X7_off_43 : decode prog_9_method_74_code 43 = .ok (.iload_n 1, 1) := by decide +kernel
theorem d_X7_off_44 : decode prog_9_method_74_code 44 = .ok (.isub, 1) := by decide +kernel
theorem d_X7_off_45 : decode prog_9_method_74_code 45 = .ok (.iload 4, 2) := by decide +kernel
theorem d_X7_off_47 : decode prog_9_method_74_code 47 = .ok (.invokestatic 191, 3) := by decide +kernel
theorem d_X7_off_50 : decode prog_9_method_74_code 50 = .ok (.invokestatic 288, 3) := by decide +kernel
theorem d_X7_off_53 : decode prog_9_method_74_code 53 = .ok (.iload_n 1, 1) := by decide +kernel
theorem d_X7_off_54 : decode prog_9_method_74_code 54 = .ok (.aload_n 0, 1) := by decide +kernel
theorem d_X7_off_55 : decode prog_9_method_74_code 55 = .ok (.getfield 72, 3) := by decide +kernel
theorem d_X7_off_58 : decode prog_9_method_74_code 58 = .ok (.iload 4, 2) := by decide +kernel
theorem d_X7_off_60 : decode prog_9_method_74_code 60 = .ok (.invokestatic 191, 3) := by decide +kernel
theorem d_X7_off_63 : decode prog_9_method_74_code 63 = .ok (.isub, 1) := by decide +kernel
theorem d_X7_off_64 : decode prog_9_method_74_code 64 = .ok (.invokestatic 288, 3) := by decide +kernel
theorem d_X7_off_67 : decode prog_9_method_74_code 67 = .ok (.imul, 1) := by decide +kernel
theorem d_X7_off_68 : decode prog_9_method_74_code 68 = .ok (.goto 4, 3) := by decide +kernel
theorem d_X7_off_71 : decode prog_9_method_74_code 71 = .ok (.iconst 0, 1) := by decide +kernel
theorem d_X7_off_72 : decode prog_9_method_74_code 72 = .ok (.iadd, 1) := by decide +kernel
theorem d_X7_off_73 : decode prog_9_method_74_code 73 = .ok (.istore_n 3, 1) := by decide +kernel
theorem d_X7_off_74 : decode prog_9_method_74_code 74 = .ok (.iinc 4 1, 3) := by decide +kernel
theorem d_X7_off_77 : decode prog_9_method_74_code 77 = .ok (.goto (-57), 3) := by decide +kernel
theorem d_X7_off_80 : decode prog_9_method_74_code 80 = .ok (.iload_n 3, 1) := by decide +kernel
theorem d_X7_off_81 : decode prog_9_method_74_code 81 = .ok (.bipush 10, 2) := by decide +kernel
theorem d_X7_off_83 : decode prog_9_method_74_code 83 = .ok (.aload_n 0, 1) := by decide +kernel
theorem d_X7_off_84 : decode prog_9_method_74_code 84 = .ok (.getfield 72, 3) := by decide +kernel
theorem d_X7_off_87 : decode prog_9_method_74_code 87 = .ok (.invokestatic 288, 3) := by decide +kernel
theorem d_X7_off_90 : decode prog_9_method_74_code 90 = .ok (.iload_n 2, 1) := by decide +kernel
theorem d_X7_off_91 : decode prog_9_method_74_code 91 = .ok (.invokestatic 282, 3) := by decide +kernel
theorem d_X7_off_94 : decode prog_9_method_74_code 94 = .ok (.ireturn, 1) := by decide +kernel
abbrev M_Model_off : zMT := (⟨"PeriodSlotsModel", "off", "(IZ)I"⟩, prog_9_method_74_code, 5, (some .int))
theorem k_Model_off : zcall M_Model_off 2 := ⟨zU_in (i := 1126) (by decide +kernel) rfl, m62, ⟨by decide, by decide, by decide +kernel⟩, by decide⟩
def o_Model_off (h : zHp) (x : Int32) (upper : Bool) : Int32 × zHp :=
  (if (o_Model_in (Int32.toInt64 x) 0 10) = true then ((o_Model_fraction (zrep (fun (i20_2 : Nat) (s20_2 : Int32 × zHp) => ((s20_2.1 + (if ((o_Model_runWith s20_2.2 (nI i20_2)).1) = (nI i20_2) then ((o_Model_power (10 - x) (o_Model_ones (nI i20_2))) * (o_Model_power x ((h 51 1) - (o_Model_ones (nI i20_2))))) else 0)), ((o_Model_runWith s20_2.2 (nI i20_2)).2))) (0, h) (zcn (o_Model_all h) + 1)).1 (o_Model_power 10 (h 51 1)) upper), (zrep (fun (i20_2 : Nat) (s20_2 : Int32 × zHp) => ((s20_2.1 + (if ((o_Model_runWith s20_2.2 (nI i20_2)).1) = (nI i20_2) then ((o_Model_power (10 - x) (o_Model_ones (nI i20_2))) * (o_Model_power x ((h 51 1) - (o_Model_ones (nI i20_2))))) else 0)), ((o_Model_runWith s20_2.2 (nI i20_2)).2))) (0, h) (zcn (o_Model_all h) + 1)).2) else ((-2), h))
theorem fr_Model_off {h : zHp} {x : Int32} {upper : Bool} (c k : Nat) (q0 : ¬ (c = 51 ∧ k = 9)) (q1 : c ≠ 66) (q2 : c ≠ 56) (q3 : ¬ (c = 51 ∧ k = 10)) (q4 : ¬ (c = 51 ∧ k = 11)) (q5 : c ≠ 67) (q6 : c ≠ 68) : (o_Model_off h x upper).2 c k = h c k := by
  unfold o_Model_off
  by_cases f1 : (o_Model_in (Int32.toInt64 x) 0 10) = true
  · rw [if_pos f1]
    have hI20_2 := zrep_inv (f := (fun (i20_2 : Nat) (s20_2 : Int32 × zHp) => ((s20_2.1 + (if ((o_Model_runWith s20_2.2 (nI i20_2)).1) = (nI i20_2) then ((o_Model_power (10 - x) (o_Model_ones (nI i20_2))) * (o_Model_power x ((h 51 1) - (o_Model_ones (nI i20_2))))) else 0)), ((o_Model_runWith s20_2.2 (nI i20_2)).2)))) (a := (0, h)) (fun _ s20_2 => ∀ c k : Nat, ¬ (c = 51 ∧ k = 9) → c ≠ 66 → c ≠ 56 → ¬ (c = 51 ∧ k = 10) → ¬ (c = 51 ∧ k = 11) → c ≠ 67 → c ≠ 68 → s20_2.2 c k = h c k) (zcn (o_Model_all h) + 1) (fun _ _ _ _ _ _ _ _ _ => (by dsimp only)) (fun i20_2 s20_2 hi20_2 hI20_2 => (fun c k q0 q1 q2 q3 q4 q5 q6 => (by (try dsimp only); exact ((fr_Model_runWith _ _ (by assumption) (by assumption) (by assumption) (by assumption) (by assumption) (by assumption) (by assumption)).trans (hI20_2 _ _ (by assumption) (by assumption) (by assumption) (by assumption) (by assumption) (by assumption) (by assumption))))))
    try dsimp only
    first | done | exact (hI20_2 _ _ (by assumption) (by assumption) (by assumption) (by assumption) (by assumption) (by assumption) (by assumption))
  · rw [if_neg f1]
    try dsimp only
    first | done | exact rfl
set_option maxHeartbeats 400000 in
set_option maxRecDepth 20000 in
theorem c_Model_off (X : zXT) (h : zHp) (g : zLg) (x : Int32) (upper : Bool) (hf0 : zfit h 51 1 8) (hper : zper h) : zDi X M_Model_off 9 [zR X 51, .int x, .int (zb upper)] h g (zI ((o_Model_off h x upper).1)) ((o_Model_off h x upper).2) g := by
  have hf0_1 := hf0.1
  refine zDi_of "PeriodSlotsModel" prog_9_method_74_code 5 (some .int) rfl (by decide) [zO X 51, zI x, zI (zb upper), none, none] rfl (fun _ q => q) (Nat.le_of_ble_eq_true rfl) ?_
  intro Γ Q C hQ
  refine zr_iload_n C d_X7_off_0 rfl ?_
  refine zr_i2l C d_X7_off_1 ?_
  refine zr_lconst C (v := 0) d_X7_off_2 (by decide) ?_
  refine zr_ldc2 C (v := 10) m1127 d_X7_off_3 ?_
  refine zr_callSi (As := [.long (Int32.toInt64 x), .long 0, .long 10]) (st := []) C (c_Model_in X h g (Int32.toInt64 x) 0 10) k_Model_in m856 m857 rfl (by decide) rfl (Nat.le_of_ble_eq_true rfl) d_X7_off_6 ?_
  refine zr_ifz_ne C 15 d_X7_off_9 (by decide) (fun c9 => ?_) (fun c9 => ?_)
  · have ex1 := zin (N := 10) c9 (by decide) (by decide)
    have ex1_2 := ex1.2
    have ea := zall hf0
    refine zr_iconst C (v := 0) d_X7_off_15 (by decide) ?_
    refine zr_istore_n C [zO X 51, zI x, zI (zb upper), zI 0, none] d_X7_off_16 (Nat.le_of_ble_eq_true rfl) rfl rfl ?_
    refine zr_iconst C (v := 0) d_X7_off_17 (by decide) ?_
    refine zr_istore C [zO X 51, zI x, zI (zb upper), zI 0, zI 0] d_X7_off_18 (Nat.le_of_ble_eq_true rfl) rfl rfl ?_
    refine zfor (f := (fun (i20_2 : Nat) (s20_2 : Int32 × zHp) => ((s20_2.1 + (if ((o_Model_runWith s20_2.2 (nI i20_2)).1) = (nI i20_2) then ((o_Model_power (10 - x) (o_Model_ones (nI i20_2))) * (o_Model_power x ((h 51 1) - (o_Model_ones (nI i20_2))))) else 0)), ((o_Model_runWith s20_2.2 (nI i20_2)).2)))) (a := (0, h)) (fun i20_2 s20_2 => zV X Γ Q 20 [zO X 51, zI x, zI (zb upper), zI s20_2.1, zI (nI i20_2)] [] s20_2.2 g) (fun _ s20_2 => ∀ c k : Nat, ¬ (c = 51 ∧ k = 9) → c ≠ 66 → c ≠ 56 → ¬ (c = 51 ∧ k = 10) → ¬ (c = 51 ∧ k = 11) → c ≠ 67 → c ≠ 68 → s20_2.2 c k = h c k) (zcn (o_Model_all h) + 1) (fun _ _ _ _ _ _ _ _ _ => (by dsimp only)) (fun i20_2 s20_2 hi20_2 hI20_2 => ⟨(fun c k q0 q1 q2 q3 q4 q5 q6 => (by (try dsimp only); exact ((fr_Model_runWith _ _ (by assumption) (by assumption) (by assumption) (by assumption) (by assumption) (by assumption) (by assumption)).trans (hI20_2 _ _ (by assumption) (by assumption) (by assumption) (by assumption) (by assumption) (by assumption) (by assumption))))), fun hk20_2 => ?_⟩) (fun r20_2 er20_2 hI20_2 => ?_)
    · refine zr_iload C d_X7_off_20 rfl ?_
      refine zr_aload_n C d_X7_off_22 rfl ?_
      refine zr_callVi (As := []) (st := [.int (nI i20_2)]) (c := 51) C (c_Model_all X s20_2.2 g ) k_Model_all m901 m903 m25 (by decide) (zC_Model X _ _) rfl rfl (by decide) rfl (Nat.le_of_ble_eq_true rfl) d_X7_off_23 ?_
      refine zr_top (rd_Model_all (hI20_2 _ _ (by omega) (by omega) (by omega) (by omega) (by omega) (by omega) (by omega))) ?_
      refine zr_icmp_gt C 80 d_X7_off_26 (by decide) (fun c => absurd c (zgt_no0 rfl (zall0 hf0) (by omega))) (fun _ => ?_)
      refine zr_iload_n C d_X7_off_29 rfl ?_
      refine zr_aload_n C d_X7_off_30 rfl ?_
      refine zr_iload C d_X7_off_31 rfl ?_
      refine zr_callVi (As := [.int (nI i20_2)]) (st := [.int s20_2.1]) (c := 51) C (c_Model_runWith X s20_2.2 g (nI i20_2) (zfit_fr (hI20_2 _ _ (by omega) (by omega) (by omega) (by omega) (by omega) (by omega) (by omega)) hf0) (zper_fr (hI20_2 _ _ (by omega) (by omega) (by omega) (by omega) (by omega) (by omega) (by omega)) (fun v => (hI20_2 _ _ (by omega) (by omega) (by omega) (by omega) (by omega) (by omega) (by omega))) hper)) k_Model_runWith m1113 m1115 m52 (by decide) (zC_Model X _ _) rfl rfl (by decide) rfl (Nat.le_of_ble_eq_true rfl) d_X7_off_33 ?_
      refine zr_vi (fun y3 ey3 => ?_)
      refine zr_h (fun h4 eh4 => ?_)
      refine zr_iload C d_X7_off_36 rfl ?_
      suffices hJ38 : ∀ (y5 : Int32), (if y3 = (nI i20_2) then ((o_Model_power (10 - x) (o_Model_ones (nI i20_2))) * (o_Model_power x ((h 51 1) - (o_Model_ones (nI i20_2))))) else 0) = y5 → zV X Γ Q 72 [zO X 51, zI x, zI (zb upper), none, zI (nI i20_2)] [.int y5, .int s20_2.1] h4 g by
        refine zr_icmp_ne C 71 d_X7_off_38 (by decide) (fun c38 => ?_) (fun c38 => ?_)
        · refine zr_iconst C (v := 0) d_X7_off_71 (by decide) ?_
          refine zr_lv [zO X 51, zI x, zI (zb upper), none, zI (nI i20_2)] (by simp [zle]) ?_
          exact hJ38 0 (((if_neg c38)))
        · refine zr_bipush C (v := 10) d_X7_off_41 (by decide) ?_
          refine zr_iload_n C d_X7_off_43 rfl ?_
          refine zr_isub C d_X7_off_44 ?_
          refine zr_iload C d_X7_off_45 rfl ?_
          refine zr_callSi (As := [.int (nI i20_2)]) (st := [.int (10 - x), .int s20_2.1]) C (c_Model_ones X h4 g (nI i20_2)) k_Model_ones m917 m918 rfl (by decide) rfl (Nat.le_of_ble_eq_true rfl) d_X7_off_47 ?_
          refine zr_callSi (As := [.int (10 - x), .int (o_Model_ones (nI i20_2))]) (st := [.int s20_2.1]) C (c_Model_power X h4 g (10 - x) (o_Model_ones (nI i20_2))) k_Model_power m1128 m1129 rfl (by decide) rfl (Nat.le_of_ble_eq_true rfl) d_X7_off_50 ?_
          refine zr_iload_n C d_X7_off_53 rfl ?_
          refine zr_aload_n C d_X7_off_54 rfl ?_
          refine gf_Model_2 C m755 d_X7_off_55 ?_
          refine zr_top ((congrFun (congrFun eh4.symm _) _).trans ((fr_Model_runWith _ _ (by omega) (by omega) (by omega) (by omega) (by omega) (by omega) (by omega)).trans (hI20_2 _ _ (by omega) (by omega) (by omega) (by omega) (by omega) (by omega) (by omega)))) ?_
          refine zr_iload C d_X7_off_58 rfl ?_
          refine zr_callSi (As := [.int (nI i20_2)]) (st := [.int (h 51 1), .int x, .int (o_Model_power (10 - x) (o_Model_ones (nI i20_2))), .int s20_2.1]) C (c_Model_ones X h4 g (nI i20_2)) k_Model_ones m917 m918 rfl (by decide) rfl (Nat.le_of_ble_eq_true rfl) d_X7_off_60 ?_
          refine zr_isub C d_X7_off_63 ?_
          refine zr_callSi (As := [.int x, .int ((h 51 1) - (o_Model_ones (nI i20_2)))]) (st := [.int (o_Model_power (10 - x) (o_Model_ones (nI i20_2))), .int s20_2.1]) C (c_Model_power X h4 g x ((h 51 1) - (o_Model_ones (nI i20_2)))) k_Model_power m1128 m1129 rfl (by decide) rfl (Nat.le_of_ble_eq_true rfl) d_X7_off_64 ?_
          refine zr_imul C d_X7_off_67 ?_
          refine zr_goto C 72 d_X7_off_68 (by decide) ?_
          refine zr_lv [zO X 51, zI x, zI (zb upper), none, zI (nI i20_2)] (by simp [zle]) ?_
          exact hJ38 ((o_Model_power (10 - x) (o_Model_ones (nI i20_2))) * (o_Model_power x ((h 51 1) - (o_Model_ones (nI i20_2))))) (((if_pos c38)))
      intro y5 ey5
      refine zr_iadd C d_X7_off_72 ?_
      refine zr_istore_n C [zO X 51, zI x, zI (zb upper), zI (s20_2.1 + y5), zI (nI i20_2)] d_X7_off_73 (Nat.le_of_ble_eq_true rfl) rfl rfl ?_
      refine zr_iinc C [zO X 51, zI x, zI (zb upper), zI (s20_2.1 + y5), zI (nI (i20_2 + 1))] (v := (nI (i20_2 + 1))) d_X7_off_74 rfl (zn_add rfl rfl) (Nat.le_of_ble_eq_true rfl) rfl rfl ?_
      refine zr_goto C 20 d_X7_off_77 (by decide) ?_
      exact hk20_2 ((s20_2.1 + y5), h4) (by subst ey5 eh4 ey3; exact rfl)
    refine zr_iload C d_X7_off_20 rfl ?_
    refine zr_aload_n C d_X7_off_22 rfl ?_
    refine zr_callVi (As := []) (st := [.int (nI (zcn (o_Model_all h) + 1))]) (c := 51) C (c_Model_all X r20_2.2 g ) k_Model_all m901 m903 m25 (by decide) (zC_Model X _ _) rfl rfl (by decide) rfl (Nat.le_of_ble_eq_true rfl) d_X7_off_23 ?_
    refine zr_top (rd_Model_all (hI20_2 _ _ (by omega) (by omega) (by omega) (by omega) (by omega) (by omega) (by omega))) ?_
    refine zr_icmp_gt C 80 d_X7_off_26 (by decide) (fun _ => ?_) (fun c => absurd (zgt_yes rfl (by omega) (by have := zcn_small (o_Model_all h); omega)) c)
    refine zr_iload_n C d_X7_off_80 rfl ?_
    refine zr_bipush C (v := 10) d_X7_off_81 (by decide) ?_
    refine zr_aload_n C d_X7_off_83 rfl ?_
    refine gf_Model_2 C m755 d_X7_off_84 ?_
    refine zr_top (hI20_2 _ _ (by omega) (by omega) (by omega) (by omega) (by omega) (by omega) (by omega)) ?_
    refine zr_callSi (As := [.int 10, .int (h 51 1)]) (st := [.int r20_2.1]) C (c_Model_power X r20_2.2 g 10 (h 51 1)) k_Model_power m1128 m1129 rfl (by decide) rfl (Nat.le_of_ble_eq_true rfl) d_X7_off_87 ?_
    refine zr_iload_n C d_X7_off_90 rfl ?_
    refine zr_callSi (As := [.int r20_2.1, .int (o_Model_power 10 (h 51 1)), .int (zb upper)]) (st := []) C (c_Model_fraction X r20_2.2 g r20_2.1 (o_Model_power 10 (h 51 1)) upper (zpow_ne hf0)) k_Model_fraction m1120 m1121 rfl (by decide) rfl (Nat.le_of_ble_eq_true rfl) d_X7_off_91 ?_
    have eR : o_Model_off h x upper = ((o_Model_fraction r20_2.1 (o_Model_power 10 (h 51 1)) upper), r20_2.2) := (by subst er20_2; unfold o_Model_off; rw [if_pos c9])
    subst hQ
    exact zTQ_Ih eR (zr_ireti C d_X7_off_94)
  · refine zr_bipush C (v := (-2)) d_X7_off_12 (by decide) ?_
    have eR : o_Model_off h x upper = ((-2), h) := (by unfold o_Model_off; rw [if_neg (zbf c9)])
    subst hQ
    exact zTQ_Ih eR (zr_ireti C d_X7_off_14)
