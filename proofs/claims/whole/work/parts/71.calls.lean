/-! The law: the calls, 2. -/
theorem zl_g0 (g : zLg) (v : Int64) : zupg g 0 v 0 = v := if_pos rfl
theorem zl_g1 (g : zLg) (v : Int64) : zupg g 0 v 1 = g 1 := if_neg (by decide)
theorem zl_g2 (g : zLg) (v : Int64) : zupg g 1 v 0 = g 0 := if_neg (by decide)
theorem zl_g3 (g : zLg) (v : Int64) : zupg g 1 v 1 = v := if_pos rfl
section
variable {X : zXT} {Γ : zGT} {Q : State → Prop} {rt : Option FieldType} {b L : Nat} {xs : Nat → Int32}
set_option maxHeartbeats 1000000 in
set_option maxRecDepth 20000 in
theorem zl_plan (K : zOk X Γ code "PeriodSlotsLaw" 4 20 rt) (S : zLs X Γ b L xs) {i k : Nat} (hi : i + 3 < L) (hL : L ≤ 2048) {h : zHp} {g : zLg} (H : zREL k h h (g 0) (g 1)) (hk : k + 4 < 2 ^ 17) (kk : ∀ (h2 : zHp) (g2 : zLg), zREL (k + 40) h2 h2 (g2 0) (g2 1) → zV X Γ Q 967 (zlv X b i) [] h2 g2) : zV X Γ Q 472 (zlv X b i) [] h g := by
  have P := zl_pc H
  refine zr_aload_n K (a0 := X.2.2.2.2 0) d_law_472 rfl ?_
  refine zl_arg K S (j := 1) (jv := 1) rfl rfl (by omega) hL rfl rfl d_law_473 d_law_474 d_law_475 d_law_476 d_law_477 ?_
  refine zr_callVi (As := [.int (xs (i + 1))]) (st := []) (c := 0) K (c_Slots_plan X h g (xs (i + 1)) P.2.1) k_Slots_plan (zU_in (i := 572) (by decide +kernel) rfl) (zU_in (i := 573) (by decide +kernel) rfl) (zU_in (i := 574) (by decide +kernel) rfl) (by decide) (zC_Slots X _ _) rfl rfl (by decide) rfl (Nat.le_of_ble_eq_true rfl) d_law_478 ?_
  obtain ⟨h1, eh1⟩ : ∃ h1, h1 = (o_Slots_plan h (xs (i + 1))).2 := ⟨_, rfl⟩
  have f1 : ∀ c j, 51 ≤ c → h1 c j = h c j := fun c j q => by rw [eh1]; exact fr_Slots_plan c j (by omega)
  have H1 : zREL k h h1 (g 0) (g 1) := zl_mid f1 H
  rw [← eh1]
  have N := zl_pm H1
  refine zr_aload_n K (a0 := X.2.2.2.2 51) d_law_481 rfl ?_
  refine zl_arg K S (j := 1) (jv := 1) rfl rfl (by omega) hL rfl rfl d_law_482 d_law_483 d_law_484 d_law_485 d_law_486 ?_
  refine zr_callVi (As := [.int (xs (i + 1))]) (st := [.int ((o_Slots_plan h (xs (i + 1))).1)]) (c := 51) K (c_Model_plan X h1 g (xs (i + 1)) N.2.1 N.2.2.2.2.2.1 N.2.2.2.2.2.2) k_Model_plan (zU_in (i := 1047) (by decide +kernel) rfl) (zU_in (i := 1048) (by decide +kernel) rfl) (zU_in (i := 1049) (by decide +kernel) rfl) (by decide) (zC_Model X _ _) rfl rfl (by decide) rfl (Nat.le_of_ble_eq_true rfl) d_law_487 ?_
  have E := op_plan H1 (xs (i + 1))
  rw [← eh1] at E
  refine zr_icmp_eq K 967 d_law_490 (by decide) (fun _ => kk _ g (zl_end (fun c j q => fr_Model_plan c j (by omega) (by omega) (by omega)) E.2)) (fun q => absurd E.1 q)
set_option maxHeartbeats 1000000 in
set_option maxRecDepth 20000 in
theorem zl_shifted (K : zOk X Γ code "PeriodSlotsLaw" 4 20 rt) (S : zLs X Γ b L xs) {i k : Nat} (hi : i + 3 < L) (hL : L ≤ 2048) {h : zHp} {g : zLg} (H : zREL k h h (g 0) (g 1)) (hk : k + 4 < 2 ^ 17) (kk : ∀ (h2 : zHp) (g2 : zLg), zREL (k + 40) h2 h2 (g2 0) (g2 1) → zV X Γ Q 967 (zlv X b i) [] h2 g2) : zV X Γ Q 495 (zlv X b i) [] h g := by
  have P := zl_pc H
  refine zr_aload_n K (a0 := X.2.2.2.2 0) d_law_495 rfl ?_
  refine zl_arg K S (j := 1) (jv := 1) rfl rfl (by omega) hL rfl rfl d_law_496 d_law_497 d_law_498 d_law_499 d_law_500 ?_
  refine zl_arg K S (j := 2) (jv := 2) rfl rfl (by omega) hL rfl rfl d_law_501 d_law_502 d_law_503 d_law_504 d_law_505 ?_
  refine zr_callVi (As := [.int (xs (i + 1)), .int (xs (i + 2))]) (st := []) (c := 0) K (c_Slots_shifted X h g (xs (i + 1)) (xs (i + 2)) P.2.1) k_Slots_shifted (zU_in (i := 596) (by decide +kernel) rfl) (zU_in (i := 597) (by decide +kernel) rfl) (zU_in (i := 598) (by decide +kernel) rfl) (by decide) (zC_Slots X _ _) rfl rfl (by decide) rfl (Nat.le_of_ble_eq_true rfl) d_law_506 ?_
  obtain ⟨h1, eh1⟩ : ∃ h1, h1 = (o_Slots_shifted h (xs (i + 1)) (xs (i + 2))).2 := ⟨_, rfl⟩
  have f1 : ∀ c j, 51 ≤ c → h1 c j = h c j := fun c j q => by rw [eh1]; exact fr_Slots_shifted c j (by omega) (by omega) (by omega) (by omega) (by omega) (by omega) (by omega) (by omega) (by omega) (by omega) (by omega) (by omega) (by omega) (by omega)
  have H1 : zREL k h h1 (g 0) (g 1) := zl_mid f1 H
  rw [← eh1]
  have N := zl_pm H1
  refine zr_aload_n K (a0 := X.2.2.2.2 51) d_law_509 rfl ?_
  refine zl_arg K S (j := 1) (jv := 1) rfl rfl (by omega) hL rfl rfl d_law_510 d_law_511 d_law_512 d_law_513 d_law_514 ?_
  refine zl_arg K S (j := 2) (jv := 2) rfl rfl (by omega) hL rfl rfl d_law_515 d_law_516 d_law_517 d_law_518 d_law_519 ?_
  refine zr_callVi (As := [.int (xs (i + 1)), .int (xs (i + 2))]) (st := [.int ((o_Slots_shifted h (xs (i + 1)) (xs (i + 2))).1)]) (c := 51) K (c_Model_shifted X h1 g (xs (i + 1)) (xs (i + 2)) N.2.1 N.2.2.2.2.2.1) k_Model_shifted (zU_in (i := 1059) (by decide +kernel) rfl) (zU_in (i := 1060) (by decide +kernel) rfl) (zU_in (i := 1061) (by decide +kernel) rfl) (by decide) (zC_Model X _ _) rfl rfl (by decide) rfl (Nat.le_of_ble_eq_true rfl) d_law_520 ?_
  have E := op_shifted H1 (xs (i + 1)) (xs (i + 2))
  rw [← eh1] at E
  refine zr_icmp_eq K 967 d_law_523 (by decide) (fun _ => kk _ g (zl_end (fun c j q => fr_Model_shifted c j (by omega) (by omega) (by omega)) E.2)) (fun q => absurd E.1 q)
set_option maxHeartbeats 1000000 in
set_option maxRecDepth 20000 in
theorem zl_awake (K : zOk X Γ code "PeriodSlotsLaw" 4 20 rt) (S : zLs X Γ b L xs) {i k : Nat} (hi : i + 3 < L) (hL : L ≤ 2048) {h : zHp} {g : zLg} (H : zREL k h h (g 0) (g 1)) (hk : k + 4 < 2 ^ 17) (kk : ∀ (h2 : zHp) (g2 : zLg), zREL (k + 40) h2 h2 (g2 0) (g2 1) → zV X Γ Q 967 (zlv X b i) [] h2 g2) : zV X Γ Q 528 (zlv X b i) [] h g := by
  have P := zl_pc H
  refine zr_aload_n K (a0 := X.2.2.2.2 0) d_law_528 rfl ?_
  refine zl_arg K S (j := 1) (jv := 1) rfl rfl (by omega) hL rfl rfl d_law_529 d_law_530 d_law_531 d_law_532 d_law_533 ?_
  refine zl_arg K S (j := 2) (jv := 2) rfl rfl (by omega) hL rfl rfl d_law_534 d_law_535 d_law_536 d_law_537 d_law_538 ?_
  refine zr_callVi (As := [.int (xs (i + 1)), .int (xs (i + 2))]) (st := []) (c := 0) K (c_Slots_awake X h g (xs (i + 1)) (xs (i + 2)) P.2.1) k_Slots_awake (zU_in (i := 600) (by decide +kernel) rfl) (zU_in (i := 601) (by decide +kernel) rfl) (zU_in (i := 602) (by decide +kernel) rfl) (by decide) (zC_Slots X _ _) rfl rfl (by decide) rfl (Nat.le_of_ble_eq_true rfl) d_law_539 ?_
  have H1 := H
  have N := zl_pm H1
  refine zr_aload_n K (a0 := X.2.2.2.2 51) d_law_542 rfl ?_
  refine zl_arg K S (j := 1) (jv := 1) rfl rfl (by omega) hL rfl rfl d_law_543 d_law_544 d_law_545 d_law_546 d_law_547 ?_
  refine zl_arg K S (j := 2) (jv := 2) rfl rfl (by omega) hL rfl rfl d_law_548 d_law_549 d_law_550 d_law_551 d_law_552 ?_
  refine zr_callVi (As := [.int (xs (i + 1)), .int (xs (i + 2))]) (st := [.int (o_Slots_awake h (xs (i + 1)) (xs (i + 2)))]) (c := 51) K (c_Model_awake X h g (xs (i + 1)) (xs (i + 2)) N.2.1 N.2.2.2.2.2.1) k_Model_awake (zU_in (i := 1063) (by decide +kernel) rfl) (zU_in (i := 1064) (by decide +kernel) rfl) (zU_in (i := 1065) (by decide +kernel) rfl) (by decide) (zC_Model X _ _) rfl rfl (by decide) rfl (Nat.le_of_ble_eq_true rfl) d_law_553 ?_
  have E := op_awake H1 (xs (i + 1)) (xs (i + 2))
  refine zr_icmp_eq K 967 d_law_556 (by decide) (fun _ => kk h g (zREL_mono (Nat.le_add_right _ _) H)) (fun q => absurd E q)
set_option maxHeartbeats 1000000 in
set_option maxRecDepth 20000 in
theorem zl_arrives (K : zOk X Γ code "PeriodSlotsLaw" 4 20 rt) (S : zLs X Γ b L xs) {i k : Nat} (hi : i + 3 < L) (hL : L ≤ 2048) {h : zHp} {g : zLg} (H : zREL k h h (g 0) (g 1)) (hk : k + 4 < 2 ^ 17) (kk : ∀ (h2 : zHp) (g2 : zLg), zREL (k + 40) h2 h2 (g2 0) (g2 1) → zV X Γ Q 967 (zlv X b i) [] h2 g2) : zV X Γ Q 561 (zlv X b i) [] h g := by
  have P := zl_pc H
  refine zr_aload_n K (a0 := X.2.2.2.2 0) d_law_561 rfl ?_
  refine zl_arg K S (j := 1) (jv := 1) rfl rfl (by omega) hL rfl rfl d_law_562 d_law_563 d_law_564 d_law_565 d_law_566 ?_
  refine zl_arg K S (j := 2) (jv := 2) rfl rfl (by omega) hL rfl rfl d_law_567 d_law_568 d_law_569 d_law_570 d_law_571 ?_
  refine zl_arg K S (j := 3) (jv := 3) rfl rfl (by omega) hL rfl rfl d_law_572 d_law_573 d_law_574 d_law_575 d_law_576 ?_
  refine zr_callVi (As := [.int (xs (i + 1)), .int (xs (i + 2)), .int (xs (i + 3))]) (st := []) (c := 0) K (c_Slots_arrives X h g (xs (i + 1)) (xs (i + 2)) (xs (i + 3)) P.2.1) k_Slots_arrives (zU_in (i := 623) (by decide +kernel) rfl) (zU_in (i := 624) (by decide +kernel) rfl) (zU_in (i := 625) (by decide +kernel) rfl) (by decide) (zC_Slots X _ _) rfl rfl (by decide) rfl (Nat.le_of_ble_eq_true rfl) d_law_577 ?_
  have H1 := H
  have N := zl_pm H1
  refine zr_aload_n K (a0 := X.2.2.2.2 51) d_law_580 rfl ?_
  refine zl_arg K S (j := 1) (jv := 1) rfl rfl (by omega) hL rfl rfl d_law_581 d_law_582 d_law_583 d_law_584 d_law_585 ?_
  refine zl_arg K S (j := 2) (jv := 2) rfl rfl (by omega) hL rfl rfl d_law_586 d_law_587 d_law_588 d_law_589 d_law_590 ?_
  refine zl_arg K S (j := 3) (jv := 3) rfl rfl (by omega) hL rfl rfl d_law_591 d_law_592 d_law_593 d_law_594 d_law_595 ?_
  refine zr_callVi (As := [.int (xs (i + 1)), .int (xs (i + 2)), .int (xs (i + 3))]) (st := [.int (o_Slots_arrives h (xs (i + 1)) (xs (i + 2)) (xs (i + 3)))]) (c := 51) K (c_Model_arrives X h g (xs (i + 1)) (xs (i + 2)) (xs (i + 3)) N.2.1 N.2.2.2.2.2.1) k_Model_arrives (zU_in (i := 1079) (by decide +kernel) rfl) (zU_in (i := 1080) (by decide +kernel) rfl) (zU_in (i := 1081) (by decide +kernel) rfl) (by decide) (zC_Model X _ _) rfl rfl (by decide) rfl (Nat.le_of_ble_eq_true rfl) d_law_596 ?_
  have E := op_arrives H1 (xs (i + 1)) (xs (i + 2)) (xs (i + 3))
  refine zr_icmp_eq K 967 d_law_599 (by decide) (fun _ => kk h g (zREL_mono (Nat.le_add_right _ _) H)) (fun q => absurd E q)
set_option maxHeartbeats 1000000 in
set_option maxRecDepth 20000 in
theorem zl_judge (K : zOk X Γ code "PeriodSlotsLaw" 4 20 rt) (S : zLs X Γ b L xs) {i k : Nat} (hi : i + 3 < L) (hL : L ≤ 2048) {h : zHp} {g : zLg} (H : zREL k h h (g 0) (g 1)) (hk : k + 4 < 2 ^ 17) (kk : ∀ (h2 : zHp) (g2 : zLg), zREL (k + 40) h2 h2 (g2 0) (g2 1) → zV X Γ Q 967 (zlv X b i) [] h2 g2) : zV X Γ Q 604 (zlv X b i) [] h g := by
  have P := zl_pc H
  refine zr_aload_n K (a0 := X.2.2.2.2 0) d_law_604 rfl ?_
  refine zl_arg K S (j := 1) (jv := 1) rfl rfl (by omega) hL rfl rfl d_law_605 d_law_606 d_law_607 d_law_608 d_law_609 ?_
  refine zl_arg K S (j := 2) (jv := 2) rfl rfl (by omega) hL rfl rfl d_law_610 d_law_611 d_law_612 d_law_613 d_law_614 ?_
  refine zr_i2l K d_law_615 ?_
  refine zr_bipush K (v := 32) d_law_616 rfl ?_
  refine zr_lshl K d_law_618 ?_
  refine zl_arg K S (j := 3) (jv := 3) rfl rfl (by omega) hL rfl rfl d_law_619 d_law_620 d_law_621 d_law_622 d_law_623 ?_
  refine zr_i2l K d_law_624 ?_
  refine zr_ldc2 K (v := 4294967295) (zU_in (i := 1149) (by decide +kernel) rfl) d_law_625 ?_
  refine zr_land K d_law_628 ?_
  refine zr_lor K d_law_629 ?_
  refine zr_callVi (As := [.int (xs (i + 1)), .long (zlL (xs (i + 2)) (xs (i + 3)))]) (st := []) (c := 0) K (c_Slots_judge X h g (xs (i + 1)) (zlL (xs (i + 2)) (xs (i + 3))) P.2.1) k_Slots_judge (zU_in (i := 631) (by decide +kernel) rfl) (zU_in (i := 632) (by decide +kernel) rfl) (zU_in (i := 633) (by decide +kernel) rfl) (by decide) (zC_Slots X _ _) rfl rfl (by decide) rfl (Nat.le_of_ble_eq_true rfl) d_law_630 ?_
  obtain ⟨h1, eh1⟩ : ∃ h1, h1 = (o_Slots_judge h (xs (i + 1)) (zlL (xs (i + 2)) (xs (i + 3)))).2 := ⟨_, rfl⟩
  have f1 : ∀ c j, 51 ≤ c → h1 c j = h c j := fun c j q => by rw [eh1]; exact fr_Slots_judge c j (by omega) (by omega) (by omega) (by omega) (by omega) (by omega) (by omega) (by omega) (by omega) (by omega) (by omega) (by omega) (by omega) (by omega) (by omega) (by omega) (by omega) (by omega) (by omega) (by omega) (by omega) (by omega) (by omega) (by omega) (by omega) (by omega) (by omega) (by omega) (by omega)
  have H1 : zREL k h h1 (g 0) (g 1) := zl_mid f1 H
  rw [← eh1]
  have N := zl_pm H1
  refine zr_aload_n K (a0 := X.2.2.2.2 51) d_law_633 rfl ?_
  refine zl_arg K S (j := 1) (jv := 1) rfl rfl (by omega) hL rfl rfl d_law_634 d_law_635 d_law_636 d_law_637 d_law_638 ?_
  refine zl_arg K S (j := 2) (jv := 2) rfl rfl (by omega) hL rfl rfl d_law_639 d_law_640 d_law_641 d_law_642 d_law_643 ?_
  refine zr_i2l K d_law_644 ?_
  refine zr_bipush K (v := 32) d_law_645 rfl ?_
  refine zr_lshl K d_law_647 ?_
  refine zl_arg K S (j := 3) (jv := 3) rfl rfl (by omega) hL rfl rfl d_law_648 d_law_649 d_law_650 d_law_651 d_law_652 ?_
  refine zr_i2l K d_law_653 ?_
  refine zr_ldc2 K (v := 4294967295) (zU_in (i := 1149) (by decide +kernel) rfl) d_law_654 ?_
  refine zr_land K d_law_657 ?_
  refine zr_lor K d_law_658 ?_
  refine zr_callVi (As := [.int (xs (i + 1)), .long (zlL (xs (i + 2)) (xs (i + 3)))]) (st := [.int ((o_Slots_judge h (xs (i + 1)) (zlL (xs (i + 2)) (xs (i + 3)))).1)]) (c := 51) K (c_Model_judge X h1 g (xs (i + 1)) (zlL (xs (i + 2)) (xs (i + 3))) N.2.1 N.2.2.2.2.2.1) k_Model_judge (zU_in (i := 1083) (by decide +kernel) rfl) (zU_in (i := 1084) (by decide +kernel) rfl) (zU_in (i := 1085) (by decide +kernel) rfl) (by decide) (zC_Model X _ _) rfl rfl (by decide) rfl (Nat.le_of_ble_eq_true rfl) d_law_659 ?_
  have E := op_judge H1 hk (xs (i + 1)) (zlL (xs (i + 2)) (xs (i + 3)))
  rw [← eh1] at E
  refine zr_icmp_eq K 967 d_law_662 (by decide) (fun _ => kk _ g (zl_end (fun c j q => fr_Model_judge c j (by omega) (by omega) (by omega) (by omega) (by omega) (by omega) (by omega) (by omega)) E.2)) (fun q => absurd E.1 q)
set_option maxHeartbeats 1000000 in
set_option maxRecDepth 20000 in
theorem zl_see (K : zOk X Γ code "PeriodSlotsLaw" 4 20 rt) (S : zLs X Γ b L xs) {i k : Nat} (hi : i + 3 < L) (hL : L ≤ 2048) {h : zHp} {g : zLg} (H : zREL k h h (g 0) (g 1)) (hk : k + 4 < 2 ^ 17) (kk : ∀ (h2 : zHp) (g2 : zLg), zREL (k + 40) h2 h2 (g2 0) (g2 1) → zV X Γ Q 967 (zlv X b i) [] h2 g2) : zV X Γ Q 667 (zlv X b i) [] h g := by
  have P := zl_pc H
  refine zr_aload_n K (a0 := X.2.2.2.2 0) d_law_667 rfl ?_
  refine zl_arg K S (j := 1) (jv := 1) rfl rfl (by omega) hL rfl rfl d_law_668 d_law_669 d_law_670 d_law_671 d_law_672 ?_
  refine zl_arg K S (j := 2) (jv := 2) rfl rfl (by omega) hL rfl rfl d_law_673 d_law_674 d_law_675 d_law_676 d_law_677 ?_
  refine zl_arg K S (j := 3) (jv := 3) rfl rfl (by omega) hL rfl rfl d_law_678 d_law_679 d_law_680 d_law_681 d_law_682 ?_
  refine zr_callVi (As := [.int (xs (i + 1)), .int (xs (i + 2)), .int (xs (i + 3))]) (st := []) (c := 0) K (c_Slots_see X h g (xs (i + 1)) (xs (i + 2)) (xs (i + 3)) P.2.1 P.2.2.2.2.2.2) k_Slots_see (zU_in (i := 656) (by decide +kernel) rfl) (zU_in (i := 657) (by decide +kernel) rfl) (zU_in (i := 658) (by decide +kernel) rfl) (by decide) (zC_Slots X _ _) rfl rfl (by decide) rfl (Nat.le_of_ble_eq_true rfl) d_law_683 ?_
  obtain ⟨h1, eh1⟩ : ∃ h1, h1 = (o_Slots_see h (xs (i + 1)) (xs (i + 2)) (xs (i + 3))).2 := ⟨_, rfl⟩
  have f1 : ∀ c j, 51 ≤ c → h1 c j = h c j := fun c j q => by rw [eh1]; exact fr_Slots_see c j (by omega) (by omega) (by omega) (by omega)
  have H1 : zREL k h h1 (g 0) (g 1) := zl_mid f1 H
  rw [← eh1]
  have N := zl_pm H1
  refine zr_aload_n K (a0 := X.2.2.2.2 51) d_law_686 rfl ?_
  refine zl_arg K S (j := 1) (jv := 1) rfl rfl (by omega) hL rfl rfl d_law_687 d_law_688 d_law_689 d_law_690 d_law_691 ?_
  refine zl_arg K S (j := 2) (jv := 2) rfl rfl (by omega) hL rfl rfl d_law_692 d_law_693 d_law_694 d_law_695 d_law_696 ?_
  refine zl_arg K S (j := 3) (jv := 3) rfl rfl (by omega) hL rfl rfl d_law_697 d_law_698 d_law_699 d_law_700 d_law_701 ?_
  refine zr_callVi (As := [.int (xs (i + 1)), .int (xs (i + 2)), .int (xs (i + 3))]) (st := [.int ((o_Slots_see h (xs (i + 1)) (xs (i + 2)) (xs (i + 3))).1)]) (c := 51) K (c_Model_see X h1 g (xs (i + 1)) (xs (i + 2)) (xs (i + 3)) N.2.1 N.2.2.2.1) k_Model_see (zU_in (i := 1096) (by decide +kernel) rfl) (zU_in (i := 1097) (by decide +kernel) rfl) (zU_in (i := 1098) (by decide +kernel) rfl) (by decide) (zC_Model X _ _) rfl rfl (by decide) rfl (Nat.le_of_ble_eq_true rfl) d_law_702 ?_
  have E := op_see H1 (xs (i + 1)) (xs (i + 2)) (xs (i + 3))
  rw [← eh1] at E
  refine zr_icmp_eq K 967 d_law_705 (by decide) (fun _ => kk _ g (zl_end (fun c j q => fr_Model_see c j (by omega) (by omega) (by omega) (by omega)) E.2)) (fun q => absurd E.1 q)
set_option maxHeartbeats 1000000 in
set_option maxRecDepth 20000 in
theorem zl_unsee (K : zOk X Γ code "PeriodSlotsLaw" 4 20 rt) (S : zLs X Γ b L xs) {i k : Nat} (hi : i + 3 < L) (hL : L ≤ 2048) {h : zHp} {g : zLg} (H : zREL k h h (g 0) (g 1)) (hk : k + 4 < 2 ^ 17) (kk : ∀ (h2 : zHp) (g2 : zLg), zREL (k + 40) h2 h2 (g2 0) (g2 1) → zV X Γ Q 967 (zlv X b i) [] h2 g2) : zV X Γ Q 710 (zlv X b i) [] h g := by
  have P := zl_pc H
  refine zr_aload_n K (a0 := X.2.2.2.2 0) d_law_710 rfl ?_
  refine zr_callVi (As := []) (st := []) (c := 0) K (c_Slots_unsee X h g) k_Slots_unsee (zU_in (i := 664) (by decide +kernel) rfl) (zU_in (i := 665) (by decide +kernel) rfl) (zU_in (i := 666) (by decide +kernel) rfl) (by decide) (zC_Slots X _ _) rfl rfl (by decide) rfl (Nat.le_of_ble_eq_true rfl) d_law_711 ?_
  obtain ⟨h1, eh1⟩ : ∃ h1, h1 = (o_Slots_unsee h).2 := ⟨_, rfl⟩
  have f1 : ∀ c j, 51 ≤ c → h1 c j = h c j := fun c j q => by rw [eh1]; exact fr_Slots_unsee c j (by omega)
  have H1 : zREL k h h1 (g 0) (g 1) := zl_mid f1 H
  rw [← eh1]
  have N := zl_pm H1
  refine zr_aload_n K (a0 := X.2.2.2.2 51) d_law_714 rfl ?_
  refine zr_callVi (As := []) (st := [.int ((o_Slots_unsee h).1)]) (c := 51) K (c_Model_unsee X h1 g) k_Model_unsee (zU_in (i := 1101) (by decide +kernel) rfl) (zU_in (i := 1102) (by decide +kernel) rfl) (zU_in (i := 1103) (by decide +kernel) rfl) (by decide) (zC_Model X _ _) rfl rfl (by decide) rfl (Nat.le_of_ble_eq_true rfl) d_law_715 ?_
  have E := op_unsee H1
  rw [← eh1] at E
  refine zr_icmp_eq K 967 d_law_718 (by decide) (fun _ => kk _ g (zl_end (fun c j q => fr_Model_unsee c j (by omega)) E.2)) (fun q => absurd E.1 q)
set_option maxHeartbeats 1000000 in
set_option maxRecDepth 20000 in
theorem zl_which (K : zOk X Γ code "PeriodSlotsLaw" 4 20 rt) (S : zLs X Γ b L xs) {i k : Nat} (hi : i + 3 < L) (hL : L ≤ 2048) {h : zHp} {g : zLg} (H : zREL k h h (g 0) (g 1)) (hk : k + 4 < 2 ^ 17) (kk : ∀ (h2 : zHp) (g2 : zLg), zREL (k + 40) h2 h2 (g2 0) (g2 1) → zV X Γ Q 967 (zlv X b i) [] h2 g2) : zV X Γ Q 723 (zlv X b i) [] h g := by
  have P := zl_pc H
  refine zr_aload_n K (a0 := X.2.2.2.2 0) d_law_723 rfl ?_
  refine zl_arg K S (j := 1) (jv := 1) rfl rfl (by omega) hL rfl rfl d_law_724 d_law_725 d_law_726 d_law_727 d_law_728 ?_
  refine zr_callVi (As := [.int (xs (i + 1))]) (st := []) (c := 0) K (c_Slots_which X h g (xs (i + 1)) P.2.1 P.2.2.2.2.2.2) k_Slots_which (zU_in (i := 668) (by decide +kernel) rfl) (zU_in (i := 669) (by decide +kernel) rfl) (zU_in (i := 670) (by decide +kernel) rfl) (by decide) (zC_Slots X _ _) rfl rfl (by decide) rfl (Nat.le_of_ble_eq_true rfl) d_law_729 ?_
  obtain ⟨h1, eh1⟩ : ∃ h1, h1 = (o_Slots_which h (xs (i + 1))).2 := ⟨_, rfl⟩
  have f1 : ∀ c j, 51 ≤ c → h1 c j = h c j := fun c j q => by rw [eh1]; exact fr_Slots_which c j (by omega) (by omega) (by omega) (by omega) (by omega) (by omega) (by omega) (by omega) (by omega) (by omega) (by omega) (by omega) (by omega) (by omega)
  have H1 : zREL k h h1 (g 0) (g 1) := zl_mid f1 H
  rw [← eh1]
  have N := zl_pm H1
  refine zr_aload_n K (a0 := X.2.2.2.2 51) d_law_732 rfl ?_
  refine zl_arg K S (j := 1) (jv := 1) rfl rfl (by omega) hL rfl rfl d_law_733 d_law_734 d_law_735 d_law_736 d_law_737 ?_
  refine zr_callVi (As := [.int (xs (i + 1))]) (st := [.int ((o_Slots_which h (xs (i + 1))).1)]) (c := 51) K (c_Model_which X h1 g (xs (i + 1)) N.2.1 N.2.2.2.2.2.1 N.2.2.2.1) k_Model_which (zU_in (i := 1105) (by decide +kernel) rfl) (zU_in (i := 1106) (by decide +kernel) rfl) (zU_in (i := 1107) (by decide +kernel) rfl) (by decide) (zC_Model X _ _) rfl rfl (by decide) rfl (Nat.le_of_ble_eq_true rfl) d_law_738 ?_
  have E := op_which H1 (xs (i + 1))
  rw [← eh1] at E
  refine zr_icmp_eq K 967 d_law_741 (by decide) (fun _ => kk _ g (zl_end (fun c j q => fr_Model_which c j (by omega)) E.2)) (fun q => absurd E.1 q)
set_option maxHeartbeats 1000000 in
set_option maxRecDepth 20000 in
theorem zl_share (K : zOk X Γ code "PeriodSlotsLaw" 4 20 rt) (S : zLs X Γ b L xs) {i k : Nat} (hi : i + 3 < L) (hL : L ≤ 2048) {h : zHp} {g : zLg} (H : zREL k h h (g 0) (g 1)) (hk : k + 4 < 2 ^ 17) (kk : ∀ (h2 : zHp) (g2 : zLg), zREL (k + 40) h2 h2 (g2 0) (g2 1) → zV X Γ Q 967 (zlv X b i) [] h2 g2) : zV X Γ Q 746 (zlv X b i) [] h g := by
  have P := zl_pc H
  refine zr_aload_n K (a0 := X.2.2.2.2 0) d_law_746 rfl ?_
  refine zl_arg K S (j := 1) (jv := 1) rfl rfl (by omega) hL rfl rfl d_law_747 d_law_748 d_law_749 d_law_750 d_law_751 ?_
  refine zl_arg K S (j := 2) (jv := 2) rfl rfl (by omega) hL rfl rfl d_law_752 d_law_753 d_law_754 d_law_755 d_law_756 ?_
  refine zl_flag K d_law_757 d_law_760 d_law_761 d_law_764 ?_
  refine zr_callVi (As := [.int (xs (i + 1)), .int (zb (zlF (xs (i + 2))))]) (st := []) (c := 0) K (c_Slots_share X h g (xs (i + 1)) (zlF (xs (i + 2))) P.2.1) k_Slots_share (zU_in (i := 683) (by decide +kernel) rfl) (zU_in (i := 684) (by decide +kernel) rfl) (zU_in (i := 685) (by decide +kernel) rfl) (by decide) (zC_Slots X _ _) rfl rfl (by decide) rfl (Nat.le_of_ble_eq_true rfl) d_law_765 ?_
  obtain ⟨h1, eh1⟩ : ∃ h1, h1 = (o_Slots_share h (xs (i + 1)) (zlF (xs (i + 2)))).2 := ⟨_, rfl⟩
  have f1 : ∀ c j, 51 ≤ c → h1 c j = h c j := fun c j q => by rw [eh1]; exact fr_Slots_share c j (by omega) (by omega) (by omega) (by omega) (by omega) (by omega) (by omega) (by omega) (by omega) (by omega) (by omega) (by omega) (by omega) (by omega)
  have H1 : zREL k h h1 (g 0) (g 1) := zl_mid f1 H
  rw [← eh1]
  have N := zl_pm H1
  refine zr_aload_n K (a0 := X.2.2.2.2 51) d_law_768 rfl ?_
  refine zl_arg K S (j := 1) (jv := 1) rfl rfl (by omega) hL rfl rfl d_law_769 d_law_770 d_law_771 d_law_772 d_law_773 ?_
  refine zl_arg K S (j := 2) (jv := 2) rfl rfl (by omega) hL rfl rfl d_law_774 d_law_775 d_law_776 d_law_777 d_law_778 ?_
  refine zl_flag K d_law_779 d_law_782 d_law_783 d_law_786 ?_
  refine zr_callVi (As := [.int (xs (i + 1)), .int (zb (zlF (xs (i + 2))))]) (st := [.int ((o_Slots_share h (xs (i + 1)) (zlF (xs (i + 2)))).1)]) (c := 51) K (c_Model_share X h1 g (xs (i + 1)) (zlF (xs (i + 2))) N.2.1 N.2.2.2.2.2.1) k_Model_share (zU_in (i := 1109) (by decide +kernel) rfl) (zU_in (i := 1110) (by decide +kernel) rfl) (zU_in (i := 1111) (by decide +kernel) rfl) (by decide) (zC_Model X _ _) rfl rfl (by decide) rfl (Nat.le_of_ble_eq_true rfl) d_law_787 ?_
  obtain ⟨n, R, -⟩ := id H1
  have E := op_share R (xs (i + 1)) (zlF (xs (i + 2)))
  obtain ⟨h2, eh2⟩ : ∃ h2, h2 = (o_Model_share h1 (xs (i + 1)) (zlF (xs (i + 2)))).2 := ⟨_, rfl⟩
  have f2 : ∀ c j, ¬ zscrM c j → h2 c j = h1 c j := fun c j q => by unfold zscrM at q; rw [eh2]; exact fr_Model_share c j (by omega) (by omega) (by omega) (by omega) (by omega) (by omega) (by omega) (by omega)
  have f3 : ∀ c j, c < 51 → h2 c j = h1 c j := fun c j q => by rw [eh2]; exact fr_Model_share c j (by omega) (by omega) (by omega) (by omega) (by omega) (by omega) (by omega) (by omega)
  have f4 : ∀ c j, ¬ zscrC c j → h1 c j = h c j := fun c j q => by unfold zscrC at q; rw [eh1]; exact fr_Slots_share c j (by omega) (by omega) (by omega) (by omega) (by omega) (by omega) (by omega) (by omega) (by omega) (by omega) (by omega) (by omega) (by omega) (by omega)
  have f5 : ∀ c j, ¬ zscrC c j → h2 c j = h c j := fun c j q => (f3 c j (by unfold zscrC at q; omega)).trans (f4 c j q)
  rw [← eh2]
  refine zr_icmp_eq K 967 d_law_790 (by decide) (fun _ => kk h2 g (zREL_mono (Nat.le_add_right _ _) (zREL_fr f5 f2 H1))) (fun q => absurd E q)
set_option maxHeartbeats 1000000 in
set_option maxRecDepth 20000 in
theorem zl_off (K : zOk X Γ code "PeriodSlotsLaw" 4 20 rt) (S : zLs X Γ b L xs) {i k : Nat} (hi : i + 3 < L) (hL : L ≤ 2048) {h : zHp} {g : zLg} (H : zREL k h h (g 0) (g 1)) (hk : k + 4 < 2 ^ 17) (kk : ∀ (h2 : zHp) (g2 : zLg), zREL (k + 40) h2 h2 (g2 0) (g2 1) → zV X Γ Q 967 (zlv X b i) [] h2 g2) : zV X Γ Q 795 (zlv X b i) [] h g := by
  have P := zl_pc H
  refine zr_aload_n K (a0 := X.2.2.2.2 0) d_law_795 rfl ?_
  refine zl_arg K S (j := 1) (jv := 1) rfl rfl (by omega) hL rfl rfl d_law_796 d_law_797 d_law_798 d_law_799 d_law_800 ?_
  refine zl_arg K S (j := 2) (jv := 2) rfl rfl (by omega) hL rfl rfl d_law_801 d_law_802 d_law_803 d_law_804 d_law_805 ?_
  refine zl_flag K d_law_806 d_law_809 d_law_810 d_law_813 ?_
  refine zr_callVi (As := [.int (xs (i + 1)), .int (zb (zlF (xs (i + 2))))]) (st := []) (c := 0) K (c_Slots_off X h g (xs (i + 1)) (zlF (xs (i + 2))) P.2.1) k_Slots_off (zU_in (i := 711) (by decide +kernel) rfl) (zU_in (i := 712) (by decide +kernel) rfl) (zU_in (i := 713) (by decide +kernel) rfl) (by decide) (zC_Slots X _ _) rfl rfl (by decide) rfl (Nat.le_of_ble_eq_true rfl) d_law_814 ?_
  obtain ⟨h1, eh1⟩ : ∃ h1, h1 = (o_Slots_off h (xs (i + 1)) (zlF (xs (i + 2)))).2 := ⟨_, rfl⟩
  have f1 : ∀ c j, 51 ≤ c → h1 c j = h c j := fun c j q => by rw [eh1]; exact fr_Slots_off c j (by omega) (by omega) (by omega) (by omega) (by omega) (by omega) (by omega) (by omega) (by omega) (by omega) (by omega) (by omega) (by omega) (by omega)
  have H1 : zREL k h h1 (g 0) (g 1) := zl_mid f1 H
  rw [← eh1]
  have N := zl_pm H1
  refine zr_aload_n K (a0 := X.2.2.2.2 51) d_law_817 rfl ?_
  refine zl_arg K S (j := 1) (jv := 1) rfl rfl (by omega) hL rfl rfl d_law_818 d_law_819 d_law_820 d_law_821 d_law_822 ?_
  refine zl_arg K S (j := 2) (jv := 2) rfl rfl (by omega) hL rfl rfl d_law_823 d_law_824 d_law_825 d_law_826 d_law_827 ?_
  refine zl_flag K d_law_828 d_law_831 d_law_832 d_law_835 ?_
  refine zr_callVi (As := [.int (xs (i + 1)), .int (zb (zlF (xs (i + 2))))]) (st := [.int ((o_Slots_off h (xs (i + 1)) (zlF (xs (i + 2)))).1)]) (c := 51) K (c_Model_off X h1 g (xs (i + 1)) (zlF (xs (i + 2))) N.2.1 N.2.2.2.2.2.1) k_Model_off (zU_in (i := 1123) (by decide +kernel) rfl) (zU_in (i := 1124) (by decide +kernel) rfl) (zU_in (i := 1125) (by decide +kernel) rfl) (by decide) (zC_Model X _ _) rfl rfl (by decide) rfl (Nat.le_of_ble_eq_true rfl) d_law_836 ?_
  obtain ⟨n, R, -⟩ := id H1
  have E := op_off R (xs (i + 1)) (zlF (xs (i + 2)))
  obtain ⟨h2, eh2⟩ : ∃ h2, h2 = (o_Model_off h1 (xs (i + 1)) (zlF (xs (i + 2)))).2 := ⟨_, rfl⟩
  have f2 : ∀ c j, ¬ zscrM c j → h2 c j = h1 c j := fun c j q => by unfold zscrM at q; rw [eh2]; exact fr_Model_off c j (by omega) (by omega) (by omega) (by omega) (by omega) (by omega) (by omega)
  have f3 : ∀ c j, c < 51 → h2 c j = h1 c j := fun c j q => by rw [eh2]; exact fr_Model_off c j (by omega) (by omega) (by omega) (by omega) (by omega) (by omega) (by omega)
  have f4 : ∀ c j, ¬ zscrC c j → h1 c j = h c j := fun c j q => by unfold zscrC at q; rw [eh1]; exact fr_Slots_off c j (by omega) (by omega) (by omega) (by omega) (by omega) (by omega) (by omega) (by omega) (by omega) (by omega) (by omega) (by omega) (by omega) (by omega)
  have f5 : ∀ c j, ¬ zscrC c j → h2 c j = h c j := fun c j q => (f3 c j (by unfold zscrC at q; omega)).trans (f4 c j q)
  rw [← eh2]
  refine zr_icmp_eq K 967 d_law_839 (by decide) (fun _ => kk h2 g (zREL_mono (Nat.le_add_right _ _) (zREL_fr f5 f2 H1))) (fun q => absurd E q)
set_option maxHeartbeats 1000000 in
set_option maxRecDepth 20000 in
theorem zl_seed (K : zOk X Γ code "PeriodSlotsLaw" 4 20 rt) (S : zLs X Γ b L xs) {i k : Nat} (hi : i + 3 < L) (hL : L ≤ 2048) {h : zHp} {g : zLg} (H : zREL k h h (g 0) (g 1)) (hk : k + 4 < 2 ^ 17) (kk : ∀ (h2 : zHp) (g2 : zLg), zREL (k + 40) h2 h2 (g2 0) (g2 1) → zV X Γ Q 967 (zlv X b i) [] h2 g2) : zV X Γ Q 844 (zlv X b i) [] h g := by
  have P := zl_pc H
  refine zr_aload_n K (a0 := X.2.2.2.2 0) d_law_844 rfl ?_
  refine zl_arg K S (j := 1) (jv := 1) rfl rfl (by omega) hL rfl rfl d_law_845 d_law_846 d_law_847 d_law_848 d_law_849 ?_
  refine zr_i2l K d_law_850 ?_
  refine zr_bipush K (v := 32) d_law_851 rfl ?_
  refine zr_lshl K d_law_853 ?_
  refine zl_arg K S (j := 2) (jv := 2) rfl rfl (by omega) hL rfl rfl d_law_854 d_law_855 d_law_856 d_law_857 d_law_858 ?_
  refine zr_i2l K d_law_859 ?_
  refine zr_ldc2 K (v := 4294967295) (zU_in (i := 1149) (by decide +kernel) rfl) d_law_860 ?_
  refine zr_land K d_law_863 ?_
  refine zr_lor K d_law_864 ?_
  refine zr_callVl (As := [.long (zlL (xs (i + 1)) (xs (i + 2)))]) (st := []) (c := 0) K (c_Slots_seed X h g (zlL (xs (i + 1)) (xs (i + 2)))) k_Slots_seed (zU_in (i := 718) (by decide +kernel) rfl) (zU_in (i := 719) (by decide +kernel) rfl) (zU_in (i := 720) (by decide +kernel) rfl) (by decide) (zC_Slots X _ _) rfl rfl (by decide) rfl (Nat.le_of_ble_eq_true rfl) d_law_865 ?_
  obtain ⟨g1, eg1⟩ : ∃ g1, g1 = (o_Slots_seed h g (zlL (xs (i + 1)) (xs (i + 2)))).2 := ⟨_, rfl⟩
  rw [← eg1]
  have e10 : g1 0 = zlL (xs (i + 1)) (xs (i + 2)) := by rw [eg1]; exact zl_g0 g _
  have e11 : g1 1 = g 1 := by rw [eg1]; exact zl_g1 g  (zlL (xs (i + 1)) (xs (i + 2)))
  refine zr_aload_n K (a0 := X.2.2.2.2 51) d_law_868 rfl ?_
  refine zl_arg K S (j := 1) (jv := 1) rfl rfl (by omega) hL rfl rfl d_law_869 d_law_870 d_law_871 d_law_872 d_law_873 ?_
  refine zr_i2l K d_law_874 ?_
  refine zr_bipush K (v := 32) d_law_875 rfl ?_
  refine zr_lshl K d_law_877 ?_
  refine zl_arg K S (j := 2) (jv := 2) rfl rfl (by omega) hL rfl rfl d_law_878 d_law_879 d_law_880 d_law_881 d_law_882 ?_
  refine zr_i2l K d_law_883 ?_
  refine zr_ldc2 K (v := 4294967295) (zU_in (i := 1149) (by decide +kernel) rfl) d_law_884 ?_
  refine zr_land K d_law_887 ?_
  refine zr_lor K d_law_888 ?_
  refine zr_callVl (As := [.long (zlL (xs (i + 1)) (xs (i + 2)))]) (st := [.long ((o_Slots_seed h g (zlL (xs (i + 1)) (xs (i + 2)))).1)]) (c := 51) K (c_Model_seed X h g1 (zlL (xs (i + 1)) (xs (i + 2)))) k_Model_seed (zU_in (i := 1131) (by decide +kernel) rfl) (zU_in (i := 1132) (by decide +kernel) rfl) (zU_in (i := 1133) (by decide +kernel) rfl) (by decide) (zC_Model X _ _) rfl rfl (by decide) rfl (Nat.le_of_ble_eq_true rfl) d_law_889 ?_
  have E := op_seed H (zlL (xs (i + 1)) (xs (i + 2)))
  refine zr_lcmp K d_law_892 ?_
  have e1 : (o_Slots_seed h g (zlL (xs (i + 1)) (xs (i + 2)))).1 = (o_Model_seed h g1 (zlL (xs (i + 1)) (xs (i + 2)))).1 := E.1.trans e11.symm
  have e2 : (o_Model_seed h g1 (zlL (xs (i + 1)) (xs (i + 2)))).2 0 = zlL (xs (i + 1)) (xs (i + 2)) := (zl_g2 g1 (zlL (xs (i + 1)) (xs (i + 2)))).trans e10
  have e3 : (o_Model_seed h g1 (zlL (xs (i + 1)) (xs (i + 2)))).2 1 = zlL (xs (i + 1)) (xs (i + 2)) := zl_g3 g1 (zlL (xs (i + 1)) (xs (i + 2)))
  refine zr_if_eq K 967 d_law_893 (by decide) (fun _ => kk h _ (by rw [e2, e3]; exact E.2)) (fun q => absurd (by rw [e1]; exact zl_cmp _) q)
set_option maxHeartbeats 1000000 in
set_option maxRecDepth 20000 in
theorem zl_drawn (K : zOk X Γ code "PeriodSlotsLaw" 4 20 rt) (S : zLs X Γ b L xs) {i k : Nat} (hi : i + 3 < L) (hL : L ≤ 2048) {h : zHp} {g : zLg} (H : zREL k h h (g 0) (g 1)) (hk : k + 4 < 2 ^ 17) (kk : ∀ (h2 : zHp) (g2 : zLg), zREL (k + 40) h2 h2 (g2 0) (g2 1) → zV X Γ Q 967 (zlv X b i) [] h2 g2) : zV X Γ Q 898 (zlv X b i) [] h g := by
  have P := zl_pc H
  refine zr_aload_n K (a0 := X.2.2.2.2 0) d_law_898 rfl ?_
  refine zl_arg K S (j := 1) (jv := 1) rfl rfl (by omega) hL rfl rfl d_law_899 d_law_900 d_law_901 d_law_902 d_law_903 ?_
  refine zr_callVi (As := [.int (xs (i + 1))]) (st := []) (c := 0) K (c_Slots_drawn X h g (xs (i + 1)) P.2.1) k_Slots_drawn (zU_in (i := 722) (by decide +kernel) rfl) (zU_in (i := 723) (by decide +kernel) rfl) (zU_in (i := 724) (by decide +kernel) rfl) (by decide) (zC_Slots X _ _) rfl rfl (by decide) rfl (Nat.le_of_ble_eq_true rfl) d_law_904 ?_
  obtain ⟨h1, eh1⟩ : ∃ h1, h1 = (o_Slots_drawn h g (xs (i + 1))).2.1 := ⟨_, rfl⟩
  obtain ⟨g1, eg1⟩ : ∃ g1, g1 = (o_Slots_drawn h g (xs (i + 1))).2.2 := ⟨_, rfl⟩
  have e11 : g1 1 = g 1 := by rw [eg1]; exact (op_drawn (g := g) (g2 := g) H (xs (i + 1))).2.2.1 1 (by decide)
  have f1 : ∀ c j, 51 ≤ c → h1 c j = h c j := fun c j q => by rw [eh1]; exact fr_Slots_drawn c j (by omega) (by omega) (by omega) (by omega) (by omega) (by omega) (by omega) (by omega) (by omega) (by omega) (by omega) (by omega) (by omega) (by omega)
  have H1 : zREL k h h1 (g 0) (g1 1) := by rw [e11]; exact zl_mid f1 H
  rw [← eh1, ← eg1]
  have N := zl_pm H1
  refine zr_aload_n K (a0 := X.2.2.2.2 51) d_law_907 rfl ?_
  refine zl_arg K S (j := 1) (jv := 1) rfl rfl (by omega) hL rfl rfl d_law_908 d_law_909 d_law_910 d_law_911 d_law_912 ?_
  refine zr_callVi (As := [.int (xs (i + 1))]) (st := [.int ((o_Slots_drawn h g (xs (i + 1))).1)]) (c := 51) K (c_Model_drawn X h1 g1 (xs (i + 1)) N.2.1 N.2.2.2.2.2.1) k_Model_drawn (zU_in (i := 1135) (by decide +kernel) rfl) (zU_in (i := 1136) (by decide +kernel) rfl) (zU_in (i := 1137) (by decide +kernel) rfl) (by decide) (zC_Model X _ _) rfl rfl (by decide) rfl (Nat.le_of_ble_eq_true rfl) d_law_913 ?_
  have E := op_drawn (g := g) (g2 := g1) H1 (xs (i + 1))
  rw [← eh1, ← eg1] at E
  have e0 : (o_Model_drawn h1 g1 (xs (i + 1))).2.2 0 = g1 0 := E.2.2.2 0 (by decide)
  refine zr_icmp_eq K 967 d_law_916 (by decide) (fun _ => kk _ _ (by rw [e0]; exact zl_end (fun c j q => fr_Model_drawn c j (by omega) (by omega) (by omega) (by omega) (by omega) (by omega) (by omega)) E.2.1)) (fun q => absurd E.1 q)
set_option maxHeartbeats 1000000 in
set_option maxRecDepth 20000 in
theorem zl_keep (K : zOk X Γ code "PeriodSlotsLaw" 4 20 rt) (S : zLs X Γ b L xs) {i k : Nat} (hi : i + 3 < L) (hL : L ≤ 2048) {h : zHp} {g : zLg} (H : zREL k h h (g 0) (g 1)) (hk : k + 4 < 2 ^ 17) (kk : ∀ (h2 : zHp) (g2 : zLg), zREL (k + 40) h2 h2 (g2 0) (g2 1) → zV X Γ Q 967 (zlv X b i) [] h2 g2) : zV X Γ Q 921 (zlv X b i) [] h g := by
  have P := zl_pc H
  refine zr_aload_n K (a0 := X.2.2.2.2 0) d_law_921 rfl ?_
  refine zl_arg K S (j := 1) (jv := 1) rfl rfl (by omega) hL rfl rfl d_law_922 d_law_923 d_law_924 d_law_925 d_law_926 ?_
  refine zr_callVi (As := [.int (xs (i + 1))]) (st := []) (c := 0) K (c_Slots_keep X h g (xs (i + 1)) P.2.1 P.2.2.2.2.2.1) k_Slots_keep (zU_in (i := 733) (by decide +kernel) rfl) (zU_in (i := 734) (by decide +kernel) rfl) (zU_in (i := 735) (by decide +kernel) rfl) (by decide) (zC_Slots X _ _) rfl rfl (by decide) rfl (Nat.le_of_ble_eq_true rfl) d_law_927 ?_
  obtain ⟨h1, eh1⟩ : ∃ h1, h1 = (o_Slots_keep h (xs (i + 1))).2 := ⟨_, rfl⟩
  have f1 : ∀ c j, 51 ≤ c → h1 c j = h c j := fun c j q => by rw [eh1]; exact fr_Slots_keep c j (by omega) (by omega)
  have H1 : zREL k h h1 (g 0) (g 1) := zl_mid f1 H
  rw [← eh1]
  have N := zl_pm H1
  refine zr_aload_n K (a0 := X.2.2.2.2 51) d_law_930 rfl ?_
  refine zl_arg K S (j := 1) (jv := 1) rfl rfl (by omega) hL rfl rfl d_law_931 d_law_932 d_law_933 d_law_934 d_law_935 ?_
  refine zr_callVi (As := [.int (xs (i + 1))]) (st := [.int ((o_Slots_keep h (xs (i + 1))).1)]) (c := 51) K (c_Model_keep X h1 g (xs (i + 1))) k_Model_keep (zU_in (i := 1141) (by decide +kernel) rfl) (zU_in (i := 1142) (by decide +kernel) rfl) (zU_in (i := 1143) (by decide +kernel) rfl) (by decide) (zC_Model X _ _) rfl rfl (by decide) rfl (Nat.le_of_ble_eq_true rfl) d_law_936 ?_
  have E := op_keep H1 (xs (i + 1))
  rw [← eh1] at E
  refine zr_icmp_eq K 967 d_law_939 (by decide) (fun _ => kk _ g (zl_end (fun c j q => fr_Model_keep c j (by omega) (by omega)) E.2)) (fun q => absurd E.1 q)
set_option maxHeartbeats 1000000 in
set_option maxRecDepth 20000 in
theorem zl_again (K : zOk X Γ code "PeriodSlotsLaw" 4 20 rt) (S : zLs X Γ b L xs) {i k : Nat} (hi : i + 3 < L) (hL : L ≤ 2048) {h : zHp} {g : zLg} (H : zREL k h h (g 0) (g 1)) (hk : k + 4 < 2 ^ 17) (kk : ∀ (h2 : zHp) (g2 : zLg), zREL (k + 40) h2 h2 (g2 0) (g2 1) → zV X Γ Q 967 (zlv X b i) [] h2 g2) : zV X Γ Q 944 (zlv X b i) [] h g := by
  have P := zl_pc H
  refine zr_aload_n K (a0 := X.2.2.2.2 0) d_law_944 rfl ?_
  refine zl_arg K S (j := 1) (jv := 1) rfl rfl (by omega) hL rfl rfl d_law_945 d_law_946 d_law_947 d_law_948 d_law_949 ?_
  refine zr_callVi (As := [.int (xs (i + 1))]) (st := []) (c := 0) K (c_Slots_again X h g (xs (i + 1)) P.2.1 P.2.2.2.2.2.1) k_Slots_again (zU_in (i := 738) (by decide +kernel) rfl) (zU_in (i := 739) (by decide +kernel) rfl) (zU_in (i := 740) (by decide +kernel) rfl) (by decide) (zC_Slots X _ _) rfl rfl (by decide) rfl (Nat.le_of_ble_eq_true rfl) d_law_950 ?_
  obtain ⟨h1, eh1⟩ : ∃ h1, h1 = (o_Slots_again h (xs (i + 1))).2 := ⟨_, rfl⟩
  have f1 : ∀ c j, 51 ≤ c → h1 c j = h c j := fun c j q => by rw [eh1]; exact fr_Slots_again c j (by omega) (by omega) (by omega) (by omega) (by omega) (by omega) (by omega) (by omega) (by omega) (by omega)
  have H1 : zREL k h h1 (g 0) (g 1) := zl_mid f1 H
  rw [← eh1]
  have N := zl_pm H1
  refine zr_aload_n K (a0 := X.2.2.2.2 51) d_law_953 rfl ?_
  refine zl_arg K S (j := 1) (jv := 1) rfl rfl (by omega) hL rfl rfl d_law_954 d_law_955 d_law_956 d_law_957 d_law_958 ?_
  refine zr_callVi (As := [.int (xs (i + 1))]) (st := [.int ((o_Slots_again h (xs (i + 1))).1)]) (c := 51) K (c_Model_again X h1 g (xs (i + 1))) k_Model_again (zU_in (i := 1145) (by decide +kernel) rfl) (zU_in (i := 1146) (by decide +kernel) rfl) (zU_in (i := 1147) (by decide +kernel) rfl) (by decide) (zC_Model X _ _) rfl rfl (by decide) rfl (Nat.le_of_ble_eq_true rfl) d_law_959 ?_
  have E := op_again H1 (Nat.lt_of_le_of_lt (Nat.le_add_right _ _) hk) (xs (i + 1))
  rw [← eh1] at E
  refine zr_icmp_eq K 967 d_law_962 (by decide) (fun _ => kk _ g (zl_end (fun c j q => fr_Model_again c j (by omega) (by omega)) E.2)) (fun q => absurd E.1 q)
end
