/-! The law: one turn of its loop, and the loop. -/
theorem zl_31 (x : Int32) : ∃ m, m < 32 ∧ x &&& 31 = nI m :=
  q_small (n := 5) (by omega) (fun i h1 h2 => by
    rw [b_and, (by decide +kernel : ∀ i, i < 32 → bt 31 i = decide (i < 5)) i h2, decide_eq_false (by omega), Bool.and_false])
theorem zl_gt {L i : Nat} (hL : L ≤ 2048) (hi : i ≤ 2048) (q : ¬ nI L - 4 < nI i) : i + 4 ≤ L := by
  rcases Nat.lt_or_ge L 4 with h | h
  · exact absurd (Int32.lt_of_lt_of_le ((by decide : ∀ L, L < 4 → nI L - 4 < 0) L h) (nI_pos' (by omega))) q
  · rw [zn_sub (x := nI L) (y := 4) (a := L) (b := 4) rfl rfl h] at q
    rcases Nat.lt_or_ge (L - 4) i with h2 | h2
    · exact absurd (nI_lt h2 (by omega)) q
    · omega
section
variable {X : zXT} {Γ : zGT} {Q : State → Prop} {rt : Option FieldType} {b L : Nat} {xs : Nat → Int32}
theorem zl_case (K : zOk X Γ code "PeriodSlotsLaw" 4 20 rt) (S : zLs X Γ b L xs) {i k : Nat} (hi : i + 3 < L) (hL : L ≤ 2048) {h : zHp} {g : zLg} (H : zREL k h h (g 0) (g 1)) (hk : k + 4 < 2 ^ 17) (kk : ∀ (h2 : zHp) (g2 : zLg), zREL (k + 40) h2 h2 (g2 0) (g2 1) → zV X Γ Q 967 (zlv X b i) [] h2 g2) : ∀ m, m < 32 → zV X Γ Q 32 (zlv X b i) [.int (nI m)] h g := fun m hm => by
  match m, hm with
  | 0, _ => exact zr_tabIn K (off := 128) 160 d_law_32 (by decide) (by decide) (by decide +kernel) (by decide) (zl_write K S hi hL H hk kk)
  | 1, _ => exact zr_tabIn K (off := 151) 183 d_law_32 (by decide) (by decide) (by decide +kernel) (by decide) (zl_wipe K S hi hL H hk kk)
  | 2, _ => exact zr_tabIn K (off := 164) 196 d_law_32 (by decide) (by decide) (by decide +kernel) (by decide) (zl_fault K S hi hL H hk kk)
  | 3, _ => exact zr_tabIn K (off := 177) 209 d_law_32 (by decide) (by decide) (by decide +kernel) (by decide) (zl_field K S hi hL H hk kk)
  | 4, _ => exact zr_tabIn K (off := 190) 222 d_law_32 (by decide) (by decide) (by decide +kernel) (by decide) (zl_about K S hi hL H hk kk)
  | 5, _ => exact zr_tabIn K (off := 213) 245 d_law_32 (by decide) (by decide) (by decide +kernel) (by decide) (zl_station K S hi hL H hk kk)
  | 6, _ => exact zr_tabIn K (off := 246) 278 d_law_32 (by decide) (by decide) (by decide +kernel) (by decide) (zl_round K S hi hL H hk kk)
  | 7, _ => exact zr_tabIn K (off := 259) 291 d_law_32 (by decide) (by decide) (by decide +kernel) (by decide) (zl_turn K S hi hL H hk kk)
  | 8, _ => exact zr_tabIn K (off := 292) 324 d_law_32 (by decide) (by decide) (by decide +kernel) (by decide) (zl_lay K S hi hL H hk kk)
  | 9, _ => exact zr_tabIn K (off := 325) 357 d_law_32 (by decide) (by decide) (by decide +kernel) (by decide) (zl_shift K S hi hL H hk kk)
  | 10, _ => exact zr_tabIn K (off := 358) 390 d_law_32 (by decide) (by decide) (by decide +kernel) (by decide) (zl_join K S hi hL H hk kk)
  | 11, _ => exact zr_tabIn K (off := 391) 423 d_law_32 (by decide) (by decide) (by decide +kernel) (by decide) (zl_run K S hi hL H hk kk)
  | 12, _ => exact zr_tabIn K (off := 404) 436 d_law_32 (by decide) (by decide) (by decide +kernel) (by decide) (zl_undo K S hi hL H hk kk)
  | 13, _ => exact zr_tabIn K (off := 417) 449 d_law_32 (by decide) (by decide) (by decide +kernel) (by decide) (zl_ahead K S hi hL H hk kk)
  | 14, _ => exact zr_tabIn K (off := 440) 472 d_law_32 (by decide) (by decide) (by decide +kernel) (by decide) (zl_plan K S hi hL H hk kk)
  | 15, _ => exact zr_tabIn K (off := 463) 495 d_law_32 (by decide) (by decide) (by decide +kernel) (by decide) (zl_shifted K S hi hL H hk kk)
  | 16, _ => exact zr_tabIn K (off := 496) 528 d_law_32 (by decide) (by decide) (by decide +kernel) (by decide) (zl_awake K S hi hL H hk kk)
  | 17, _ => exact zr_tabIn K (off := 529) 561 d_law_32 (by decide) (by decide) (by decide +kernel) (by decide) (zl_arrives K S hi hL H hk kk)
  | 18, _ => exact zr_tabIn K (off := 572) 604 d_law_32 (by decide) (by decide) (by decide +kernel) (by decide) (zl_judge K S hi hL H hk kk)
  | 19, _ => exact zr_tabIn K (off := 635) 667 d_law_32 (by decide) (by decide) (by decide +kernel) (by decide) (zl_see K S hi hL H hk kk)
  | 20, _ => exact zr_tabIn K (off := 678) 710 d_law_32 (by decide) (by decide) (by decide +kernel) (by decide) (zl_unsee K S hi hL H hk kk)
  | 21, _ => exact zr_tabIn K (off := 691) 723 d_law_32 (by decide) (by decide) (by decide +kernel) (by decide) (zl_which K S hi hL H hk kk)
  | 22, _ => exact zr_tabIn K (off := 714) 746 d_law_32 (by decide) (by decide) (by decide +kernel) (by decide) (zl_share K S hi hL H hk kk)
  | 23, _ => exact zr_tabIn K (off := 763) 795 d_law_32 (by decide) (by decide) (by decide +kernel) (by decide) (zl_off K S hi hL H hk kk)
  | 24, _ => exact zr_tabIn K (off := 812) 844 d_law_32 (by decide) (by decide) (by decide +kernel) (by decide) (zl_seed K S hi hL H hk kk)
  | 25, _ => exact zr_tabIn K (off := 866) 898 d_law_32 (by decide) (by decide) (by decide +kernel) (by decide) (zl_drawn K S hi hL H hk kk)
  | 26, _ => exact zr_tabIn K (off := 889) 921 d_law_32 (by decide) (by decide) (by decide +kernel) (by decide) (zl_keep K S hi hL H hk kk)
  | 27, _ => exact zr_tabIn K (off := 912) 944 d_law_32 (by decide) (by decide) (by decide +kernel) (by decide) (zl_again K S hi hL H hk kk)
  | m + 28, hm =>
    refine zr_tabOut K 967 d_law_32 (Or.inr ?_) (by decide) (kk h g (zREL_mono (Nat.le_add_right _ _) H))
    rw [nI_toInt (by omega)]
    omega
theorem zl_tick (K : zOk X Γ code "PeriodSlotsLaw" 4 20 rt) (S : zLs X Γ b L xs) {i k : Nat} (hi : i + 3 < L) (hL : L ≤ 2048) {h : zHp} {g : zLg} (H : zREL k h h (g 0) (g 1)) (hk : k + 4 < 2 ^ 17) (kk : ∀ (h2 : zHp) (g2 : zLg), zREL (k + 40) h2 h2 (g2 0) (g2 1) → zV X Γ Q 967 (zlv X b i) [] h2 g2) : zV X Γ Q 26 (zlv X b i) [] h g := by
  refine zr_aload_n K (a0 := b) d_law_26 rfl ?_
  refine zr_iload_n K d_law_27 rfl ?_
  refine zl_sld K S (n := i) rfl (by omega) hL d_law_28 ?_
  refine zr_bipush K (v := 31) d_law_29 rfl ?_
  refine zr_iand K d_law_31 ?_
  obtain ⟨m, hm, e⟩ := zl_31 (xs i)
  exact zr_top e (zl_case K S hi hL H hk kk m hm)
/-- the loop: t calls done, t of them told -/
theorem zl_loop (K : zOk X Γ code "PeriodSlotsLaw" 4 20 rt) (S : zLs X Γ b L xs) (hL : L ≤ 2048) (done : ∀ (i : Nat) (h : zHp) (g : zLg), zV X Γ Q 973 (zlv X b i) [] h g) : ∀ (n t : Nat) (h : zHp) (g : zLg), t + n = 513 → 4 * t ≤ 2048 → zREL (40 * t) h h (g 0) (g 1) → zV X Γ Q 18 (zlv X b (4 * t)) [] h g := by
  intro n
  induction n with
  | zero => intro t h g h1 h2; omega
  | succ n ih =>
    intro t h g h1 h2 H
    refine zr_iload_n K d_law_18 rfl ?_
    refine zr_aload_n K (a0 := b) d_law_19 rfl ?_
    refine zl_slen K S d_law_20 ?_
    refine zr_iconst K (v := 4) d_law_21 rfl ?_
    refine zr_isub K d_law_22 ?_
    refine zr_icmp_gt K 973 d_law_23 (by decide) (fun _ => done _ h g) (fun q => ?_)
    have q4 := zl_gt hL h2 q
    refine zl_tick K S (by omega) hL H (by omega) (fun h3 g3 H3 => ?_)
    refine zr_iinc K (zlv X b (4 * (t + 1))) (x := nI (4 * t)) (v := nI (4 * (t + 1))) d_law_967 rfl ?_ (Nat.le_of_ble_eq_true rfl) rfl rfl ?_
    · show nI (4 * t) + nI 4 = _
      rw [nI_add]
      rfl
    · refine zr_goto K 18 d_law_970 (by decide) ?_
      exact ih (t + 1) h3 g3 (by omega) (by omega) H3
end
