/-! fault and field, whole. -/
section ZM
variable {K : Nat} {C M : zHp} {x y : Int64}
theorem op_fault (H : zREL K C M x y) : (o_Slots_fault C).1 = (o_Model_fault M).1 ∧ zREL (K + 40) (o_Slots_fault C).2 (o_Model_fault M).2 x y := by
  refine ⟨(rd_text H.choose_spec.2.1).1, ?_⟩
  obtain ⟨n, R, h2, h3, h4, h5, h6, h7⟩ := H
  have h8 := m_8 R
  have z8 := (zrd_readText h3).2
  show zREL (K + 40) (o_Text_readInto C 15).2 (o_Model_readText M).2 x y
  have fC : ∀ c j, (c < 15 ∨ 25 < c) → (o_Text_readInto C 15).2 c j = C c j := fun c j q => by
    apply fr_Text_readInto <;> omega
  have fM : ∀ c j, ¬ (c = 51 ∧ 5 ≤ j ∧ j ≤ 8) → c ≠ 63 → c ≠ 64 → c ≠ 65 → (o_Model_readText M).2 c j = M c j := fun c j q1 q2 q3 q4 => by
    apply fr_Model_readText <;> omega
  generalize (o_Text_readInto C 15).2 = C2 at fC ⊢
  generalize (o_Model_readText M).2 = M2 at fM z8 ⊢
  refine zREL_mono (by omega) (K := K) ⟨n, ?_, ?_, z8, ?_, ?_, ?_, h7⟩
  · refine zmr_frM (fM _ _ (by omega) (by omega) (by omega) (by omega)) (fun v _ => fM _ _ (by omega) (by omega) (by omega) (by omega)) (fun v _ => ⟨fM _ _ (by omega) (by omega) (by omega) (by omega), fM _ _ (by omega) (by omega) (by omega) (by omega), fM _ _ (by omega) (by omega) (by omega) (by omega)⟩) (fM _ _ (by omega) (by omega) (by omega) (by omega)) ?_
    exact zmr_frC (fun j hj => fC _ _ (by omega)) (fun i v h1 h2 => fC _ _ (by omega)) R
  · exact zTXT_fr (fC _ _ (by omega)) (fun j => fC _ _ (by omega)) (fM _ _ (by omega) (by omega) (by omega) (by omega)) (fun j => fM _ _ (by omega) (by omega) (by omega) (by omega)) h2
  · exact zOBS_fr (fC _ _ (by omega)) (fun j => ⟨fC _ _ (by omega), fC _ _ (by omega), fC _ _ (by omega)⟩) (fM _ _ (by omega) (by omega) (by omega) (by omega)) (fun j => ⟨fM _ _ (by omega) (by omega) (by omega) (by omega), fM _ _ (by omega) (by omega) (by omega) (by omega), fM _ _ (by omega) (by omega) (by omega) (by omega)⟩) h4
  · exact zACT_fr h8 (fC _ _ (by omega)) (fC _ _ (by omega)) (fC _ _ (by omega)) (fC _ _ (by omega)) (fun j => fC _ _ (by omega)) (fM _ _ (by omega) (by omega) (by omega) (by omega)) (fM _ _ (by omega) (by omega) (by omega) (by omega)) (fun j => fM _ _ (by omega) (by omega) (by omega) (by omega)) (fun v _ => fM _ _ (by omega) (by omega) (by omega) (by omega)) h5
  · exact zSLO_fr h8 (fC _ _ (by omega)) (fC _ _ (by omega)) (fun j => fC _ _ (by omega)) (fun j => fM _ _ (by omega) (by omega) (by omega) (by omega)) (fun j => fM _ _ (by omega) (by omega) (by omega) (by omega)) (fun v _ => fM _ _ (by omega) (by omega) (by omega) (by omega)) h6
theorem q_clr (h : zHp) (r : Nat) : ∀ c j, o_Model_clear h r c j = if c = r ∧ j < 25 then (if 16 ≤ nI j then 0 else -9) else h c j := fun c j => by
  unfold o_Model_clear
  exact q_row (F := fun i _ => if 16 ≤ nI i then 0 else -9) (G := fun i => if 16 ≤ nI i then 0 else -9) 25 (fun _ _ _ _ => rfl) c j
theorem q_fill3 {h t : zHp} {n : Nat} (h8 : n ≤ 8) : ∀ c j, zrep (fun (i : Nat) (s : zHp) => zup (zup (zup s 53 i (t 63 i)) 54 i (t 64 i)) 54 (16 + i) (t 65 i)) h n c j = if c = 53 ∧ j < n then t 63 j else if c = 54 ∧ j < n then t 64 j else if c = 54 ∧ 16 ≤ j ∧ j < 16 + n then t 65 (j - 16) else h c j := by
  induction n with
  | zero =>
    intro c j
    rw [if_neg (by omega), if_neg (by omega), if_neg (by omega)]
    rfl
  | succ n ih =>
    intro c j
    have ih := ih (by omega) c j
    rw [zrep]
    generalize zrep (fun (i : Nat) (s : zHp) => zup (zup (zup s 53 i (t 63 i)) 54 i (t 64 i)) 54 (16 + i) (t 65 i)) h n = s at ih ⊢
    by_cases q1 : c = 54 ∧ j = 16 + n
    · obtain ⟨rfl, rfl⟩ := q1
      rw [zup_at, if_neg (by omega), if_neg (by omega), if_pos (by omega), show 16 + n - 16 = n by omega]
    · rw [zup_fr (by omega)]
      by_cases q2 : c = 54 ∧ j = n
      · obtain ⟨rfl, rfl⟩ := q2
        rw [zup_at, if_neg (by omega), if_pos (by omega)]
      · rw [zup_fr (by omega)]
        by_cases q3 : c = 53 ∧ j = n
        · obtain ⟨rfl, rfl⟩ := q3
          rw [zup_at, if_pos (by omega)]
        · rw [zup_fr (by omega), ih]
          by_cases p1 : c = 53 ∧ j < n
          · rw [if_pos p1, if_pos (by omega)]
          · rw [if_neg p1, if_neg (c := c = 53 ∧ j < n + 1) (by omega)]
            by_cases p2 : c = 54 ∧ j < n
            · rw [if_pos p2, if_pos (by omega)]
            · rw [if_neg p2, if_neg (c := c = 54 ∧ j < n + 1) (by omega)]
              by_cases p3 : c = 54 ∧ 16 ≤ j ∧ j < 16 + n
              · rw [if_pos p3, if_pos (by omega)]
              · rw [if_neg p3, if_neg (by omega)]
theorem op_field (H : zREL K C M x y) : (o_Slots_field C).1 = (o_Model_field M).1 ∧ zREL (K + 40) (o_Slots_field C).2 (o_Model_field M).2 x y := by
  obtain ⟨-, F⟩ := op_fault H
  have T := H
  obtain ⟨-, -, T, -⟩ := T
  obtain ⟨t1, t2⟩ := rd_text T
  clear H T
  unfold o_Slots_fault o_Model_fault at F
  unfold o_Slots_field o_Model_field
  rw [← t1]
  by_cases c : (o_Text_readInto C 15).1 = -9
  · rw [if_pos c, if_pos c]
    obtain ⟨n, R⟩ := t2 c
    clear t1 t2 c
    dsimp only at F ⊢
    generalize (o_Text_readInto C 15).2 = s at F R ⊢
    generalize (o_Model_readText M).2 = t at F R ⊢
    obtain ⟨n1, n2, h8⟩ := rd_n R
    have R2 : zmr (o_Mesh_copyFrom s 3 15) 3 (q_vh t) 54 n (q_all n) 0 := m_copyC (b := 3) (o := 15) (Or.inl rfl) (Or.inr (Or.inl rfl)) (by decide) R
    have fC : ∀ c j, (c < 3 ∨ 13 < c) → o_Mesh_copyFrom s 3 15 c j = s c j := fun c j q => by
      apply fr_Mesh_copyFrom <;> omega
    rw [n2, zcn_nI (by omega)]
    refine ⟨R2.1.1, ?_⟩
    generalize o_Mesh_copyFrom s 3 15 = C2 at R2 fC ⊢
    have gC : ∀ c j, o_Shelf44_clear (o_Acts_forget C2) c j = if (c = 41 ∨ c = 44) ∧ j = 1 then 0 else C2 c j := fun c j => by
      unfold o_Shelf44_clear o_Acts_forget
      by_cases q1 : c = 44 ∧ j = 1
      · obtain ⟨rfl, rfl⟩ := q1
        rw [zup_at, if_pos (by omega)]
      · rw [zup_fr (by omega)]
        by_cases q2 : c = 41 ∧ j = 1
        · obtain ⟨rfl, rfl⟩ := q2
          rw [zup_at, if_pos (by omega)]
        · rw [zup_fr (by omega), if_neg (by omega)]
    generalize o_Shelf44_clear (o_Acts_forget C2) = C3 at gC ⊢
    have gM : ∀ c j, (zup (zup (zup (zrep (fun (i : Nat) (s : zHp) => zup (zup (zup s 53 i (t 63 i)) 54 i (t 64 i)) 54 (16 + i) (t 65 i)) (o_Model_clear (zup t 51 1 (nI n)) 54) n) 51 2 0) 59 0 0) 59 1 0) c j = if c = 59 ∧ j < 2 then 0 else if c = 51 ∧ j = 2 then 0 else if c = 53 ∧ j < n then t 63 j else if c = 54 ∧ j < n then t 64 j else if c = 54 ∧ 16 ≤ j ∧ j < 16 + n then t 65 (j - 16) else if c = 54 ∧ j < 25 then (if 16 ≤ nI j then 0 else -9) else if c = 51 ∧ j = 1 then nI n else t c j := fun c j => by
      by_cases q1 : c = 59 ∧ j = 1
      · obtain ⟨rfl, rfl⟩ := q1
        rw [zup_at, if_pos (by omega)]
      · rw [zup_fr (by omega)]
        by_cases q2 : c = 59 ∧ j = 0
        · obtain ⟨rfl, rfl⟩ := q2
          rw [zup_at, if_pos (by omega)]
        · rw [zup_fr (by omega), if_neg (by omega)]
          by_cases q3 : c = 51 ∧ j = 2
          · obtain ⟨rfl, rfl⟩ := q3
            rw [zup_at, if_pos (by omega)]
          · rw [zup_fr (by omega), if_neg q3, q_fill3 h8, q_clr]
            by_cases q4 : c = 51 ∧ j = 1
            · obtain ⟨rfl, rfl⟩ := q4
              rw [if_neg (c := 51 = 54 ∧ 1 < 25) (by omega), if_pos (c := 51 = 51 ∧ 1 = 1) (by omega), zup_at, if_neg (c := 51 = 53 ∧ 1 < n) (by omega), if_neg (c := 51 = 54 ∧ 1 < n) (by omega), if_neg (c := 51 = 54 ∧ 16 ≤ 1 ∧ 1 < 16 + n) (by omega), if_neg (c := 51 = 54 ∧ 1 < 25) (by omega), if_neg (c := 51 = 53 ∧ 1 < n) (by omega), if_neg (c := 51 = 54 ∧ 1 < n) (by omega), if_neg (c := 51 = 54 ∧ 16 ≤ 1 ∧ 1 < 16 + n) (by omega)]
            · rw [zup_fr (c2 := c) (k2 := j) (by omega), if_neg q4]
    generalize (zup (zup (zup (zrep (fun (i : Nat) (s : zHp) => zup (zup (zup s 53 i (t 63 i)) 54 i (t 64 i)) 54 (16 + i) (t 65 i)) (o_Model_clear (zup t 51 1 (nI n)) 54) n) 51 2 0) 59 0 0) 59 1 0) = M3 at gM ⊢
    obtain ⟨n0, R0, h2, h3, h4, h5, h6, h7⟩ := F
    have gC2 : ∀ c j, (c < 3 ∨ 13 < c) → ¬ ((c = 41 ∨ c = 44) ∧ j = 1) → C3 c j = s c j := fun c j q1 q2 => by rw [gC, if_neg q2, fC c j q1]
    have gM2 : ∀ c j, c ≠ 59 → c ≠ 53 → c ≠ 54 → ¬ (c = 51 ∧ (j = 1 ∨ j = 2)) → M3 c j = t c j := fun c j q1 q2 q3 q4 => by
      rw [gM, if_neg (by omega), if_neg (by omega), if_neg (by omega), if_neg (by omega), if_neg (by omega), if_neg (by omega), if_neg (by omega)]
    refine ⟨n, ?_, ?_, ?_, ?_, ?_, ?_, h7⟩
    · refine zmr_mono (Nat.zero_le _) (zmr_frM (k := q_vh t) ?_ (fun v hv => ?_) (fun v hv => ⟨?_, ?_, ?_⟩) ?_ (zmr_frC (fun j hj => ?_) (fun i v h1 h2 => ?_) R2))
      · rw [gM, if_neg (by omega), if_neg (by omega), if_neg (by omega), if_neg (by omega), if_neg (by omega), if_neg (by omega), if_pos (by omega), v_cnt, n2]
      · rw [gM, if_neg (by omega), if_neg (by omega), if_pos (by omega), v_prd]
      · rw [gM, if_neg (by omega), if_neg (by omega), if_neg (by omega), if_pos (by omega), v_off _ (by omega)]
      · rw [gM, if_neg (by omega), if_neg (by omega), if_neg (by omega), if_neg (by omega), if_neg (by omega), if_pos (by omega), v_old _ (by omega), if_neg (fun q => by have := (nI_leI (a := 16) (b := 8 + v) (by omega) (by omega)).mp q; omega)]
      · rw [gM, if_neg (by omega), if_neg (by omega), if_neg (by omega), if_neg (by omega), if_pos (by omega), v_lnk _ (by omega), show 16 + v - 16 = v by omega]
      · rw [gM, if_neg (by omega), if_neg (by omega), if_neg (by omega), if_neg (by omega), if_neg (by omega), if_pos (by omega), v_rnd, if_pos (by decide)]
      · rw [gC, if_neg (by omega)]
      · rw [gC, if_neg (by omega)]
    · exact zTXT_fr (gC2 _ _ (by omega) (by omega)) (fun j => gC2 _ _ (by omega) (by omega)) (gM2 _ _ (by omega) (by omega) (by omega) (by omega)) (fun j => gM2 _ _ (by omega) (by omega) (by omega) (by omega)) h2
    · exact zfit_fr (gM2 _ _ (by omega) (by omega) (by omega) (by omega)) h3
    · exact zOBS_fr (gC2 _ _ (by omega) (by omega)) (fun j => ⟨gC2 _ _ (by omega) (by omega), gC2 _ _ (by omega) (by omega), gC2 _ _ (by omega) (by omega)⟩) (gM2 _ _ (by omega) (by omega) (by omega) (by omega)) (fun j => ⟨gM2 _ _ (by omega) (by omega) (by omega) (by omega), gM2 _ _ (by omega) (by omega) (by omega) (by omega), gM2 _ _ (by omega) (by omega) (by omega) (by omega)⟩) h4
    · obtain ⟨w, k, a1, a2, a3, a4, a5, a6, a7, -⟩ := h5
      refine ⟨w, 0, a1, by omega, (gC2 _ _ (by omega) (by omega)).trans a3, (gM2 _ _ (by omega) (by omega) (by omega) (by omega)).trans a4, ?_, ?_, (gC2 _ _ (by omega) (by omega)).trans a7, fun i hi => absurd hi (Nat.not_lt_zero i)⟩
      · rw [gC, if_pos (by omega)]
        rfl
      · rw [gM, if_neg (by omega), if_pos (by omega)]
        rfl
    · refine ⟨(gC2 _ _ (by omega) (by omega)).trans h6.1, fun i hi => ?_⟩
      rw [gM, if_pos (by omega), gC, if_pos (by omega), b_0]
      exact ⟨rfl, fun q => absurd q (by decide)⟩
  · rw [if_neg c, if_neg c]
    exact ⟨rfl, F⟩
end ZM
