/-! A round of the class beside one of the reference; runs. -/
section ZQ
variable {h : zHp} {b : Nat} {k : zHp} {r n : Nat} {on : Int32} {K : Nat}
theorem q_first_iff (h8 : n ≤ 8) {v : Nat} (hv : v < n) : q_first k r n v = true ↔ bt (o_Model_unsettled k r) v = true ∧ ∀ e, e < n → ¬ (bt (o_Model_unsettled k r) e = true ∧ bt (k 66 v) e = true ∧ o_Model_isAbove (nI e) (nI v) (k r 24) = true) := by
  unfold q_first
  rw [q_hasM (by omega), q_all_iff]
  refine and_congr Iff.rfl ⟨fun q e he => ?_, fun q e he => ?_⟩
  · have := q e he
    rw [q_hasM (by omega), b_and] at this
    intro z
    rw [z.1, z.2.1, z.2.2] at this
    exact absurd this (by decide)
  · have := q e he
    rw [q_hasM (by omega), b_and]
    cases h1 : bt (o_Model_unsettled k r) e
    · simp
    · cases h2 : bt (k 66 v) e
      · simp
      · cases h3 : o_Model_isAbove (nI e) (nI v) (k r 24)
        · simp
        · exact absurd ⟨h1, h2, h3⟩ this
theorem m_cf (R : zmr h b k r n on K) (D : y_laid k r n on) {v : Nat} (hv : v < n) : q_cf h b v = q_first k r n v := by
  have h8 := m_8 R
  refine q_tt ?_
  rw [q_first_iff h8 hv]
  unfold q_cf
  rw [Bool.and_eq_true, m_uns R D, decide_eq_true_eq]
  refine and_congr Iff.rfl ⟨fun q e he z => ?_, fun q => ?_⟩
  · have := q_eq0.mp q e (by omega)
    rw [b_and, m_above R D hv (by omega), decide_eq_true he, z.1, z.2.1, z.2.2] at this
    exact absurd this (by decide)
  · refine q_eq0.mpr (fun e he => ?_)
    rw [b_and, m_above R D hv he]
    cases h0 : decide (e < n)
    · rfl
    · cases h1 : bt (o_Model_unsettled k r) e
      · simp
      · cases h2 : bt (k 66 v) e
        · simp
        · cases h3 : o_Model_isAbove (nI e) (nI v) (k r 24)
          · simp
          · exact absurd ⟨h1, h2, h3⟩ (q e (by simpa using h0))
theorem m_first_on (R : zmr h b k r n on K) (D : y_laid k r n on) {v : Nat} (hv : v < n) (hf : q_first k r n v = true) : bt on v = true ∧ o_Model_isUnsettled k r v = true := by
  have h8 := m_8 R
  have := ((q_first_iff h8 hv).mp hf).1
  rw [m_uns_bt R.1.2.1 h8 (by omega), D.1, Bool.and_eq_true, Bool.and_eq_true] at this
  exact this.2
/-- who moves gets another offset -/
theorem m_moved (R : zmr h b k r n on K) {v : Nat} (hv : v < n) (hu : o_Model_isUnsettled k r v = true) (h9 : ¬ k r v = -9) : ¬ o_Model_leastOf (o_Model_free k r v) = k r v := by
  have h8 := m_8 R
  intro e
  obtain ⟨-, hp, -⟩ := R.1.2.2.2 v hv
  rcases (m_isU k r v).mp hu with q | q
  · exact h9 q
  · obtain ⟨i, hi, hb⟩ := q_ne0 q
    rw [b_and, Bool.and_eq_true] at hb
    have hP := zprd_pos hp
    have hsm : ∀ j, 8 ≤ j → j < 32 → bt (o_Model_free k r v) j = false := fun j h1 h2 => by
      rw [m_free_bt hp h2, decide_eq_false (by omega), Bool.false_and]
    rcases q_least (n := 8) (by omega) hsm with ⟨-, e2⟩ | ⟨j, hj, e2, e3, -, -⟩
    · exact h9 (e.symm.trans e2)
    · rw [m_free_bt hp (by omega), Bool.and_eq_true, decide_eq_true_eq, decide_eq_true_eq] at e3
      have e4 : k r v = nI j := e.symm.trans e2
      have e5 := q_eq0.mp e3.2 i hi
      have hb1 := hb.1
      unfold o_Model_ticks at hb1
      rw [e4] at hb1
      have hb2 : bt (o_Model_heldNear k r v false) i = true := by
        have hb2 := hb.2
        unfold o_Model_heldNear at hb2 ⊢
        rw [R.1.2.1, zcn_nI (by omega)] at hb2 ⊢
        have g1 : ∀ a : Bool, zrep (fun (i6_1 : Nat) (s6_1 : Int32) => (s6_1 ||| (if (o_Model_has (k 66 v) (nI i6_1)) = true then (if a = true then (if (o_Model_isAbove (nI i6_1) (nI v) (k r 24)) = true then (o_Model_held k r i6_1) else 0) else (o_Model_held k r i6_1)) else 0))) 0 n = q_og (fun e => bt (k 66 v) e && (!a || o_Model_isAbove (nI e) (nI v) (k r 24))) (fun e => o_Model_held k r e) 0 n := fun a => q_congr n (fun e s he => by
          rw [q_hasM (by omega)]
          have hP : (bt (k 66 v) e && (!a || o_Model_isAbove (nI e) (nI v) (k r 24))) = true ↔ (bt (k 66 v) e = true ∧ (a = true → o_Model_isAbove (nI e) (nI v) (k r 24) = true)) := by
            generalize bt (k 66 v) e = x
            generalize o_Model_isAbove (nI e) (nI v) (k r 24) = y
            cases x <;> cases a <;> cases y <;> simp
          by_cases hx : bt (k 66 v) e = true
          · rw [if_pos hx]
            by_cases ha : a = true
            · rw [if_pos ha]
              by_cases hy : o_Model_isAbove (nI e) (nI v) (k r 24) = true
              · rw [if_pos hy, if_pos (hP.mpr ⟨hx, fun _ => hy⟩)]
              · rw [if_neg hy, if_neg (fun z => hy ((hP.mp z).2 ha)), q_or_0]
            · rw [if_neg ha, if_pos (hP.mpr ⟨hx, fun z => absurd z ha⟩)]
          · rw [if_neg hx, if_neg (fun z => hx (hP.mp z).1), q_or_0])
        rw [g1] at hb2 ⊢
        rw [q_og_bt] at hb2 ⊢
        rcases hb2 with z | ⟨e, he, z1, z2⟩
        · exact Or.inl z
        · rw [Bool.and_eq_true] at z1
          exact Or.inr ⟨e, he, by rw [z1.1]; rfl, z2⟩
      rw [b_and, hb1, hb2] at e5
      cases e5
/-- the new offsets and old ones are offsets -/
theorem m_newoff (R : zmr h b k r n on K) {v : Nat} (hv : v < n) : zoff (k 53 v) (q_mv k r n v) ∧ zoff (k 53 v) (q_mo k r n v) := by
  obtain ⟨-, hp, -⟩ := R.1.2.2.2 v hv
  have hP := zprd_pos hp
  have ho := (R.2.2.2.1 v hv).1
  have hl : zoff (k 53 v) (o_Model_leastOf (o_Model_free k r v)) := by
    have hsm : ∀ j, 8 ≤ j → j < 32 → bt (o_Model_free k r v) j = false := fun j h1 h2 => by
      rw [m_free_bt hp h2, decide_eq_false (by omega), Bool.false_and]
    rcases q_least (n := 8) (by omega) hsm with ⟨-, e2⟩ | ⟨j, hj, e2, e3, -, -⟩
    · exact Or.inl e2
    · rw [m_free_bt hp (by omega), Bool.and_eq_true, decide_eq_true_eq] at e3
      exact Or.inr ⟨j, e3.1, e2⟩
  unfold q_mv q_mo
  by_cases c : q_first k r n v = true
  · rw [if_pos c, if_pos c]
    refine ⟨hl, ?_⟩
    by_cases c2 : o_Model_leastOf (o_Model_free k r v) = -9
    · rw [if_pos c2]
      exact Or.inl rfl
    · rw [if_neg c2]
      exact ho
  · rw [if_neg c, if_neg c]
    exact ⟨ho, Or.inl rfl⟩
theorem q_go_iff : ∀ {m : Nat}, q_go k r n m = true ↔ ∃ v, v < m ∧ q_first k r n v = true ∧ ¬ o_Model_leastOf (o_Model_free k r v) = -9
  | 0 => ⟨fun q => absurd (show false = true from q) (by decide), fun ⟨v, hv, _⟩ => absurd hv (by omega)⟩
  | m + 1 => by
    show (q_go k r n m || (q_first k r n m && !(decide (o_Model_leastOf (o_Model_free k r m) = -9)))) = true ↔ _
    rw [Bool.or_eq_true, q_go_iff (m := m), Bool.and_eq_true, Bool.not_eq_true', decide_eq_false_iff_not]
    refine ⟨fun q => ?_, fun ⟨v, hv, z⟩ => ?_⟩
    · rcases q with ⟨v, hv, z⟩ | z
      · exact ⟨v, by omega, z⟩
      · exact ⟨m, by omega, z⟩
    · rcases Nat.lt_or_ge v m with q | q
      · exact Or.inl ⟨v, q, z⟩
      · obtain rfl : v = m := by omega
        exact Or.inr z
theorem q_placed_bt {h : zHp} {b n : Nat} (hn : h b 0 = nI n) (h8 : n ≤ 8) {j : Nat} (hj : j < 32) : bt (o_Mesh_placedSet h b) j = (decide (j < n) && !(decide (h (b + 3) j = -9))) := by
  unfold o_Mesh_placedSet
  rw [hn, zcn_nI (by omega), q_congr (g := fun i (s : Int32) => if (!(decide (h (b + 3) i = -9))) = true then s ||| zshl 1 (nI i) else s) n (fun i s hi => ?_)]
  · exact q_mk_bt (P := fun i => !(decide (h (b + 3) i = -9))) hj (by omega)
  · by_cases c : h (b + 3) i = -9
    · rw [if_pos c, if_neg (by simp [c])]
    · rw [if_neg c, if_pos (by simp [c])]
set_option maxHeartbeats 1000000 in
theorem m_round (R : zmr h b k r n on K) (D : y_laid k r n on) (hr : r = 54 ∨ r = 55 ∨ r = 56) (hK : K < 2 ^ 19) : zmr (o_Mesh_advance h b).2 b (o_Model_roundOf k r).2 r n on (K + 1) ∧ y_laid (o_Model_roundOf k r).2 r n on ∧ o_Int_bitCount (o_Mesh_advance h b).1 = (o_Model_roundOf k r).1 ∧ (((o_Mesh_advance h b).1 &&& o_Mesh_placedSet (o_Mesh_advance h b).2 b) = 0 ↔ (o_Model_roundOf k r).2 51 10 = 0) := by
  have h8 := m_8 R
  have hn := R.1.1
  have hk := R.1.2.1
  obtain ⟨a1, a2⟩ := q_A1_at (h := h) (b := b) hn h8
  have a0 : (q_A1 h b).2 b 0 = nI n := by rw [a2, if_neg (by omega)]; exact hn
  have a11 : ∀ c j, c ≠ b + 11 → (q_A1 h b).2 c j = h c j := fun c j hc => by rw [a2, if_neg (by omega)]
  obtain ⟨c1, c2⟩ := q_A2_at (h := (q_A1 h b).2) (b := b) (mv := (q_A1 h b).1) a0 h8
  obtain ⟨r1, r2, r3, r4, r5⟩ := q_round_at (k := k) hr hk h8
  have rf : ∀ c j, c ≠ r → ¬ (c = 51 ∧ j = 10) → c ≠ 67 → c ≠ 68 → (o_Model_roundOf k r).2 c j = k c j := fun c j q0 q1 q2 q3 => fr_Model_roundOf _ _ q0 q1 q2 q3
  have hmvb : ∀ v, v < n → bt (q_A1 h b).1 v = q_first k r n v := fun v hv => by
    rw [a1, q_mk_bt (by omega) (by omega), decide_eq_true hv, Bool.true_and, m_cf R D hv]
  have hnext : ∀ v, v < n → q_first k r n v = true → (q_A1 h b).2 (b + 11) v = o_Model_leastOf (o_Model_free k r v) := fun v hv hf => by
    rw [a2, if_pos ⟨rfl, hv, by rw [m_cf R D hv]; exact hf⟩, m_free R D hv]
    have hp := (R.1.2.2.2 v hv).2.1
    exact q_lo (n := 8) (by omega) (fun j h1 h2 => by rw [m_free_bt hp h2, decide_eq_false (by have := (zprd_pos hp).2.1; omega), Bool.false_and])
  obtain ⟨m, hm1, hm2⟩ := R.2.1.2
  have hb1 : h b 1 = nI m := R.2.1.1.trans hm2
  -- the class' rows behind it
  have A3 : ∀ v, v < n → (o_Mesh_advance h b).2 (b + 3) v = (if q_first k r n v = true then o_Model_leastOf (o_Model_free k r v) else h (b + 3) v) := fun v hv => by
    rw [q_advance]
    dsimp only
    rw [fr_Mesh_rank _ _ (by omega) (by omega), zup_fr (by omega), fr_Mesh_markTicks _ _ (by omega) (by omega), c2, if_pos ⟨rfl, hv⟩, hmvb v hv, a11 (b + 3) v (by omega)]
    by_cases c : q_first k r n v = true
    · rw [if_pos c, if_pos c, hnext v hv c]
    · rw [if_neg c, if_neg c]
  have A4 : ∀ v, v < n → (o_Mesh_advance h b).2 (b + 4) v = (if q_first k r n v = true ∧ ¬ o_Model_leastOf (o_Model_free k r v) = h (b + 3) v then (if o_Model_leastOf (o_Model_free k r v) = -9 then -9 else h (b + 3) v) else -9) := fun v hv => by
    rw [q_advance]
    dsimp only
    rw [fr_Mesh_rank _ _ (by omega) (by omega), zup_fr (by omega), fr_Mesh_markTicks _ _ (by omega) (by omega), c2, if_neg (by omega), if_pos ⟨rfl, hv⟩, hmvb v hv, a11 (b + 3) v (by omega)]
    by_cases c : q_first k r n v = true
    · rw [hnext v hv c]
    · rw [if_neg (fun q => c q.1), if_neg (fun q => c q.1)]
  have AF : ∀ c j, ¬ (c = b ∧ j = 1) → c ≠ b + 3 → c ≠ b + 4 → c ≠ b + 7 → c ≠ b + 8 → c ≠ b + 9 → c ≠ b + 10 → c ≠ b + 11 → (o_Mesh_advance h b).2 c j = h c j := fun c j q0 q1 q2 q3 q4 q5 q6 q7 => fr_Mesh_advance _ _ q0 q1 q2 q3 q4 q5 q6 q7
  have A1 : (o_Mesh_advance h b).2 b 1 = nI (m + 1) := by
    rw [q_advance]
    dsimp only
    rw [fr_Mesh_rank _ _ (by omega) (by omega), zup_at, a11 b 1 (by omega), hb1, nI_1]
  have mv_on : ∀ v, v < n → bt on v = false → q_first k r n v = false := fun v hv c => by
    cases hf : q_first k r n v
    · rfl
    · have := (m_first_on R D hv hf).1
      rw [c] at this
      cases this
  have e53 : ∀ v, (o_Model_roundOf k r).2 53 v = k 53 v := fun v => rf 53 v (by omega) (by omega) (by omega) (by omega)
  have NB : y_base (o_Mesh_advance h b).2 b (o_Model_roundOf k r).2 n := by
    refine ⟨(AF b 0 (by omega) (by omega) (by omega) (by omega) (by omega) (by omega) (by omega) (by omega)).trans hn, (rf 51 1 (by omega) (by omega) (by omega) (by omega)).trans hk, h8, fun v hv => ?_⟩
    rw [e53, AF (b + 1) v (by omega) (by omega) (by omega) (by omega) (by omega) (by omega) (by omega) (by omega), AF (b + 5) v (by omega) (by omega) (by omega) (by omega) (by omega) (by omega) (by omega) (by omega)]
    exact R.1.2.2.2 v hv
  have NR : y_row (o_Mesh_advance h b).2 b (o_Model_roundOf k r).2 r n on := by
    intro v hv
    obtain ⟨w1, w2⟩ := R.2.2.1 v hv
    rw [A3 v hv, A4 v hv, AF (b + 2) v (by omega) (by omega) (by omega) (by omega) (by omega) (by omega) (by omega) (by omega), (r2 v hv).1, (r2 v hv).2, r4 (16 + v) (by omega) (by omega)]
    refine ⟨fun c => ?_, fun c => ?_⟩
    · obtain ⟨x1, x2, x3⟩ := w1 c
      refine ⟨x1, ?_, ?_⟩
      · rw [x2]
        rfl
      · rw [x2]
        unfold q_mo
        by_cases hf : q_first k r n v = true
        · rw [if_pos hf]
          by_cases h9 : k r v = -9
          · rw [h9]
            by_cases q : o_Model_leastOf (o_Model_free k r v) = -9
            · rw [if_pos q, if_neg (fun z => z.2 q)]
            · rw [if_neg q, if_pos ⟨hf, q⟩]
          · rw [if_pos ⟨hf, m_moved R hv (m_first_on R D hv hf).2 h9⟩]
        · rw [if_neg hf, if_neg (fun z => hf z.1)]
    · obtain ⟨x1, x2, x3, x4, x5⟩ := w2 c
      have hf := mv_on v hv c
      unfold q_mv q_mo
      rw [hf, if_neg (by decide), if_neg (fun z => absurd z.1 (by decide)), if_neg (by decide), if_neg (by decide)]
      exact ⟨x1, x2, rfl, x4, rfl⟩
  have NO : y_off (o_Model_roundOf k r).2 r n := fun v hv => by
    rw [e53, (r2 v hv).1, (r2 v hv).2]
    exact m_newoff R hv
  have NL : y_lnk (o_Model_roundOf k r).2 r n := fun v hv => by
    obtain ⟨l1, l2, l3⟩ := R.2.2.2.2.1 v hv
    rw [r4 (16 + v) (by omega) (by omega)]
    refine ⟨l1, l2, fun u hu => ?_⟩
    rw [r4 (16 + u) (by omega) (by omega)]
    exact l3 u hu
  have NN : y_cN (o_Mesh_advance h b).2 b n := by
    intro v hv
    have g2 : (o_Mesh_advance h b).2 (b + 2) = h (b + 2) := funext fun j => AF (b + 2) j (by omega) (by omega) (by omega) (by omega) (by omega) (by omega) (by omega) (by omega)
    have g6 : (o_Mesh_advance h b).2 (b + 6) v = q_nr (h (b + 2)) n v := (AF (b + 6) v (by omega) (by omega) (by omega) (by omega) (by omega) (by omega) (by omega) (by omega)).trans (R.2.2.2.2.2.2.1 v hv).1
    rw [g2, g6, A1]
    refine ⟨rfl, ?_⟩
    have hz0 : zup (o_Mesh_markTicks (q_A2 (q_A1 h b).2 b (q_A1 h b).1).2 b) b 1 ((q_A1 h b).2 b 1 + 1) b 0 = nI n := by
      rw [zup_fr (by omega), fr_Mesh_markTicks _ _ (by omega) (by omega), c2, if_neg (by omega), if_neg (by omega)]
      exact a0
    have hz1 : zup (o_Mesh_markTicks (q_A2 (q_A1 h b).2 b (q_A1 h b).1).2 b) b 1 ((q_A1 h b).2 b 1 + 1) b 1 = nI (m + 1) := by
      rw [zup_at, a11 b 1 (by omega), hb1, nI_1]
    have hz6 : zup (o_Mesh_markTicks (q_A2 (q_A1 h b).2 b (q_A1 h b).1).2 b) b 1 ((q_A1 h b).2 b 1 + 1) (b + 6) v = q_nr (h (b + 2)) n v := by
      rw [zup_fr (by omega), fr_Mesh_markTicks _ _ (by omega) (by omega), c2, if_neg (by omega), if_neg (by omega), a11 (b + 6) v (by omega)]
      exact (R.2.2.2.2.2.2.1 v hv).1
    have := q_rank hz0 h8 hz1 (by omega) v hv
    rw [hz1, hz6] at this
    rw [q_advance]
    exact this
  have NT : y_cT (o_Mesh_advance h b).2 b n := by
    have key : y_cT (o_Mesh_markTicks (q_A2 (q_A1 h b).2 b (q_A1 h b).1).2 b) b n := by
      refine q_mark (by rw [c2, if_neg (by omega), if_neg (by omega)]; exact a0) h8 (fun v hv => ?_)
      obtain ⟨p1, p2, p3⟩ := R.1.2.2.2 v hv
      have B3 : (q_A2 (q_A1 h b).2 b (q_A1 h b).1).2 (b + 3) v = (o_Mesh_advance h b).2 (b + 3) v := by
        rw [q_advance]
        dsimp only
        rw [fr_Mesh_rank _ _ (by omega) (by omega), zup_fr (by omega), fr_Mesh_markTicks _ _ (by omega) (by omega)]
      have B4 : (q_A2 (q_A1 h b).2 b (q_A1 h b).1).2 (b + 4) v = (o_Mesh_advance h b).2 (b + 4) v := by
        rw [q_advance]
        dsimp only
        rw [fr_Mesh_rank _ _ (by omega) (by omega), zup_fr (by omega), fr_Mesh_markTicks _ _ (by omega) (by omega)]
      have B1 : (q_A2 (q_A1 h b).2 b (q_A1 h b).1).2 (b + 1) v = k 53 v := by
        rw [c2, if_neg (by omega), if_neg (by omega), a11 (b + 1) v (by omega)]
        exact p1
      have B5 : (q_A2 (q_A1 h b).2 b (q_A1 h b).1).2 (b + 5) v = zpat (k 53 v) := by
        rw [c2, if_neg (by omega), if_neg (by omega), a11 (b + 5) v (by omega)]
        exact p3
      rw [B1, B5, B3, B4]
      refine ⟨p2, rfl, ?_⟩
      obtain ⟨o1, o2⟩ := m_newoff R hv
      by_cases c : bt on v = true
      · rw [((NR v hv).1 c).2.1, ((NR v hv).1 c).2.2, (r2 v hv).1, (r2 v hv).2]
        exact ⟨o1, o2⟩
      · have c' : bt on v = false := by simpa using c
        rw [((NR v hv).2 c').2.1, ((NR v hv).2 c').2.2.1]
        exact ⟨Or.inr ⟨0, (zprd_pos p2).1, rfl⟩, Or.inl rfl⟩
    rw [q_advance]
    have step : ∀ c j, c ≠ b → c ≠ b + 7 → c ≠ b + 8 → (o_Mesh_rank (zup (o_Mesh_markTicks (q_A2 (q_A1 h b).2 b (q_A1 h b).1).2 b) b 1 ((q_A1 h b).2 b 1 + 1)) b) c j = (o_Mesh_markTicks (q_A2 (q_A1 h b).2 b (q_A1 h b).1).2 b) c j := fun c j q1 q2 q3 => (fr_Mesh_rank _ _ q2 q3).trans (zup_fr (by omega))
    exact y_cT_fr (fun v => step _ _ (by omega) (by omega) (by omega)) (fun v => step _ _ (by omega) (by omega) (by omega)) (fun v => step _ _ (by omega) (by omega) (by omega)) (fun v => step _ _ (by omega) (by omega) (by omega)) (fun v => step _ _ (by omega) (by omega) (by omega)) key
  have chg : (o_Mesh_advance h b).1 = q_mk (fun v => !(decide (k r v = q_mv k r n v))) n := by
    rw [q_advance]
    dsimp only
    rw [c1]
    refine q_mk_congr (fun v hv => ?_)
    rw [hmvb v hv, a11 (b + 3) v (by omega)]
    by_cases hf : q_first k r n v = true
    · rw [hf, hnext v hv hf, Bool.true_and, ((R.2.2.1 v hv).1 (m_first_on R D hv hf).1).2.1]
      unfold q_mv
      rw [if_pos hf]
      congr 1
      exact decide_eq_decide.mpr ⟨fun q => q.symm, fun q => q.symm⟩
    · unfold q_mv
      rw [if_neg hf, show q_first k r n v = false by simpa using hf, decide_eq_true (rfl : k r v = k r v)]
      rfl
  refine ⟨⟨NB, ⟨?_, m + 1, by omega, ?_⟩, NR, NO, NL, R.2.2.2.2.2.1, NN, NT⟩, ⟨?_, fun v hv => ?_⟩, ?_, ?_⟩
  · rw [A1, r3, hm2, nI_1]
  · rw [r3, hm2, nI_1]
  · rw [rf 51 9 (by omega) (by omega) (by omega) (by omega)]
    exact D.1
  · rw [rf 66 v (by omega) (by omega) (by omega) (by omega), D.2 v hv]
    refine q_nr_congr hv (fun e he => ?_)
    unfold q_nb
    dsimp only
    rw [r4 (16 + e) (by omega) (by omega)]
  · rw [chg, r1, q_bc_mk h8]
  · rw [r5, zb_0, chg]
    have key : (q_mk (fun v => !(decide (k r v = q_mv k r n v))) n &&& o_Mesh_placedSet (o_Mesh_advance h b).2 b) = 0 ↔ ¬ q_go k r n n = true := by
      rw [q_go_iff]
      refine ⟨fun q z => ?_, fun q => q_eq0.mpr (fun j hj => ?_)⟩
      · obtain ⟨v, hv, hf, hl⟩ := z
        have ho := m_first_on R D hv hf
        have := q_eq0.mp q v (by omega)
        have hmv : q_mv k r n v = o_Model_leastOf (o_Model_free k r v) := by unfold q_mv; rw [if_pos hf]
        rw [b_and, q_mk_bt (by omega) (by omega), q_placed_bt NB.1 h8 (by omega), decide_eq_true hv, A3 v hv, if_pos hf, decide_eq_false hl, hmv] at this
        have hne : ¬ k r v = o_Model_leastOf (o_Model_free k r v) := by
          by_cases h9 : k r v = -9
          · rw [h9]; exact fun e => hl e.symm
          · exact fun e => m_moved R hv ho.2 h9 e.symm
        rw [decide_eq_false hne] at this
        cases this
      · rw [b_and, q_mk_bt hj (by omega), q_placed_bt NB.1 h8 hj]
        cases hjn : decide (j < n)
        · rfl
        · have hjn : j < n := by simpa using hjn
          by_cases hf : q_first k r n j = true
          · by_cases hl : o_Model_leastOf (o_Model_free k r j) = -9
            · rw [A3 j hjn, if_pos hf, decide_eq_true hl]
              simp
            · exact absurd ⟨j, hjn, hf, hl⟩ q
          · have hmv : q_mv k r n j = k r j := by unfold q_mv; rw [if_neg hf]
            rw [hmv, decide_eq_true (rfl : k r j = k r j)]
            simp
    rw [key]
    simp
/-- a run -/
theorem m_run (R : zmr h b k r n on K) (D : y_laid k r n on) (hr : r = 54 ∨ r = 55 ∨ r = 56) (hK : K < 2 ^ 18) : zmr (o_Mesh_settle h b).2 b (o_Model_runOf k r).2 r n on (K + 40) ∧ y_laid (o_Model_runOf k r).2 r n on ∧ (o_Mesh_settle h b).1 = (o_Model_runOf k r).1 ∧ (o_Mesh_settle h b).2 b 2 = (o_Model_runOf k r).2 51 11 := by
  have fr1 : ∀ (h2 : zHp) (x : Int32) (k2 : zHp) (y : Int32) (K2 : Nat), zmr h2 b k2 r n on K2 → zmr (zup h2 b 2 x) b (zup k2 51 11 y) r n on K2 := by
    intro h2 x k2 y K2 R2
    have eh : ∀ c j, ¬ (c = b ∧ j = 2) → zup h2 b 2 x c j = h2 c j := fun c j q => zup_fr (by omega)
    have ek : ∀ c j, c ≠ 51 ∨ j ≠ 11 → zup k2 51 11 y c j = k2 c j := fun c j q => zup_fr (by omega)
    obtain ⟨⟨b1, b2, b3, b4⟩, ⟨d1, d2⟩, R3, R4, R5, R6, R7, R8⟩ := R2
    refine ⟨⟨(eh _ _ (by omega)).trans b1, (ek _ _ (by omega)).trans b2, b3, fun v hv => ?_⟩, ⟨?_, ?_⟩, fun v hv => ?_, fun v hv => ?_, fun v hv => ?_, R6, ?_, ?_⟩
    · rw [eh _ _ (by omega), eh _ _ (by omega), ek _ _ (by omega)]
      exact b4 v hv
    · rw [eh _ _ (by omega), ek _ _ (by omega)]
      exact d1
    · rw [ek _ _ (by omega)]
      exact d2
    · rw [eh _ _ (by omega), eh _ _ (by omega), eh _ _ (by omega), ek _ _ (by omega), ek _ _ (by omega), ek _ _ (by omega)]
      exact R3 v hv
    · rw [ek _ _ (by omega), ek _ _ (by omega), ek _ _ (by omega)]
      exact R4 v hv
    · obtain ⟨l1, l2, l3⟩ := R5 v hv
      rw [ek _ _ (by omega)]
      exact ⟨l1, l2, fun u hu => by rw [ek _ _ (by omega)]; exact l3 u hu⟩
    · exact y_cN_fr (eh _ _ (by omega)) (funext fun j => eh _ _ (by omega)) (fun v => eh _ _ (by omega)) (fun v => eh _ _ (by omega)) (fun v => eh _ _ (by omega)) R7
    · exact y_cT_fr (fun v => eh _ _ (by omega)) (fun v => eh _ _ (by omega)) (fun v => eh _ _ (by omega)) (fun v => eh _ _ (by omega)) (fun v => eh _ _ (by omega)) R8
  have fr2 : ∀ (k2 : zHp) (y : Int32), y_laid k2 r n on → y_laid (zup k2 51 11 y) r n on := by
    intro k2 y D2
    have ek : ∀ c j, c ≠ 51 ∨ j ≠ 11 → zup k2 51 11 y c j = k2 c j := fun c j q => zup_fr (by omega)
    refine ⟨(ek _ _ (by omega)).trans D2.1, fun v hv => ?_⟩
    rw [ek _ _ (by omega), D2.2 v hv]
    exact q_nr_congr hv (fun e he => by unfold q_nb; dsimp only; rw [ek _ _ (by omega)])
  unfold o_Mesh_settle o_Model_runOf
  have key := q_xrel (f := (fun (i7_2 : Nat) (s7_2 : zHp) => ((if (o_Mesh_isQuiet s7_2 b) = true then .inr ((nI i7_2), s7_2) else .inl (if (((o_Mesh_advance s7_2 b).1) &&& (o_Mesh_placedSet ((o_Mesh_advance s7_2 b).2) b)) = 0 then ((o_Mesh_advance s7_2 b).2) else (zup ((o_Mesh_advance s7_2 b).2) b 2 ((s7_2 b 2) + 1)))) : (zHp) ⊕ (Int32 × zHp)))) (g := (fun (i7_2 : Nat) (s7_2 : zHp) => ((if (o_Model_isQuiet s7_2 r) = true then .inr ((nI i7_2), s7_2) else .inl (zup ((o_Model_roundOf s7_2 r).2) 51 11 ((s7_2 51 11) + (zb (!(decide ((((o_Model_roundOf s7_2 r).2) 51 10) = 0))))))) : (zHp) ⊕ (Int32 × zHp)))) (a := zup h b 2 0) (b := zup k 51 11 0)
    (fun i (s t : zHp) => zmr s b t r n on (K + i) ∧ y_laid t r n on ∧ s b 2 = t 51 11)
    (fun (u w : Int32 × zHp) => zmr u.2 b w.2 r n on (K + 40) ∧ y_laid w.2 r n on ∧ u.1 = w.1 ∧ u.2 b 2 = w.2 51 11) 40
    ⟨fr1 h 0 k 0 K R, fr2 k 0 D, by rw [zup_at, zup_at]⟩
    (fun i s t hi hI => by
      obtain ⟨I1, I2, I3⟩ := hI
      have mono : ∀ K2, K2 ≤ K + 40 → zmr s b t r n on K2 → zmr s b t r n on (K + 40) := fun K2 q Z => ⟨Z.1, ⟨Z.2.1.1, by obtain ⟨m, h1, h2⟩ := Z.2.1.2; exact ⟨m, by omega, h2⟩⟩, Z.2.2⟩
      rw [m_quiet I1 I2]
      by_cases c : o_Model_isQuiet t r = true
      · rw [if_pos c, if_pos c]
        exact Or.inr ⟨_, _, rfl, rfl, mono _ (by omega) I1, I2, rfl, I3⟩
      · rw [if_neg c, if_neg c]
        obtain ⟨M1, M2, M3, M4⟩ := m_round I1 I2 hr (by omega)
        have hb2 : (o_Mesh_advance s b).2 b 2 = s b 2 := fr_Mesh_advance _ _ (by omega) (by omega) (by omega) (by omega) (by omega) (by omega) (by omega) (by omega)
        refine Or.inl ⟨_, _, rfl, rfl, ?_, fr2 _ _ M2, ?_⟩
        · by_cases c2 : ((o_Mesh_advance s b).1 &&& o_Mesh_placedSet (o_Mesh_advance s b).2 b) = 0
          · rw [if_pos c2]
            have := fr1 (o_Mesh_advance s b).2 ((o_Mesh_advance s b).2 b 2) (o_Model_roundOf t r).2 (t 51 11 + zb (!(decide ((o_Model_roundOf t r).2 51 10 = 0)))) _ M1
            rw [q_zup_self] at this
            exact this
          · rw [if_neg c2]
            exact fr1 _ _ _ _ _ M1
        · rw [zup_at]
          by_cases c2 : ((o_Mesh_advance s b).1 &&& o_Mesh_placedSet (o_Mesh_advance s b).2 b) = 0
          · rw [if_pos c2, hb2, I3, decide_eq_true (M4.mp c2)]
            exact (Int32.add_zero _).symm
          · rw [if_neg c2, zup_at, I3, decide_eq_false (fun q => c2 (M4.mpr q))]
            rfl)
  rcases key with ⟨s2, t2, e1, e2, I1, I2, I3⟩ | ⟨u, w, e1, e2, E1, E2, E3, E4⟩
  · rw [e1, e2]
    refine ⟨I1, I2, ?_, I3⟩
    dsimp only [Sum.elim_inl]
    rw [m_quiet I1 I2]
  · rw [e1, e2]
    exact ⟨E1, E2, E3, E4⟩
end ZQ
