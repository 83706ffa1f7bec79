/-! The calls: undo, slots, observations, the random state, the text's length, about, station, ahead. -/
section ZO
variable {K : Nat} {C M : zHp} {x y : Int64}
theorem op_undo (H : zREL K C M x y) (hK : K < 2 ^ 17) : (o_Slots_undo C).1 = (o_Model_undo M).1 ∧ zREL (K + 40) (o_Slots_undo C).2 (o_Model_undo M).2 x y := by
  obtain ⟨n, R, h2, h3, h4, h5, h6, h7⟩ := id H
  have h8 := m_8 R
  obtain ⟨w, s, hw, hs, c1, m1, c2, m2, c3, rows⟩ := h5
  unfold o_Slots_undo o_Model_undo
  rw [c2, m2]
  by_cases hz : s = 0
  · subst hz
    rw [if_pos (show nI 0 = 0 from rfl), if_pos (show nI 0 = 0 from rfl)]
    exact ⟨rfl, zREL_same H⟩
  · have hs0 : ¬ nI s = 0 := nI_ne0 (by omega) (by omega)
    rw [if_neg hs0, if_neg hs0]
    obtain ⟨r1, r2⟩ := rows 0 (by omega)
    rw [show (w + 14 - 0) % 14 = w by omega] at r1 r2
    rw [show (w + 13 - 0) % 14 = (w + 13) % 14 by omega] at r2
    have hold : o_Shelf42_holds C (nI w) = true := by
      unfold o_Shelf42_holds
      rw [c3, decide_eq_false (nI_pos (n := w) (by omega)), decide_eq_false (nI_ge (a := w) (b := 14) hw (by omega)), q_has (by omega), r1]
      rfl
    have ew : zrem (nI w + 14 - 1) 14 = nI ((w + 13) % 14) := by
      have e : nI w + 14 - 1 = nI (w + 13) := by
        rw [show (14 : Int32) = nI 14 from rfl, show (1 : Int32) = nI 1 from rfl, nI_add, pk_sub (by omega)]
        rfl
      exact zn_rem (y := 14) (b := 14) e rfl (by omega) (by decide) (by decide)
    have es : nI s - 1 = nI (s - 1) := by
      rw [show (1 : Int32) = nI 1 from rfl, pk_sub (by omega)]
    -- the class' side
    have hC : o_Acts_takeBack C 3 = zup (zup (o_Mesh_markTicks (o_Mesh_relate (zup (zcp (zcp (zcp C 43 (3 + 2) ((zcn (nI w)) * 25) 0 8) 43 (3 + 3) (((zcn (nI w)) * 25) + 8) 0 8) 43 (3 + 4) (((zcn (nI w)) * 25) + 16) 0 8) 3 1 (C 43 (((zcn (nI w)) * 25) + 24))) 3) 3) 41 0 (nI ((w + 13) % 14))) 41 1 (nI (s - 1)) := by
      unfold o_Acts_takeBack o_Shelf42_giveBack
      rw [c1, c2, if_pos hold, ew, es]
      congr 1
      by_cases q : s - 1 = 0
      · rw [q]
        rfl
      · rw [if_pos (show 0 < nI (s - 1) from nI_lt (a := 0) (b := s - 1) (by omega) (by omega))]
    rw [hC, zcn_nI (by omega)]
    have one : ∀ (t : zHp) (d p : Nat) (c2 j : Nat), d ≠ 43 → zcp t 43 d p 0 8 c2 j = if c2 = d ∧ j < 8 then t 43 (p + j) else t c2 j := by
      intro t d p c2 j hd
      by_cases h1 : c2 = d
      · subst h1
        rw [zcp_eq]
        by_cases h2 : j < 8
        · rw [if_pos ⟨rfl, h2⟩, pk_cpy_in (by omega) (by omega), Nat.sub_zero]
        · rw [if_neg (by omega), pk_cpy_out (by omega)]
      · rw [zcp_fr h1, if_neg (by omega)]
    have hC1 : ∀ c j, (zup (zcp (zcp (zcp C 43 (3 + 2) (w * 25) 0 8) 43 (3 + 3) ((w * 25) + 8) 0 8) 43 (3 + 4) ((w * 25) + 16) 0 8) 3 1 (C 43 ((w * 25) + 24))) c j = if c = 3 ∧ j = 1 then C 43 (w * 25 + 24) else if c = 7 ∧ j < 8 then C 43 (w * 25 + 16 + j) else if c = 6 ∧ j < 8 then C 43 (w * 25 + 8 + j) else if c = 5 ∧ j < 8 then C 43 (w * 25 + j) else C c j := by
      intro c j
      by_cases q1 : c = 3 ∧ j = 1
      · obtain ⟨rfl, rfl⟩ := q1
        rw [zup_at, if_pos ⟨rfl, rfl⟩]
      · rw [zup_fr (by omega), if_neg q1, one _ _ _ _ _ (by decide)]
        by_cases q2 : c = 7 ∧ j < 8
        · rw [if_pos (c := c = 3 + 4 ∧ j < 8) q2, if_pos q2, one _ _ _ _ _ (by decide), if_neg (by omega), one _ _ _ _ _ (by decide), if_neg (by omega)]
        · rw [if_neg (c := c = 3 + 4 ∧ j < 8) q2, if_neg q2, one _ _ _ _ _ (by decide)]
          by_cases q3 : c = 6 ∧ j < 8
          · rw [if_pos (c := c = 3 + 3 ∧ j < 8) q3, if_pos q3, one _ _ _ _ _ (by decide), if_neg (by omega)]
          · rw [if_neg (c := c = 3 + 3 ∧ j < 8) q3, if_neg q3, one _ _ _ _ _ (by decide)]
    generalize (zup (zcp (zcp (zcp C 43 (3 + 2) (w * 25) 0 8) 43 (3 + 3) ((w * 25) + 8) 0 8) 43 (3 + 4) ((w * 25) + 16) 0 8) 3 1 (C 43 ((w * 25) + 24))) = C1 at hC1 ⊢
    -- the reference's side
    rw [m1, zcn_nI (by omega), ew, es, show (w + 14 - 1) % 14 = (w + 13) % 14 by omega]
    have hw2 : (w + 13) % 14 < 14 := Nat.mod_lt _ (by decide)
    generalize hW : (w + 13) % 14 = w2 at r2 hw2 ⊢
    have hM1 : ∀ c j, (zrep (fun (i38_3 : Nat) (s38_3 : zHp) => (zup s38_3 54 i38_3 (M 57 ((25 * w2) + i38_3)))) (zup (zup M 51 2 (nI (s - 1))) 51 3 (nI w2)) 25) c j = if c = 54 ∧ j < 25 then M 57 (25 * w2 + j) else if c = 51 ∧ j = 3 then nI w2 else if c = 51 ∧ j = 2 then nI (s - 1) else M c j := by
      intro c j
      rw [q_row (h := zup (zup M 51 2 (nI (s - 1))) 51 3 (nI w2)) (c := 54) (F := fun i _ => M 57 ((25 * w2) + i)) (G := fun i => M 57 ((25 * w2) + i)) 25 (fun _ _ _ _ => rfl)]
      by_cases q1 : c = 54 ∧ j < 25
      · rw [if_pos q1, if_pos q1]
      · rw [if_neg q1, if_neg q1]
        by_cases q2 : c = 51 ∧ j = 3
        · obtain ⟨rfl, rfl⟩ := q2
          rw [zup_at, if_pos ⟨rfl, rfl⟩]
        · rw [zup_fr (by omega), if_neg q2]
          by_cases q3 : c = 51 ∧ j = 2
          · obtain ⟨rfl, rfl⟩ := q3
            rw [zup_at, if_pos ⟨rfl, rfl⟩]
          · rw [zup_fr (by omega), if_neg q3]
    generalize (zrep (fun (i38_3 : Nat) (s38_3 : zHp) => (zup s38_3 54 i38_3 (M 57 ((25 * w2) + i38_3)))) (zup (zup M 51 2 (nI (s - 1))) 51 3 (nI w2)) 25) = M1 at hM1 ⊢
    have R2 := q_back (C1 := C1) (M1 := M1) R (by omega) r2 (fun v hv => ⟨by rw [hC1, if_neg (by omega), if_neg (by omega), if_neg (by omega), if_pos ⟨rfl, hv⟩, Nat.mul_comm], by rw [hC1, if_neg (by omega), if_neg (by omega), if_pos ⟨rfl, hv⟩, Nat.mul_comm], by rw [hC1, if_neg (by omega), if_pos ⟨rfl, hv⟩, Nat.mul_comm]⟩) (by rw [hC1, if_pos ⟨rfl, rfl⟩, Nat.mul_comm]) (by rw [hC1, if_neg (by omega), if_neg (by omega), if_neg (by omega), if_neg (by omega)]) (fun v => ⟨by rw [hC1, if_neg (by omega), if_neg (by omega), if_neg (by omega), if_neg (by omega)], by rw [hC1, if_neg (by omega), if_neg (by omega), if_neg (by omega), if_neg (by omega)]⟩) (fun j hj => by rw [hM1, if_pos ⟨rfl, hj⟩]) (fun v hv => by rw [hM1, if_neg (by omega), if_neg (by omega), if_neg (by omega)]) (by rw [hM1, if_neg (by omega), if_neg (by omega), if_neg (by omega)])
    dsimp only
    refine ⟨by rw [zup_at], n, ?_, ?_, ?_, ?_, ⟨w2, s - 1, hw2, by omega, ?_, ?_, ?_, ?_, ?_, fun i hi => ?_⟩, ?_, h7⟩
    · exact zmr_mono (by omega) (zmr_frC (fun j hj => by rw [zup_fr (by omega), zup_fr (by omega)]) (fun i v h1 h2 => by rw [zup_fr (by omega), zup_fr (by omega)]) R2)
    · refine zTXT_fr ?_ (fun j => ?_) ?_ (fun j => ?_) h2
      · rw [zup_fr (by omega), zup_fr (by omega), fr_Mesh_markTicks _ _ (by omega) (by omega), fr_Mesh_relate _ _ (by omega) (by omega) (by omega), hC1, if_neg (by omega), if_neg (by omega), if_neg (by omega), if_neg (by omega)]
      · rw [zup_fr (by omega), zup_fr (by omega), fr_Mesh_markTicks _ _ (by omega) (by omega), fr_Mesh_relate _ _ (by omega) (by omega) (by omega), hC1, if_neg (by omega), if_neg (by omega), if_neg (by omega), if_neg (by omega)]
      · rw [hM1, if_neg (by omega), if_neg (by omega), if_neg (by omega)]
      · rw [hM1, if_neg (by omega), if_neg (by omega), if_neg (by omega)]
    · exact zfit_fr (by rw [hM1, if_neg (by omega), if_neg (by omega), if_neg (by omega)]) h3
    · have cc : ∀ c j, 41 < c → (zup (zup (o_Mesh_markTicks (o_Mesh_relate C1 3) 3) 41 0 (nI w2)) 41 1 (nI (s - 1))) c j = C c j := fun c j q => by
        rw [zup_fr (by omega), zup_fr (by omega), fr_Mesh_markTicks _ _ (by omega) (by omega), fr_Mesh_relate _ _ (by omega) (by omega) (by omega), hC1, if_neg (by omega), if_neg (by omega), if_neg (by omega), if_neg (by omega)]
      have mm : ∀ c j, c ≠ 54 → ¬ (c = 51 ∧ (j = 2 ∨ j = 3)) → M1 c j = M c j := fun c j q1 q2 => by rw [hM1, if_neg (by omega), if_neg (by omega), if_neg (by omega)]
      exact zOBS_fr (cc _ _ (by omega)) (fun j => ⟨cc _ _ (by omega), cc _ _ (by omega), cc _ _ (by omega)⟩) (mm _ _ (by omega) (by omega)) (fun j => ⟨mm _ _ (by omega) (by omega), mm _ _ (by omega) (by omega), mm _ _ (by omega) (by omega)⟩) h4
    · rw [zup_fr (by omega), zup_at]
    · rw [hM1, if_neg (by omega), if_pos ⟨rfl, rfl⟩]
    · rw [zup_at]
    · rw [hM1, if_neg (by omega), if_neg (by omega), if_pos ⟨rfl, rfl⟩]
    · rw [zup_fr (by omega), zup_fr (by omega), fr_Mesh_markTicks _ _ (by omega) (by omega), fr_Mesh_relate _ _ (by omega) (by omega) (by omega), hC1, if_neg (by omega), if_neg (by omega), if_neg (by omega), if_neg (by omega)]
      exact c3
    · have cc : ∀ c j, 41 < c → (zup (zup (o_Mesh_markTicks (o_Mesh_relate C1 3) 3) 41 0 (nI w2)) 41 1 (nI (s - 1))) c j = C c j := fun c j q => by
        rw [zup_fr (by omega), zup_fr (by omega), fr_Mesh_markTicks _ _ (by omega) (by omega), fr_Mesh_relate _ _ (by omega) (by omega) (by omega), hC1, if_neg (by omega), if_neg (by omega), if_neg (by omega), if_neg (by omega)]
      have mm : ∀ c j, c ≠ 54 → ¬ (c = 51 ∧ (j = 2 ∨ j = 3)) → M1 c j = M c j := fun c j q1 q2 => by rw [hM1, if_neg (by omega), if_neg (by omega), if_neg (by omega)]
      have old := rows (i + 1) (by omega)
      rw [show (w2 + 14 - i) % 14 = (w + 14 - (i + 1)) % 14 by omega, show (w2 + 13 - i) % 14 = (w + 13 - (i + 1)) % 14 by omega, cc _ _ (by omega)]
      exact ⟨old.1, zsr_mono (by omega) (zsr_fr (fun j _ _ => cc _ _ (by omega)) (fun j _ _ => mm _ _ (by omega) (by omega)) (fun v _ => mm _ _ (by omega) (by omega)) h8 old.2)⟩
    · have cc : ∀ c j, 41 < c → (zup (zup (o_Mesh_markTicks (o_Mesh_relate C1 3) 3) 41 0 (nI w2)) 41 1 (nI (s - 1))) c j = C c j := fun c j q => by
        rw [zup_fr (by omega), zup_fr (by omega), fr_Mesh_markTicks _ _ (by omega) (by omega), fr_Mesh_relate _ _ (by omega) (by omega) (by omega), hC1, if_neg (by omega), if_neg (by omega), if_neg (by omega), if_neg (by omega)]
      have mm : ∀ c j, c ≠ 54 → ¬ (c = 51 ∧ (j = 2 ∨ j = 3)) → M1 c j = M c j := fun c j q1 q2 => by rw [hM1, if_neg (by omega), if_neg (by omega), if_neg (by omega)]
      exact zSLO_mono (by omega) (zSLO_fr h8 (cc _ _ (by omega)) (cc _ _ (by omega)) (fun j => cc _ _ (by omega)) (fun j => mm _ _ (by omega) (by omega)) (fun j => mm _ _ (by omega) (by omega)) (fun v _ => mm _ _ (by omega) (by omega)) h6)
end ZO
