/-! judge. -/
theorem q_pairG {h k : zHp} {b r n K : Nat} {on : Int32} (R : zmr h b k r n on K) {i j : Int32} : (∃ u v, u < n ∧ v < n ∧ i = nI u ∧ j = nI v ∧ zcn i = u ∧ zcn j = v ∧ u ≠ v ∧ ¬ i = j ∧ o_Model_isStation k i = true ∧ o_Model_isStation k j = true ∧ o_Mesh_pairError h b i j = 0) ∨ (¬ (o_Model_isStation k i = true ∧ o_Model_isStation k j = true ∧ ¬ i = j) ∧ ¬ o_Mesh_pairError h b i j = 0) := by
  unfold o_Mesh_pairError
  rw [m_exE R, m_exE R]
  by_cases c1 : o_Model_isStation k i = true
  · by_cases c2 : o_Model_isStation k j = true
    · by_cases c3 : i = j
      · refine Or.inr ⟨fun q => q.2.2 c3, ?_⟩
        rw [if_pos c1, if_pos c2, if_pos c3]
        decide
      · obtain ⟨u, hu, eu, zu⟩ := m_exT R c1
        obtain ⟨v, hv, ev, zv⟩ := m_exT R c2
        refine Or.inl ⟨u, v, hu, hv, eu, ev, zu, zv, fun q => c3 (by rw [eu, ev, q]), c3, c1, c2, ?_⟩
        rw [if_pos c1, if_pos c2, if_neg c3]
    · refine Or.inr ⟨fun q => c2 q.2.1, ?_⟩
      rw [if_pos c1, if_neg c2]
      decide
  · refine Or.inr ⟨fun q => c1 q.1, ?_⟩
    rw [if_neg c1]
    decide
theorem q_bb {a b : Bool} (h : a = true ↔ b = true) : a = b := q_tt h
section ZJ
variable {s t : zHp} {n K : Nat}
theorem m_judged (R : zmr s 15 t 55 n (q_all n) K) (hK : K < 2 ^ 17) {hh a b v : Nat} (h1 : hh < 10) (h2 : a < 10) (h3 : b < 10) (h4 : v < 10) {d : Int32} (e1 : d / 1000 = nI hh) (e2 : zrem (d / 100) 10 = nI a) (e3 : zrem (d / 10) 10 = nI b) (e4 : zrem d 10 = nI v) : (o_Slots_isTrue s d).1 = (o_Model_judged t (nI hh) (nI a) (nI b) (nI v)).1 ∧ ((o_Slots_isTrue s d).1 = true → zmr (o_Slots_isTrue s d).2 15 (o_Model_judged t (nI hh) (nI a) (nI b) (nI v)).2 55 n (q_all n) (K + 1)) := by
  have h8 := m_8 R
  have z0 : ∀ q, q < 10 → (nI q = 0 ↔ q = 0) := fun q hq => nI_eq (a := q) (b := 0) (by omega) (by omega)
  unfold o_Slots_isTrue o_Model_judged
  rw [e1, e2, e3, e4]
  by_cases c1 : nI hh = 1
  · rw [if_pos c1, if_pos c1]
    unfold o_Slots_turnsDraft
    rcases q_pairG R (i := nI a) (j := nI b) with ⟨u, w, hu, hw, eu, ew, zu, zw, huw, hij, s1, s2, er⟩ | ⟨hn, er⟩
    · rw [er, if_pos s1, if_pos s2, if_neg hij]
      by_cases cv : nI v = 0
      · rw [if_pos cv, if_pos cv, decide_eq_true cv, decide_eq_true (rfl : (0 : Int32) = 0)]
        dsimp only
        rw [if_pos rfl, if_pos rfl, zu, zw]
        exact ⟨rfl, fun _ => zmr_mono (by omega) (m_flip R (Or.inr (Or.inl rfl)) (by omega) hu hw huw)⟩
      · rw [if_neg cv, if_neg cv, decide_eq_false cv]
        exact ⟨rfl, fun q => absurd q (by simp)⟩
    · rw [decide_eq_false er]
      have hm : (if o_Model_isStation t (nI a) = true then (if o_Model_isStation t (nI b) = true then (if nI a = nI b then (false, t) else (if nI v = 0 then (true, (o_Model_turnOf (o_Model_dropOld t 55) 55 (zcn (nI a)) (zcn (nI b)))) else (false, t))) else (false, t)) else (false, t)) = (false, t) := by
        by_cases d1 : o_Model_isStation t (nI a) = true
        · rw [if_pos d1]
          by_cases d2 : o_Model_isStation t (nI b) = true
          · rw [if_pos d2]
            by_cases d3 : nI a = nI b
            · rw [if_pos d3]
            · exact absurd ⟨d1, d2, d3⟩ hn
          · rw [if_neg d2]
        · rw [if_neg d1]
      rw [hm]
      refine ⟨by simp, fun q => absurd q (by simp)⟩
  · rw [if_neg c1, if_neg c1]
    by_cases c2 : nI hh = 2
    · rw [if_pos c2, if_pos c2]
      unfold o_Slots_laysDraft
      rcases q_offE R (s := nI a) (o := if nI b = 9 then (-9) else nI b) with ⟨u, hu, eu, zu, s1, zo, io, er⟩ | ⟨u, hu, eu, zu, s1, io, er⟩ | ⟨s1, er⟩
      · rw [er, if_pos s1, zu]
        by_cases cv : nI v = 0
        · rw [if_pos cv, if_pos cv, decide_eq_true cv, decide_eq_true (rfl : (0 : Int32) = 0)]
          dsimp only
          rw [if_pos rfl, if_pos rfl]
          have hp := m_place R (Or.inr (Or.inl rfl)) hu zo
          by_cases c9 : nI b = 9
          · rw [if_pos c9] at hp ⊢
            rw [if_pos c9]
            exact ⟨rfl, fun _ => zmr_mono (by omega) hp⟩
          · rw [if_neg c9] at hp zo ⊢
            rw [if_neg c9]
            have hlt : nI b < t 53 u := by
              have hP := zprd_pos (R.1.2.2.2 u hu).2.1
              rcases zo with q | ⟨j, hj, q⟩
              · exact absurd q (q_nI_ne9 (by omega))
              · rw [q, hP.2.2.1]
                exact nI_lt hj (zcn_small _)
            rw [if_pos hlt]
            exact ⟨rfl, fun _ => zmr_mono (by omega) hp⟩
        · rw [if_neg cv, if_neg cv, decide_eq_false cv]
          exact ⟨rfl, fun q => absurd q (by simp)⟩
      · rw [er, if_pos s1, zu]
        have hne : ¬ (-2 : Int32) = 0 := by decide
        rw [decide_eq_false hne]
        have h9 : ¬ nI b = 9 := fun q => by
          rw [if_pos q] at io
          exact io (by unfold o_Model_isOffset; simp)
        rw [if_neg h9] at io
        have hge : ¬ nI b < t 53 u := fun q => by
          refine io ?_
          have hP := zprd_pos (R.1.2.2.2 u hu).2.1
          unfold o_Model_isOffset
          rw [Bool.or_eq_true, q_inI]
          right
          have e4' : (t 53 u - 1).toInt64.toInt = (zcn (t 53 u) : Int) - 1 := by
            rw [Int32.toInt_toInt64, hP.2.2.1, zcn_nI (by omega)]
            exact pk_sub_toInt (a := zcn (t 53 u)) (b := 1) (by omega) (by omega)
          rw [hP.2.2.1] at q
          have q2 := (nI_ltI (by omega) (zcn_small _)).mp q
          have e9 : (0 : Int64).toInt = 0 := rfl
          rw [e4', nI_toInt (by omega), e9]
          omega
        rw [if_neg h9, if_neg hge]
        by_cases cv : nI v = 0
        · rw [if_pos cv, if_pos cv]
          exact ⟨by simp [h9], fun q => absurd q (by simp)⟩
        · rw [if_neg cv, if_neg cv]
          exact ⟨by simp [h9], fun q => absurd q (by simp)⟩
      · rw [er, if_neg s1]
        have hne : ¬ (-1 : Int32) = 0 := by decide
        rw [decide_eq_false hne]
        exact ⟨by simp, fun q => absurd q (by simp)⟩
    · rw [if_neg c2, if_neg c2]
      by_cases c3 : nI hh = 3
      · rw [if_pos c3, if_pos c3]
        unfold o_Slots_shiftsDraft
        rcases q_distE R (s := nI a) (d := nI b) with ⟨u, e, hu, eu, he, ee, s1, i1, er⟩ | ⟨s1, i1, er⟩ | ⟨s1, er⟩
        · have hb : ¬ (7 : Int32) < nI b := by
            have : b = e := (nI_eq (by omega) (by omega)).mp ee
            exact nI_nlt (a := 7) (b := b) (by omega) (by omega)
          rw [er, if_pos s1, if_neg hb]
          by_cases cv : nI v = 0
          · rw [if_pos cv, if_pos cv, decide_eq_true cv, decide_eq_true (rfl : (0 : Int32) = 0)]
            dsimp only
            rw [if_pos rfl, if_pos rfl]
            have hnet : o_Mesh_netOf s 15 (nI a) = o_Model_netOf (o_Model_dropOld t 55) 55 (nI a) := by
              rw [eu, m_net R hu, m_netM (k := o_Model_dropOld t 55) (r := 55) (n := n) (by rw [q_dropOldM, if_neg (by omega)]; exact R.1.2.1) h8]
              exact q_net_congr (fun e he => by
                show t 55 (16 + e) = o_Model_dropOld t 55 55 (16 + e)
                rw [q_dropOldM, if_neg (by omega)])
            rw [hnet]
            exact ⟨rfl, fun _ => zmr_mono (by omega) (m_move R (Or.inr (Or.inl rfl)) (e := e) ee he)⟩
          · rw [if_neg cv, if_neg cv, decide_eq_false cv]
            exact ⟨rfl, fun q => absurd q (by simp)⟩
        · have hb : (7 : Int32) < nI b := by
            have h7 : 7 < b := by
              refine Nat.not_le.mp (fun q => i1 ?_)
              have e9 : (0 : Int64).toInt = 0 := rfl
              have e7 : (7 : Int64).toInt = 7 := rfl
              rw [q_inI, nI_toInt (by omega), e9, e7]
              omega
            exact nI_lt (a := 7) (b := b) h7 (by omega)
          have hne : ¬ (-2 : Int32) = 0 := by decide
          rw [er, if_pos s1, if_pos hb, decide_eq_false hne]
          exact ⟨by simp, fun q => absurd q (by simp)⟩
        · have hne : ¬ (-1 : Int32) = 0 := by decide
          rw [er, if_neg s1, decide_eq_false hne]
          exact ⟨by simp, fun q => absurd q (by simp)⟩
      · rw [if_neg c3, if_neg c3]
        by_cases c4 : nI hh = 4
        · rw [if_pos c4, if_pos c4]
          dsimp only
          rw [m_conf (Or.inr (Or.inl rfl)) R]
          refine ⟨rfl, fun _ => ?_⟩
          have hl : zmr s 15 (o_Model_clashes t 55).2 55 n (q_all n) (K + 1) := zmr_mono (by omega) (m_layNear (Or.inr (Or.inl rfl)) R)
          by_cases ca : nI a = 0
          · rw [if_pos ca]
            by_cases cc : (o_Model_clashes t 55).1 = 10 * nI b + nI v
            · rw [if_pos cc]
              exact hl
            · rw [if_neg cc]
              exact hl
          · rw [if_neg ca]
            exact zmr_mono (by omega) R
        · rw [if_neg c4, if_neg c4]
          by_cases c5 : nI hh = 5
          · rw [if_pos c5, if_pos c5]
            have R2 := m_layNear (those := o_Model_all t) (Or.inr (Or.inl rfl)) R
            have D2 := q_layNear (k := t) (r := 55) (those := o_Model_all t) (Or.inr (Or.inl rfl)) R.1.2.1 h8
            rw [m_all R.1.2.1] at R2 D2
            obtain ⟨a1, -, -, -⟩ := m_round R2 D2 (Or.inr (Or.inl rfl)) (by omega)
            rw [m_all R.1.2.1]
            unfold o_Slots_advancesDraft
            by_cases ca : nI a = 0
            · by_cases cb : nI b = 0
              · by_cases cv : nI v = 0
                · rw [if_pos ca, if_pos cb, if_pos cv, if_pos ca, if_pos cb, if_pos cv, decide_eq_true ca, decide_eq_true cb, decide_eq_true cv]
                  dsimp only
                  rw [if_pos rfl]
                  exact ⟨rfl, fun _ => a1⟩
                · rw [if_pos ca, if_pos cb, if_neg cv, if_pos ca, if_pos cb, if_neg cv, decide_eq_false cv]
                  exact ⟨by simp, fun q => absurd q (by simp)⟩
              · rw [if_pos ca, if_neg cb, if_pos ca, if_neg cb, decide_eq_false cb]
                exact ⟨by simp, fun q => absurd q (by simp)⟩
            · rw [if_neg ca, if_neg ca, decide_eq_false ca]
              exact ⟨by simp, fun q => absurd q (by simp)⟩
          · rw [if_neg c5, if_neg c5]
            by_cases c6 : nI hh = 6
            · rw [if_pos c6, if_pos c6]
              have R2 := m_layNear (those := o_Model_all t) (Or.inr (Or.inl rfl)) R
              have D2 := q_layNear (k := t) (r := 55) (those := o_Model_all t) (Or.inr (Or.inl rfl)) R.1.2.1 h8
              rw [m_all R.1.2.1] at R2 D2
              rw [m_all R.1.2.1]
              dsimp only
              refine ⟨?_, fun _ => zmr_mono (by omega) R2⟩
              rw [m_exE R, m_uns R2 D2, q_has (by omega), q_hasM (by omega)]
              have e12 : decide (1 < nI v) = decide (2 ≤ nI v) := decide_eq_decide.mpr ⟨fun q => nI_le (a := 2) (b := v) ((nI_ltI (a := 1) (b := v) (by omega) (by omega)).mp q) (by omega), fun q => nI_lt (a := 1) (b := v) ((nI_leI (a := 2) (b := v) (by omega) (by omega)).mp q) (by omega)⟩
              rw [e12]
              generalize decide (nI b = 0) = x1
              generalize decide (2 ≤ nI v) = x2
              generalize o_Model_isStation t (nI a) = x3
              generalize decide (zb (bt (o_Model_unsettled (o_Model_layNear t 55 (q_all n)) 55) a) = zb (decide (nI v = 1))) = x4
              cases x1 <;> cases x2 <;> cases x3 <;> cases x4 <;> rfl
            · rw [if_neg c6, if_neg c6]
              by_cases c7 : nI hh = 7
              · rw [if_pos c7, if_pos c7]
                have R1 := m_copyM (r2 := 56) (Or.inr (Or.inl rfl)) (Or.inr (Or.inr rfl)) (by decide) (m_copyC (b := 27) (o := 15) (Or.inr (Or.inr rfl)) (Or.inr (Or.inl rfl)) (by decide) R)
                have R2 := m_layNear (those := o_Model_all t) (Or.inr (Or.inr rfl)) R1
                have D2 := q_layNear (k := o_Model_copy t 55 56) (r := 56) (those := o_Model_all t) (Or.inr (Or.inr rfl)) R1.1.2.1 h8
                rw [m_all R.1.2.1] at R2 D2
                obtain ⟨-, -, a3, -⟩ := m_run R2 D2 (Or.inr (Or.inr rfl)) (by omega)
                rw [m_all R.1.2.1]
                dsimp only
                rw [a3]
                refine ⟨rfl, fun _ => ?_⟩
                have fC : ∀ c j, (c < 27 ∨ 38 < c) → (o_Mesh_settle (o_Mesh_copyFrom s 27 15) 27).2 c j = s c j := fun c j q => by
                  refine Eq.trans (b := o_Mesh_copyFrom s 27 15 c j) ?_ ?_
                  · apply fr_Mesh_settle <;> omega
                  · apply fr_Mesh_copyFrom <;> omega
                have fC2 : ∀ c j, (c < 27 ∨ 38 < c) → (o_Mesh_copyFrom s 27 15) c j = s c j := fun c j q => by
                  apply fr_Mesh_copyFrom <;> omega
                have fM : ∀ c j, c = 53 ∨ c = 55 ∨ (c = 51 ∧ j = 1) → (o_Model_runOf (o_Model_layNear (o_Model_copy t 55 56) 56 (q_all n)) 56).2 c j = t c j := fun c j q => by
                  refine Eq.trans (b := o_Model_layNear (o_Model_copy t 55 56) 56 (q_all n) c j) ?_ ?_
                  · apply fr_Model_runOf <;> omega
                  · refine Eq.trans (b := o_Model_copy t 55 56 c j) ?_ ?_
                    · apply fr_Model_layNear <;> omega
                    · apply fr_Model_copy <;> omega
                have fM2 : ∀ c j, c = 53 ∨ c = 55 ∨ (c = 51 ∧ j = 1) → (o_Model_layNear (o_Model_copy t 55 56) 56 (q_all n)) c j = t c j := fun c j q => by
                  refine Eq.trans (b := o_Model_copy t 55 56 c j) ?_ ?_
                  · apply fr_Model_layNear <;> omega
                  · apply fr_Model_copy <;> omega
                have both : ∀ s2 t2 : zHp, (∀ c j, (c < 27 ∨ 38 < c) → s2 c j = s c j) → (∀ c j, c = 53 ∨ c = 55 ∨ (c = 51 ∧ j = 1) → t2 c j = t c j) → zmr s2 15 t2 55 n (q_all n) (K + 1) := fun s2 t2 hs ht => zmr_mono (by omega) (zmr_frM (ht _ _ (by omega)) (fun v _ => ht _ _ (by omega)) (fun v _ => ⟨ht _ _ (by omega), ht _ _ (by omega), ht _ _ (by omega)⟩) (ht _ _ (by omega)) (zmr_frC (fun j hj => hs _ _ (by omega)) (fun i v h1 h2 => hs _ _ (by omega)) R))
                by_cases ca : nI a = 0
                · rw [if_pos ca, if_pos ca]
                  by_cases cc : (o_Model_runOf (o_Model_layNear (o_Model_copy t 55 56) 56 (q_all n)) 56).1 = 10 * nI b + nI v
                  · rw [if_pos cc, if_pos cc]
                    exact both _ _ fC fM
                  · rw [if_neg cc, if_neg cc]
                    exact both _ _ fC fM
                · rw [if_neg ca, if_neg ca]
                  exact both _ _ fC2 fM2
              · rw [if_neg c7, if_neg c7]
                exact ⟨rfl, fun q => absurd (show false = true from q) (by decide)⟩
end ZJ
