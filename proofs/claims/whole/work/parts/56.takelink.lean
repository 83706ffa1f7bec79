/-! The part of a link, and any other letter. -/
section ZM
variable {s t : zHp} {n : Nat}
theorem rd_link (R : q_rd s t n) (h7 : t 51 7 = 0) {p l0 l1 l2 : Int32} (b0 : o_Text_byteAt s p = l0) (b1 : o_Text_byteAt s (p + 1) = l1) (b2 : o_Text_byteAt s (p + 2) = l2) (c0 : ¬ l0 = 83) : q_part s t p l1 l2 l0 := by
  obtain ⟨n1, n2, n3⟩ := rd_n R
  have T0 : q_take t l0 = (decide (l0 = 76) && o_Mesh_lacksLink s 15, zup (zup t 51 6 l0) 51 7 1) := by
    unfold q_take o_Model_takeSign
    rw [if_pos h7, if_neg c0, rd_room R]
  unfold q_part q_rgt q_aft
  rw [b0, if_neg c0, if_neg c0, T0]
  dsimp only
  by_cases c1 : l0 = 76
  · rw [if_pos c1, if_pos c1, decide_eq_true c1, Bool.true_and]
    by_cases cr : o_Mesh_lacksLink s 15 = true
    · rw [if_pos cr, if_pos cr]
      refine Or.inr ⟨cr, by rw [zup_at]; decide, ?_⟩
      have t7 : zup (zup t 51 6 l0) 51 7 1 51 7 = 1 := zup_at
      have t6 : ¬ zup (zup t 51 6 l0) 51 7 1 51 6 = 83 := by rw [zup_fr (by omega), zup_at]; exact c0
      have te : ∀ c j, (c ≠ 51 ∨ j = 5) → zup (zup t 51 6 l0) 51 7 1 c j = t c j := fun c j q => by rw [zup_fr (by omega), zup_fr (by omega)]
      generalize zup (zup t 51 6 l0) 51 7 1 = t1 at t7 t6 te ⊢
      have R1 : q_rd s t1 n := rd_fr R (te _ _ (by omega)) (fun v hv => ⟨te _ _ (by omega), te _ _ (by omega), te _ _ (by omega)⟩)
      have t5 : t1 51 5 = nI n := (te _ _ (by omega)).trans n2
      have T1 : q_take t1 l1 = if o_Model_isStation (q_vh t1) (l1 - 48) = true then (o_Model_hasRoom t1 (zcn (l1 - 48)), zup (zup t1 51 7 2) 51 8 (l1 - 48)) else (false, t1) := by
        unfold q_take o_Model_takeOfLink
        rw [if_neg (by rw [t7]; decide), if_neg t6, if_pos t7]
        rfl
      unfold o_Text_readLink
      rw [b1, b2, T1, m_exE R1 (l1 - 48), m_exE R1 (l2 - 48)]
      by_cases s1 : o_Model_isStation (q_vh t1) (l1 - 48) = true
      · rw [if_pos s1, if_pos s1]
        obtain ⟨i, hi, ei, zi⟩ := m_exT R1 s1
        dsimp only
        rw [zi, rd_full R1 hi, ei]
        by_cases hr : o_Model_hasRoom t1 i = true
        · rw [hr, if_neg (c := (!true) = true) (by decide)]
          refine Or.inr ⟨rfl, by rw [zup_fr (by omega), zup_at]; decide, ?_⟩
          have u7 : zup (zup t1 51 7 2) 51 8 (nI i) 51 7 = 2 := by rw [zup_fr (by omega), zup_at]
          have u6 : ¬ zup (zup t1 51 7 2) 51 8 (nI i) 51 6 = 83 := by rw [zup_fr (by omega), zup_fr (by omega)]; exact t6
          have u8 : zup (zup t1 51 7 2) 51 8 (nI i) 51 8 = nI i := zup_at
          have ue : ∀ c j, (c ≠ 51 ∨ j = 5) → zup (zup t1 51 7 2) 51 8 (nI i) c j = t1 c j := fun c j q => by rw [zup_fr (by omega), zup_fr (by omega)]
          generalize zup (zup t1 51 7 2) 51 8 (nI i) = t2 at u7 u6 u8 ue ⊢
          have R2 : q_rd s t2 n := rd_fr R1 (ue _ _ (by omega)) (fun v hv => ⟨ue _ _ (by omega), ue _ _ (by omega), ue _ _ (by omega)⟩)
          have est : o_Model_isStation (q_vh t2) (l2 - 48) = o_Model_isStation (q_vh t1) (l2 - 48) := by
            apply rd_Model_isStation
            exact ue _ _ (by omega)
          have T2 : q_take t2 l2 = if o_Model_isStation (q_vh t1) (l2 - 48) = true then (if (l2 - 48) = nI i then (false, zup t2 51 7 0) else if o_Model_has (t2 65 (zcn (l2 - 48))) (nI i) = true then (false, zup t2 51 7 0) else (true, (zup (zup (zup t2 51 7 0) 65 (zcn (l2 - 48)) ((t2 65 (zcn (l2 - 48))) ||| (zshl 1 (nI i)))) 65 (zcn (nI i)) (((zup (zup t2 51 7 0) 65 (zcn (l2 - 48)) ((t2 65 (zcn (l2 - 48))) ||| (zshl 1 (nI i)))) 65 (zcn (nI i))) ||| (zshl 1 (l2 - 48)))))) else (false, t2) := by
            rw [← est]
            unfold q_take o_Model_takeOfLink
            rw [if_neg (by rw [u7]; decide), if_neg u6, if_neg (c := t2 51 7 = 1) (by rw [u7]; decide), u8]
            rfl
          rw [T2]
          by_cases s2 : o_Model_isStation (q_vh t1) (l2 - 48) = true
          · rw [if_pos s2, if_pos s2]
            obtain ⟨j, hj, ej, zj⟩ := m_exT R1 s2
            rw [zj, ej, zcn_nI (n := i) (by omega)]
            by_cases e : i = j
            · subst e
              rw [if_pos rfl, if_pos rfl]
              exact Or.inl ⟨rfl, rfl⟩
            · rw [if_neg (fun q => e ((nI_eq (by omega) (by omega)).mp q)), if_neg (fun q => e ((nI_eq (by omega) (by omega)).mp q).symm), q_has (by omega), q_hasM (by omega)]
              have sy : bt (s (15 + 2) i) j = bt (t2 65 j) i := by
                have l := (R2.2.2.2.2.1 i hi).2.2 j hj
                rw [v_lnk _ (by omega), v_lnk _ (by omega)] at l
                rw [show 15 + 2 = 17 from rfl, (rd_row R2 hi).2.1, l]
              rw [sy]
              by_cases hb : bt (t2 65 j) i = true
              · rw [if_pos hb, if_pos hb]
                exact Or.inl ⟨rfl, rfl⟩
              · rw [if_neg hb, if_neg hb]
                dsimp only
                have hb1 : bt (t2 65 i) j = false := by
                  rw [← Bool.not_eq_true, ← (rd_row R2 hi).2.1]
                  rw [show 15 + 2 = 17 from rfl] at sy
                  rw [sy]
                  exact hb
                refine Or.inr ⟨rfl, rfl, ?_, n, rd_flip R2 hi hj e hb1 ?_ (fun v hv => ⟨?_, ?_, ?_⟩)⟩
                · rw [zup_fr (by omega), zup_fr (by omega), zup_at]
                · rw [zup_fr (by omega), zup_fr (by omega), zup_fr (by omega)]
                · rw [zup_fr (by omega), zup_fr (by omega), zup_fr (by omega)]
                · rw [zup_fr (by omega), zup_fr (by omega), zup_fr (by omega)]
                · rw [zup_fr (c2 := 65) (k2 := i) (h := zup t2 51 7 0) (by omega), zup_fr (c2 := 65) (k2 := i) (h := t2) (by omega)]
                  by_cases a1 : v = i
                  · subst a1
                    rw [zup_at, if_pos rfl]
                  · rw [zup_fr (by omega), if_neg a1]
                    by_cases a2 : v = j
                    · subst a2
                      rw [zup_at, if_pos rfl]
                    · rw [zup_fr (by omega), zup_fr (by omega), if_neg a2]
          · rw [if_neg s2, if_neg s2]
            exact Or.inl ⟨rfl, rfl⟩
        · have hr2 : o_Model_hasRoom t1 i = false := by simpa using hr
          rw [hr2, if_pos (c := (!false) = true) (by decide)]
          exact Or.inl ⟨rfl, rfl⟩
      · rw [if_neg s1, if_neg s1]
        exact Or.inl ⟨rfl, rfl⟩
    · have cr2 : o_Mesh_lacksLink s 15 = false := by simpa using cr
      rw [if_neg cr, cr2]
      exact Or.inl ⟨rfl, rfl⟩
  · rw [if_neg c1, decide_eq_false c1]
    exact Or.inl ⟨rfl, rfl⟩
theorem rd_part (R : q_rd s t n) (h7 : t 51 7 = 0) {p l0 l1 l2 : Int32} (b0 : o_Text_byteAt s p = l0) (b1 : o_Text_byteAt s (p + 1) = l1) (b2 : o_Text_byteAt s (p + 2) = l2) (g1 : q_let l1) (g2 : q_let l2) : q_part s t p l1 l2 l0 := by
  by_cases c0 : l0 = 83
  · exact rd_stat R h7 b0 b1 b2 g1 g2 c0
  · exact rd_link R h7 b0 b1 b2 c0
end ZM
