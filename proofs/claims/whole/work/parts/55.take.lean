/-! One part of a text: three letters to the reference, one step to the class. -/
def q_let (l : Int32) : Prop := l = -1 ∨ ∃ m, m < 256 ∧ l = nI m
def q_take (t : zHp) (l : Int32) : Bool × zHp := if t 51 7 = 0 then o_Model_takeSign t l else if t 51 6 = 83 then o_Model_takeOfStation t l else o_Model_takeOfLink t l
theorem q_dig0 : ∀ m, m < 256 → (nI m = 49 ∨ nI m = 50 ∨ nI m = 51) ∨ ((nI m - 48 < 1 ∨ ¬ nI m - 48 ≤ 3) ∧ o_Model_in (Int32.toInt64 (nI m)) 49 51 = false) := by decide +kernel
theorem q_dig {l : Int32} (h : q_let l) : (l = 49 ∨ l = 50 ∨ l = 51) ∨ ((l - 48 < 1 ∨ ¬ l - 48 ≤ 3) ∧ o_Model_in (Int32.toInt64 l) 49 51 = false) := by
  rcases h with rfl | ⟨m, hm, rfl⟩
  · decide +kernel
  · exact q_dig0 m hm
theorem q_ltr2 : ∀ m, m < 256 → nI m = 45 ∨ (¬ nI m = 45 ∧ ¬ nI m < 97 ∧ nI m < 97 + 2 ∧ o_Model_in (Int32.toInt64 (nI m)) 97 (Int32.toInt64 (96 + 2)) = true ∧ zcn (nI m - 97) < 2 ∧ nI m - 97 = nI (zcn (nI m - 97))) ∨ (¬ nI m = 45 ∧ (nI m < 97 ∨ ¬ nI m < 97 + 2) ∧ o_Model_in (Int32.toInt64 (nI m)) 97 (Int32.toInt64 (96 + 2)) = false) := by decide +kernel
theorem q_ltr4 : ∀ m, m < 256 → nI m = 45 ∨ (¬ nI m = 45 ∧ ¬ nI m < 97 ∧ nI m < 97 + 4 ∧ o_Model_in (Int32.toInt64 (nI m)) 97 (Int32.toInt64 (96 + 4)) = true ∧ zcn (nI m - 97) < 4 ∧ nI m - 97 = nI (zcn (nI m - 97))) ∨ (¬ nI m = 45 ∧ (nI m < 97 ∨ ¬ nI m < 97 + 4) ∧ o_Model_in (Int32.toInt64 (nI m)) 97 (Int32.toInt64 (96 + 4)) = false) := by decide +kernel
theorem q_ltr8 : ∀ m, m < 256 → nI m = 45 ∨ (¬ nI m = 45 ∧ ¬ nI m < 97 ∧ nI m < 97 + 8 ∧ o_Model_in (Int32.toInt64 (nI m)) 97 (Int32.toInt64 (96 + 8)) = true ∧ zcn (nI m - 97) < 8 ∧ nI m - 97 = nI (zcn (nI m - 97))) ∨ (¬ nI m = 45 ∧ (nI m < 97 ∨ ¬ nI m < 97 + 8) ∧ o_Model_in (Int32.toInt64 (nI m)) 97 (Int32.toInt64 (96 + 8)) = false) := by decide +kernel
theorem q_ltr {p l : Int32} (hp : zprd p) (h : q_let l) : l = 45 ∨ (¬ l = 45 ∧ ¬ l < 97 ∧ l < 97 + p ∧ o_Model_in (Int32.toInt64 l) 97 (Int32.toInt64 (96 + p)) = true ∧ ∃ j, j < zcn p ∧ l - 97 = nI j) ∨ (¬ l = 45 ∧ (l < 97 ∨ ¬ l < 97 + p) ∧ o_Model_in (Int32.toInt64 l) 97 (Int32.toInt64 (96 + p)) = false) := by
  rcases h with rfl | ⟨m, hm, rfl⟩
  · refine Or.inr (Or.inr ?_)
    rcases hp with rfl | rfl | rfl <;> decide +kernel
  · rcases hp with rfl | rfl | rfl
    · rcases q_ltr2 m hm with q | ⟨a, b, c, d, e, f⟩ | q
      · exact Or.inl q
      · exact Or.inr (Or.inl ⟨a, b, c, d, _, e, f⟩)
      · exact Or.inr (Or.inr q)
    · rcases q_ltr4 m hm with q | ⟨a, b, c, d, e, f⟩ | q
      · exact Or.inl q
      · exact Or.inr (Or.inl ⟨a, b, c, d, _, e, f⟩)
      · exact Or.inr (Or.inr q)
    · rcases q_ltr8 m hm with q | ⟨a, b, c, d, e, f⟩ | q
      · exact Or.inl q
      · exact Or.inr (Or.inl ⟨a, b, c, d, _, e, f⟩)
      · exact Or.inr (Or.inr q)
theorem q_xoro {x : Int32} {i : Nat} (hi : i < 32) (h : bt x i = false) : x ^^^ zshl 1 (nI i) = x ||| zshl 1 (nI i) := b_ext (fun j hj => by
  rw [b_xor, b_or, q_one hi hj]
  by_cases e : j = i
  · rw [e, h, decide_eq_true rfl]
    rfl
  · rw [decide_eq_false e, Bool.xor_false, Bool.or_false])
section ZM
variable {s t : zHp} {n : Nat}
theorem rd_fr {t2 : zHp} (R : q_rd s t n) (e5 : t2 51 5 = t 51 5) (e : ∀ v, v < n → t2 63 v = t 63 v ∧ t2 64 v = t 64 v ∧ t2 65 v = t 65 v) : q_rd s t2 n := by
  have h8 := m_8 R
  refine zmr_frM (k := q_vh t) ?_ (fun v hv => ?_) (fun v hv => ⟨?_, ?_, ?_⟩) rfl R
  · exact e5
  · exact (e v hv).1
  · rw [v_off _ (by omega), v_off _ (by omega), (e v hv).2.1]
  · rw [v_old _ (by omega), v_old _ (by omega)]
  · rw [v_lnk _ (by omega), v_lnk _ (by omega), (e v hv).2.2]
theorem rd_flip {t2 : zHp} (R : q_rd s t n) {i j : Nat} (hi : i < n) (hj : j < n) (hij : i ≠ j) (hb : bt (t 65 i) j = false) (e5 : t2 51 5 = t 51 5) (e : ∀ v, v < n → t2 63 v = t 63 v ∧ t2 64 v = t 64 v ∧ t2 65 v = if v = i then t 65 i ||| zshl 1 (nI j) else if v = j then t 65 j ||| zshl 1 (nI i) else t 65 v) : q_rd (o_Mesh_flipLink s 15 i j) t2 n := by
  have h8 := m_8 R
  have F := m_flip R (Or.inl rfl) (by decide) hi hj hij
  have gd := q_dropOldM (k := q_vh t) (r := 54)
  have gt := q_turnOf (k := o_Model_dropOld (q_vh t) 54) (r := 54) hij
  have hb2 : bt (t 65 j) i = false := by
    have l := (R.2.2.2.2.1 i hi).2.2 j hj
    rw [v_lnk _ (by omega), v_lnk _ (by omega), hb] at l
    exact l.symm
  refine zmr_frM ?_ (fun v hv => ?_) (fun v hv => ⟨?_, ?_, ?_⟩) ?_ F
  · rw [gt, if_neg (by omega), if_neg (by omega), gd, if_neg (by omega)]
    exact e5
  · rw [gt, if_neg (by omega), if_neg (by omega), gd, if_neg (by omega)]
    exact (e v hv).1
  · rw [gt, if_neg (by omega), if_neg (by omega), gd, if_neg (by omega), v_off _ (by omega), v_off _ (by omega), (e v hv).2.1]
  · rw [gt, if_neg (by omega), if_neg (by omega), gd, if_pos (by omega), v_old _ (by omega)]
  · rw [v_lnk _ (by omega), (e v hv).2.2, gt, gd, gd, gd, if_neg (c := 54 = 54 ∧ 8 ≤ 16 + j ∧ 16 + j < 16) (by omega), if_neg (c := 54 = 54 ∧ 8 ≤ 16 + i ∧ 16 + i < 16) (by omega), if_neg (c := 54 = 54 ∧ 8 ≤ 16 + v ∧ 16 + v < 16) (by omega), v_lnk _ (by omega), v_lnk _ (by omega), v_lnk _ (by omega), q_xoro (by omega) hb, q_xoro (by omega) hb2]
    by_cases a1 : v = i
    · rw [if_pos a1, if_neg (by omega), if_pos (by omega)]
    · rw [if_neg a1]
      by_cases a2 : v = j
      · rw [if_pos a2, if_pos (by omega)]
      · rw [if_neg a2, if_neg (by omega), if_neg (by omega)]
  · rw [gt, if_neg (by omega), if_neg (by omega), gd, if_neg (by omega)]
    rfl
/-- what the class finds right of a part, and the mesh after it -/
def q_rgt (s : zHp) (p : Int32) : Int32 := if (o_Text_byteAt s p) = 83 then (if 8 ≤ (s 15 0) then (if (o_Text_byteAt s p) = 76 then (if (o_Mesh_lacksLink s 15) = true then ((o_Text_readLink s p 15).1) else 0) else 0) else ((o_Text_readStation s p 15).1)) else (if (o_Text_byteAt s p) = 76 then (if (o_Mesh_lacksLink s 15) = true then ((o_Text_readLink s p 15).1) else 0) else 0)
def q_aft (s : zHp) (p : Int32) : zHp := if (o_Text_byteAt s p) = 83 then (if 8 ≤ (s 15 0) then (if (o_Text_byteAt s p) = 76 then (if (o_Mesh_lacksLink s 15) = true then ((o_Text_readLink s p 15).2) else s) else s) else ((o_Text_readStation s p 15).2)) else (if (o_Text_byteAt s p) = 76 then (if (o_Mesh_lacksLink s 15) = true then ((o_Text_readLink s p 15).2) else s) else s)
def q_part (s t : zHp) (p l1 l2 : Int32) (l0 : Int32) : Prop :=
  (q_rgt s p = 0 ∧ (q_take t l0).1 = false) ∨
  ((q_take t l0).1 = true ∧ ¬ (q_take t l0).2 51 7 = 0 ∧
    ((q_rgt s p = 1 ∧ (q_take (q_take t l0).2 l1).1 = false) ∨
     ((q_take (q_take t l0).2 l1).1 = true ∧ ¬ (q_take (q_take t l0).2 l1).2 51 7 = 0 ∧
      ((q_rgt s p = 2 ∧ (q_take (q_take (q_take t l0).2 l1).2 l2).1 = false) ∨
       (q_rgt s p = 3 ∧ (q_take (q_take (q_take t l0).2 l1).2 l2).1 = true ∧ (q_take (q_take (q_take t l0).2 l1).2 l2).2 51 7 = 0 ∧ ∃ n, q_rd (q_aft s p) (q_take (q_take (q_take t l0).2 l1).2 l2).2 n)))))
theorem rd_stat (R : q_rd s t n) (h7 : t 51 7 = 0) {p l0 l1 l2 : Int32} (b0 : o_Text_byteAt s p = l0) (b1 : o_Text_byteAt s (p + 1) = l1) (b2 : o_Text_byteAt s (p + 2) = l2) (g1 : q_let l1) (g2 : q_let l2) (c0 : l0 = 83) : q_part s t p l1 l2 l0 := by
  obtain ⟨n1, n2, n3⟩ := rd_n R
  have T0 : q_take t l0 = (!(decide (8 ≤ t 51 5)), zup (zup t 51 6 l0) 51 7 1) := by
    unfold q_take o_Model_takeSign
    rw [if_pos h7, if_pos c0]
  unfold q_part q_rgt q_aft
  rw [b0, if_pos c0, if_pos c0]
  by_cases c8 : 8 ≤ s 15 0
  · rw [if_pos c8, if_neg (fun q => by rw [c0] at q; exact absurd q (by decide)), T0]
    refine Or.inl ⟨rfl, ?_⟩
    rw [n1, ← n2] at c8
    show (!(decide (8 ≤ t 51 5))) = false
    rw [decide_eq_true c8]
    rfl
  rw [if_neg c8, if_neg c8]
  have hn : n < 8 := by
    rw [n1] at c8
    exact Nat.not_le.mp (fun q => c8 (nI_le (a := 8) (b := n) q (by omega)))
  rw [n1, ← n2] at c8
  rw [T0]
  dsimp only
  refine Or.inr ⟨by rw [decide_eq_false c8]; rfl, by rw [zup_at]; decide, ?_⟩
  have t7 : zup (zup t 51 6 l0) 51 7 1 51 7 = 1 := zup_at
  have t6 : zup (zup t 51 6 l0) 51 7 1 51 6 = 83 := by rw [zup_fr (by omega), zup_at, c0]
  have te : ∀ c j, (c ≠ 51 ∨ j = 5) → zup (zup t 51 6 l0) 51 7 1 c j = t c j := fun c j q => by rw [zup_fr (by omega), zup_fr (by omega)]
  generalize zup (zup t 51 6 l0) 51 7 1 = t1 at t7 t6 te ⊢
  have t5 : t1 51 5 = nI n := (te _ _ (by omega)).trans n2
  have T1 : q_take t1 l1 = (o_Model_in (Int32.toInt64 l1) 49 51, zup (zup t1 51 7 2) 63 n (zshl 1 (l1 - 48))) := by
    unfold q_take o_Model_takeOfStation
    rw [if_neg (by rw [t7]; decide), if_pos t6, if_pos t7, t5, zcn_nI (by omega)]
  unfold o_Text_readStation
  rw [b1, b2, T1]
  dsimp only
  rcases q_dig g1 with hd | ⟨hd, hi⟩
  · have hp : zprd (zshl 1 (l1 - 48)) := by rcases hd with rfl | rfl | rfl <;> unfold zprd <;> decide +kernel
    have hi : o_Model_in (Int32.toInt64 l1) 49 51 = true := by rcases hd with rfl | rfl | rfl <;> decide +kernel
    have d1 : ¬ l1 - 48 < 1 := by rcases hd with rfl | rfl | rfl <;> decide +kernel
    have d2 : l1 - 48 ≤ 3 := by rcases hd with rfl | rfl | rfl <;> decide +kernel
    rw [if_neg d1, if_pos d2, hi]
    refine Or.inr ⟨rfl, by rw [zup_fr (by omega), zup_at]; decide, ?_⟩
    generalize zshl 1 (l1 - 48) = pr at hp ⊢
    have u7 : zup (zup t1 51 7 2) 63 n pr 51 7 = 2 := by rw [zup_fr (by omega), zup_at]
    have u6 : zup (zup t1 51 7 2) 63 n pr 51 6 = 83 := by rw [zup_fr (by omega), zup_fr (by omega), t6]
    have u5 : zup (zup t1 51 7 2) 63 n pr 51 5 = nI n := by rw [zup_fr (by omega), zup_fr (by omega), t5]
    have up : zup (zup t1 51 7 2) 63 n pr 63 n = pr := zup_at
    have ue : ∀ c j, c ≠ 51 → ¬ (c = 63 ∧ j = n) → zup (zup t1 51 7 2) 63 n pr c j = t c j := fun c j q1 q2 => by
      rw [zup_fr (by omega), zup_fr (by omega), te _ _ (by omega)]
    generalize zup (zup t1 51 7 2) 63 n pr = t2 at u7 u6 u5 up ue ⊢
    have T2 : q_take t2 l2 = (decide (l2 = 45) || o_Model_in (Int32.toInt64 l2) 97 (Int32.toInt64 (96 + pr)), zup (zup (zup (zup t2 51 7 0) 64 n (if l2 = 45 then -9 else l2 - 97)) 65 n 0) 51 5 (nI (n + 1))) := by
      unfold q_take o_Model_takeOfStation
      rw [if_neg (by rw [u7]; decide), if_pos u6, if_neg (by rw [u7]; decide), u5, zcn_nI (by omega), up, nI_1]
    have fin : ∀ o, zoff pr o → (if l2 = 45 then (-9 : Int32) else l2 - 97) = o → (zup (zup (zup (zup t2 51 7 0) 64 n (if l2 = 45 then -9 else l2 - 97)) 65 n 0) 51 5 (nI (n + 1))) 51 7 = 0 ∧ ∃ n9, q_rd (o_Mesh_add s 15 pr o) (zup (zup (zup (zup t2 51 7 0) 64 n (if l2 = 45 then -9 else l2 - 97)) 65 n 0) 51 5 (nI (n + 1))) n9 := fun o ho eo => by
      rw [eo]
      refine ⟨by rw [zup_fr (by omega), zup_fr (by omega), zup_fr (by omega), zup_at], n + 1, m_add R hn hp ho zup_at (fun v hv => ⟨?_, ?_, ?_⟩) ⟨?_, ?_, ?_⟩⟩
      · rw [zup_fr (by omega), zup_fr (by omega), zup_fr (by omega), zup_fr (by omega), ue _ _ (by omega) (by omega)]
      · rw [zup_fr (by omega), zup_fr (by omega), zup_fr (by omega), zup_fr (by omega), ue _ _ (by omega) (by omega)]
      · rw [zup_fr (by omega), zup_fr (by omega), zup_fr (by omega), zup_fr (by omega), ue _ _ (by omega) (by omega)]
      · rw [zup_fr (by omega), zup_fr (by omega), zup_fr (by omega), zup_fr (by omega), up]
      · rw [zup_fr (by omega), zup_fr (by omega), zup_at]
      · rw [zup_fr (by omega), zup_at]
    rw [T2]
    dsimp only
    rcases q_ltr hp g2 with e | ⟨e1, e2, e3, e4, j, hj, ej⟩ | ⟨e1, e2, e3⟩
    · rw [if_pos (α := Int32 × zHp) e, decide_eq_true e, Bool.true_or]
      obtain ⟨f1, f2⟩ := fin (-9) (Or.inl rfl) (if_pos e)
      exact Or.inr ⟨rfl, rfl, f1, f2⟩
    · rw [if_neg (α := Int32 × zHp) e1, if_neg e2, if_pos e3, e4, Bool.or_true]
      obtain ⟨f1, f2⟩ := fin (l2 - 97) (Or.inr ⟨j, hj, ej⟩) (if_neg e1)
      exact Or.inr ⟨rfl, rfl, f1, f2⟩
    · rw [if_neg (α := Int32 × zHp) e1, e3, decide_eq_false e1]
      refine Or.inl ⟨?_, rfl⟩
      by_cases z : l2 < 97
      · rw [if_pos z]
      · rw [if_neg z, if_neg (fun q => (by rcases e2 with q2 | q2; exact z q2; exact q2 q))]
  · rw [hi]
    refine Or.inl ⟨?_, rfl⟩
    by_cases z : l1 - 48 < 1
    · rw [if_pos z]
    · rw [if_neg z, if_neg (fun q => (by rcases hd with q2 | q2; exact z q2; exact q2 q))]
end ZM
