/-! drawn. -/
section ZO
variable {K : Nat} {C M : zHp}
def q_eF (M : zHp) (i : Nat) (s : zHp × zLg) : zHp × zLg := ((zup s.1 55 i (Int64.toInt32 (zlrem (zlshr ((zupg s.2 1 (((s.2 1) * 6364136223846793005) + 1442695040888963407)) 1) 33) (Int32.toInt64 (M 53 i))))), (zupg s.2 1 (((s.2 1) * 6364136223846793005) + 1442695040888963407)))
theorem q_eF_1 (M : zHp) (i : Nat) (s : zHp × zLg) : (q_eF M i s).1 = zup s.1 55 i (Int64.toInt32 (zlrem (zlshr (q_lcg (s.2 1)) 33) (Int32.toInt64 (M 53 i)))) := by
  unfold q_eF q_lcg
  rw [zupg_at]
theorem q_eF_2 (M : zHp) (i : Nat) (s : zHp × zLg) : (q_eF M i s).2 = zupg s.2 1 (q_lcg (s.2 1)) := rfl
def q_eI (M t : zHp) (g : zLg) (n i : Nat) (s : zHp × zLg) : Prop := (∀ c j, s.1 c j = if c = 55 ∧ j < i then q_dv M (g 1) j else if c = 55 ∧ j = 24 then 0 else if c = 55 ∧ 8 ≤ j ∧ j < 16 then -9 else if c = 55 ∧ j < 25 then t 54 j else t c j) ∧ s.2 1 = q_dz (g 1) i ∧ ∀ j, j ≠ 1 → s.2 j = g j
theorem m_drawM {n : Nat} (h8 : n ≤ 8) (t : zHp) (g : zLg) : q_eI M t g n n (zrep (q_eF M) ((zup (o_Model_dropOld (o_Model_copy t 54 55) 55) 55 24 0), g) n) := by
  have cM := q_copyM (k := t) (r := 54) (r2 := 55) (by omega) (by omega) (by decide)
  refine zrep_inv (fun i s => q_eI M t g n i s) n ?_ (fun i s hi hI => ?_)
  · unfold q_eI
    dsimp only
    refine ⟨fun c j => ?_, rfl, fun _ _ => rfl⟩
    rw [if_neg (by omega)]
    by_cases q1 : c = 55 ∧ j = 24
    · obtain ⟨rfl, rfl⟩ := q1
      rw [zup_at, if_pos ⟨rfl, rfl⟩]
    · rw [zup_fr (by omega), if_neg q1, q_dropOldM]
      by_cases q2 : c = 55 ∧ 8 ≤ j ∧ j < 16
      · rw [if_pos q2, if_pos q2]
      · rw [if_neg q2, if_neg q2, cM]
  · unfold q_eI at hI ⊢
    obtain ⟨I1, I2, I3⟩ := hI
    rw [q_eF_1, q_eF_2]
    have ez : q_lcg (s.2 1) = q_dz (g 1) (i + 1) := by rw [I2]; rfl
    refine ⟨fun c j => ?_, (by rw [zupg_at]; exact ez), fun j hj => by rw [zupg_ne hj]; exact I3 j hj⟩
    rw [ez]
    by_cases q1 : c = 55 ∧ j = i
    · obtain ⟨rfl, rfl⟩ := q1
      rw [zup_at, if_pos ⟨rfl, by omega⟩]
      rfl
    · rw [zup_fr (by omega), I1]
      by_cases q2 : c = 55 ∧ j < i
      · rw [if_pos q2, if_pos ⟨q2.1, by omega⟩]
      · rw [if_neg q2, if_neg (c := c = 55 ∧ j < i + 1) (by omega)]
def q_rM (h : zHp) (s : Int32 × zHp × zLg) : zHp × zLg := zrep (q_eF h) ((zup (o_Model_dropOld (o_Model_copy s.2.1 54 55) 55) 55 24 0), s.2.2) (zcn (h 51 1))
def q_mF (h : zHp) (_ : Nat) (s : Int32 × zHp × zLg) : Int32 × zHp × zLg := ((s.1 + (if ((o_Model_runOf (o_Model_layNear (q_rM h s).1 55 (o_Model_all h)) 55).1) = (-9) then 40 else ((o_Model_runOf (o_Model_layNear (q_rM h s).1 55 (o_Model_all h)) 55).1))), ((o_Model_runOf (o_Model_layNear (q_rM h s).1 55 (o_Model_all h)) 55).2), (q_rM h s).2)
theorem q_drawnM (h : zHp) (g : zLg) (m : Int32) : o_Model_drawn h g m = if (o_Model_in (Int32.toInt64 m) 1 10) = true then ((zrep (q_mF h) (0, h, g) (zcn m)).1, (zrep (q_mF h) (0, h, g) (zcn m)).2.1, (zrep (q_mF h) (0, h, g) (zcn m)).2.2) else ((-2), h, g) := rfl
def q_cF (_ : Nat) (s : Int32 × zHp × zLg) : Int32 × zHp × zLg := ((s.1 + (if ((o_Mesh_settle ((o_Slots_drawOffsets s.2.1 s.2.2).1) 27).1) = (-9) then 40 else ((o_Mesh_settle ((o_Slots_drawOffsets s.2.1 s.2.2).1) 27).1))), ((o_Mesh_settle ((o_Slots_drawOffsets s.2.1 s.2.2).1) 27).2), ((o_Slots_drawOffsets s.2.1 s.2.2).2))
theorem q_drawnC (h : zHp) (g : zLg) (m : Int32) : o_Slots_drawn h g m = if m < 1 then ((-2), h, g) else (if m ≤ 10 then ((zrep q_cF (0, h, g) (zcn m)).1, (zrep q_cF (0, h, g) (zcn m)).2.1, (zrep q_cF (0, h, g) (zcn m)).2.2) else ((-2), h, g)) := rfl
def q_rD (C M : zHp) (g g2 : zLg) (s t : Int32 × zHp × zLg) : Prop := s.1 = t.1 ∧ (∀ c j, (c < 27 ∨ 38 < c) → s.2.1 c j = C c j) ∧ (∀ c j, c ≠ 55 → ¬ (c = 51 ∧ 9 ≤ j ∧ j ≤ 11) → ¬ (66 ≤ c ∧ c ≤ 68) → t.2.1 c j = M c j) ∧ s.2.2 0 = t.2.2 1 ∧ (∀ j, j ≠ 0 → s.2.2 j = g j) ∧ (∀ j, j ≠ 1 → t.2.2 j = g2 j)
theorem q_rD_step {n : Nat} (R : zmr C 3 M 54 n (q_all n) K) {g g2 : zLg} {s t : Int32 × zHp × zLg} {i : Nat} (H : q_rD C M g g2 s t) : q_rD C M g g2 (q_cF i s) (q_mF M i t) := by
  have h8 := m_8 R
  unfold q_rD at H ⊢
  obtain ⟨I1, I2, I3, I4, I5, I6⟩ := H
  have RC : zmr s.2.1 3 M 54 n (q_all n) K := zmr_frC (fun j hj => I2 _ _ (by omega)) (fun i v h1 h2 => I2 _ _ (by omega)) R
  obtain ⟨d1, d2, d3, W, d4, d5, d6, d7⟩ := m_drawC RC s.2.2
  have eM := m_drawM (M := M) h8 t.2.1 t.2.2
  have er : q_rM M t = zrep (q_eF M) ((zup (o_Model_dropOld (o_Model_copy t.2.1 54 55) 55) 55 24 0), t.2.2) n := by
    unfold q_rM
    rw [(m_cnt R).2]
  rw [← er] at eM
  unfold q_eI at eM
  obtain ⟨e1, e2, e3⟩ := eM
  unfold q_cF q_mF
  dsimp only
  generalize q_rM M t = E at e1 e2 e3 ⊢
  generalize o_Slots_drawOffsets s.2.1 s.2.2 = D at d1 d2 d3 d4 ⊢
  have em : ∀ c j, c ≠ 55 → E.1 c j = t.2.1 c j := fun c j q => by rw [e1, if_neg (by omega), if_neg (by omega), if_neg (by omega), if_neg (by omega)]
  have R1 : zmr D.1 27 E.1 55 n (q_all n) 0 := by
    refine zmr_frM ?_ (fun v hv => ?_) (fun v hv => ⟨?_, ?_, ?_⟩) ?_ d4
    · rw [em _ _ (by omega), I3 _ _ (by omega) (by omega) (by omega), R.1.2.1, d4.1.2.1]
    · rw [em _ _ (by omega), I3 _ _ (by omega) (by omega) (by omega), d7 v hv]
    · rw [e1, if_pos ⟨rfl, hv⟩, (d5 v hv).1, I4]
    · rw [e1, if_neg (by omega), if_neg (by omega), if_pos ⟨rfl, by omega, by omega⟩, (d5 v hv).2.1]
    · rw [e1, if_neg (by omega), if_neg (by omega), if_neg (by omega), if_pos ⟨rfl, by omega⟩, (d5 v hv).2.2, I3 _ _ (by omega) (by omega) (by omega)]
    · rw [e1, if_neg (by omega), if_pos ⟨rfl, rfl⟩, d6]
  have R2 := m_layNear (those := o_Model_all M) (Or.inr (Or.inl rfl)) R1
  have D2 := q_layNear (k := E.1) (r := 55) (those := o_Model_all M) (Or.inr (Or.inl rfl)) R1.1.2.1 h8
  rw [m_all R.1.2.1] at R2 D2 ⊢
  obtain ⟨a1, a2, a3, a4⟩ := m_run R2 D2 (Or.inr (Or.inl rfl)) (by omega)
  refine ⟨by rw [I1, a3], fun c j q => ?_, fun c j q1 q2 q3 => ?_, ?_, fun j hj => ?_, fun j hj => ?_⟩
  · refine Eq.trans ?_ ((d1 c j q).trans (I2 c j q))
    apply fr_Mesh_settle <;> omega
  · refine Eq.trans ?_ ((em c j q1).trans (I3 c j q1 q2 q3))
    refine Eq.trans (b := o_Model_layNear E.1 55 (q_all n) c j) ?_ ?_
    · apply fr_Model_runOf <;> omega
    · apply fr_Model_layNear <;> omega
  · rw [d2, e2, I4]
  · rw [d3 j hj]
    exact I5 j hj
  · rw [e3 j hj]
    exact I6 j hj
theorem op_drawn {g g2 : zLg} (H : zREL K C M (g 0) (g2 1)) (m : Int32) : (o_Slots_drawn C g m).1 = (o_Model_drawn M g2 m).1 ∧ zREL (K + 40) (o_Slots_drawn C g m).2.1 (o_Model_drawn M g2 m).2.1 ((o_Slots_drawn C g m).2.2 0) ((o_Model_drawn M g2 m).2.2 1) ∧ (∀ j, j ≠ 0 → (o_Slots_drawn C g m).2.2 j = g j) ∧ (∀ j, j ≠ 1 → (o_Model_drawn M g2 m).2.2 j = g2 j) := by
  obtain ⟨n, R, h2, h3, h4, h5, h6, h7⟩ := id H
  rw [q_drawnC, q_drawnM]
  have e1 : (1 : Int32).toInt = 1 := rfl
  have e10 : (10 : Int32).toInt = 10 := rfl
  have e9 : (1 : Int64).toInt = 1 := rfl
  have e7 : (10 : Int64).toInt = 10 := rfl
  by_cases c1 : m < 1
  · rw [if_pos c1, if_neg (fun z => by rw [q_inI] at z; rw [Int32.lt_iff_toInt_lt] at c1; omega)]
    exact ⟨rfl, zREL_same H, fun _ _ => rfl, fun _ _ => rfl⟩
  · rw [if_neg c1]
    by_cases c2 : m ≤ 10
    · rw [if_pos c2, if_pos (c := o_Model_in (Int32.toInt64 m) 1 10 = true) (by rw [q_inI]; rw [Int32.lt_iff_toInt_lt] at c1; rw [Int32.le_iff_toInt_le] at c2; omega)]
      have key := q_rel (fun _ s t => q_rD C M g g2 s t) (f := q_cF) (g := q_mF M) (a := (0, C, g)) (b := (0, M, g2)) (zcn m) (by
        unfold q_rD
        exact ⟨rfl, fun _ _ _ => rfl, fun _ _ _ _ _ => rfl, h7, fun _ _ => rfl, fun _ _ => rfl⟩) (fun i s t _ hI => q_rD_step R hI)
      generalize zrep q_cF (0, C, g) (zcn m) = s at key ⊢
      generalize zrep (q_mF M) (0, M, g2) (zcn m) = t at key ⊢
      unfold q_rD at key
      obtain ⟨I1, I2, I3, I4, I5, I6⟩ := key
      dsimp only
      refine ⟨I1, zREL_same ?_, I5, I6⟩
      rw [← I4]
      have H0 : zREL K C M (s.2.2 0) (s.2.2 0) := ⟨n, R, h2, h3, h4, h5, h6, rfl⟩
      exact zREL_fr (fun c j q => I2 c j (by unfold zscrC at q; omega)) (fun c j q => I3 c j (by unfold zscrM at q; omega) (by unfold zscrM at q; omega) (by unfold zscrM at q; omega)) H0
    · rw [if_neg c2, if_neg (fun z => by rw [q_inI] at z; rw [Int32.le_iff_toInt_le] at c2; omega)]
      exact ⟨rfl, zREL_same H, fun _ _ => rfl, fun _ _ => rfl⟩
end ZO
