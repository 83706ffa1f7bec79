/-! The whole state: C the class' side, M the reference's. -/
def zTXT (C M : zHp) : Prop := ∃ L, L ≤ 110 ∧ C 1 0 = nI L ∧ M 51 0 = nI L ∧ ∀ i, i < L → M 52 i = C 2 i ∧ ∃ m, m < 256 ∧ C 2 i = nI m
def zOBS (C M : zHp) : Prop := ∃ q, q ≤ 6 ∧ C 46 0 = nI q ∧ M 51 4 = nI q ∧ ∀ i, i < q → (M 60 i = C 47 i ∧ M 61 i = C 48 i ∧ M 62 i = C 49 i) ∧ (∃ s, s < 8 ∧ C 47 i = nI s) ∧ (∃ t, t < 8 ∧ C 48 i = nI t) ∧ ∃ w, w ≤ 2 ∧ C 49 i = nI w
/-- a kept row: the class' at place a of cell c, the reference's at place m of cell d -/
def zsr (C : zHp) (c a : Nat) (M : zHp) (d m n K : Nat) : Prop := (∀ v, v < n → C c (a + v) = M d (m + (16 + v)) ∧ C c (a + 8 + v) = M d (m + v) ∧ C c (a + 16 + v) = M d (m + (8 + v))) ∧ (C c (a + 24) = M d (m + 24) ∧ ∃ x, x ≤ K ∧ M d (m + 24) = nI x) ∧ (∀ v, v < n → zoff (M 53 v) (M d (m + v)) ∧ zoff (M 53 v) (M d (m + (8 + v)))) ∧ ∀ v, v < n → (∀ i, n ≤ i → i < 32 → bt (M d (m + (16 + v))) i = false) ∧ bt (M d (m + (16 + v))) v = false ∧ ∀ u, u < n → bt (M d (m + (16 + v))) u = bt (M d (m + (16 + u))) v
def zACT (C M : zHp) (n K : Nat) : Prop := ∃ w s, w < 14 ∧ s ≤ 14 ∧ C 41 0 = nI w ∧ M 51 3 = nI w ∧ C 41 1 = nI s ∧ M 51 2 = nI s ∧ C 42 0 = nI 14 ∧ ∀ i, i < s → bt (C 42 1) ((w + 14 - i) % 14) = true ∧ zsr C 43 (25 * ((w + 14 - i) % 14)) M 57 (25 * ((w + 13 - i) % 14)) n K
def zSLO (C M : zHp) (n K : Nat) : Prop := C 44 0 = nI 2 ∧ ∀ i, i < 2 → M 59 i = zb (bt (C 44 1) i) ∧ (bt (C 44 1) i = true → zsr C 45 (25 * i) M 58 (25 * i) n K)
def zREL (K : Nat) (C M : zHp) (x y : Int64) : Prop := ∃ n, zmr C 3 M 54 n (q_all n) K ∧ zTXT C M ∧ zfit M 51 8 7 ∧ zOBS C M ∧ zACT C M n K ∧ zSLO C M n K ∧ x = y
-- frames
theorem zTXT_fr {C M C2 M2 : zHp} (e1 : C2 1 0 = C 1 0) (e2 : ∀ j, C2 2 j = C 2 j) (e3 : M2 51 0 = M 51 0) (e4 : ∀ j, M2 52 j = M 52 j) (H : zTXT C M) : zTXT C2 M2 := by
  obtain ⟨L, h1, h2, h3, h4⟩ := H
  refine ⟨L, h1, e1.trans h2, e3.trans h3, fun i hi => ?_⟩
  rw [e4, e2]
  exact h4 i hi
theorem zOBS_fr {C M C2 M2 : zHp} (e1 : C2 46 0 = C 46 0) (e2 : ∀ j, C2 47 j = C 47 j ∧ C2 48 j = C 48 j ∧ C2 49 j = C 49 j) (e3 : M2 51 4 = M 51 4) (e4 : ∀ j, M2 60 j = M 60 j ∧ M2 61 j = M 61 j ∧ M2 62 j = M 62 j) (H : zOBS C M) : zOBS C2 M2 := by
  obtain ⟨q, h1, h2, h3, h4⟩ := H
  refine ⟨q, h1, e1.trans h2, e3.trans h3, fun i hi => ?_⟩
  rw [(e4 i).1, (e4 i).2.1, (e4 i).2.2, (e2 i).1, (e2 i).2.1, (e2 i).2.2]
  exact h4 i hi
theorem zsr_fr {C C2 M M2 : zHp} {c a d m n K : Nat} (e1 : ∀ j, a ≤ j → j < a + 25 → C2 c j = C c j) (e2 : ∀ j, m ≤ j → j < m + 25 → M2 d j = M d j) (e3 : ∀ v, v < n → M2 53 v = M 53 v) (h8 : n ≤ 8) (H : zsr C c a M d m n K) : zsr C2 c a M2 d m n K := by
  obtain ⟨h1, h2, h3, h4⟩ := H
  refine ⟨fun v hv => ?_, ?_, fun v hv => ?_, fun v hv => ?_⟩
  · rw [e1 _ (by omega) (by omega), e1 _ (by omega) (by omega), e1 _ (by omega) (by omega), e2 _ (by omega) (by omega), e2 _ (by omega) (by omega), e2 _ (by omega) (by omega)]
    exact h1 v hv
  · rw [e1 _ (by omega) (by omega), e2 _ (by omega) (by omega)]
    exact h2
  · rw [e3 v hv, e2 _ (by omega) (by omega), e2 _ (by omega) (by omega)]
    exact h3 v hv
  · obtain ⟨l1, l2, l3⟩ := h4 v hv
    rw [e2 _ (by omega) (by omega)]
    exact ⟨l1, l2, fun u hu => by rw [e2 (m + (16 + u)) (by omega) (by omega)]; exact l3 u hu⟩
theorem zsr_mono {C M : zHp} {c a d m n K K2 : Nat} (hK : K ≤ K2) (H : zsr C c a M d m n K) : zsr C c a M d m n K2 := ⟨H.1, ⟨H.2.1.1, by obtain ⟨x, h1, h2⟩ := H.2.1.2; exact ⟨x, by omega, h2⟩⟩, H.2.2⟩
theorem zACT_fr {C M C2 M2 : zHp} {n K : Nat} (h8 : n ≤ 8) (e1 : C2 41 0 = C 41 0) (e2 : C2 41 1 = C 41 1) (e3 : C2 42 0 = C 42 0) (e4 : C2 42 1 = C 42 1) (e5 : ∀ j, C2 43 j = C 43 j) (f1 : M2 51 3 = M 51 3) (f2 : M2 51 2 = M 51 2) (f3 : ∀ j, M2 57 j = M 57 j) (f4 : ∀ v, v < n → M2 53 v = M 53 v) (H : zACT C M n K) : zACT C2 M2 n K := by
  obtain ⟨w, s, h1, h2, h3, h4, h5, h6, h7, h9⟩ := H
  refine ⟨w, s, h1, h2, e1.trans h3, f1.trans h4, e2.trans h5, f2.trans h6, e3.trans h7, fun i hi => ?_⟩
  rw [e4]
  exact ⟨(h9 i hi).1, zsr_fr (fun j _ _ => e5 j) (fun j _ _ => f3 j) f4 h8 (h9 i hi).2⟩
theorem zACT_mono {C M : zHp} {n K K2 : Nat} (hK : K ≤ K2) (H : zACT C M n K) : zACT C M n K2 := by
  obtain ⟨w, s, h1, h2, h3, h4, h5, h6, h7, h9⟩ := H
  exact ⟨w, s, h1, h2, h3, h4, h5, h6, h7, fun i hi => ⟨(h9 i hi).1, zsr_mono hK (h9 i hi).2⟩⟩
theorem zSLO_fr {C M C2 M2 : zHp} {n K : Nat} (h8 : n ≤ 8) (e1 : C2 44 0 = C 44 0) (e2 : C2 44 1 = C 44 1) (e3 : ∀ j, C2 45 j = C 45 j) (f1 : ∀ j, M2 59 j = M 59 j) (f2 : ∀ j, M2 58 j = M 58 j) (f4 : ∀ v, v < n → M2 53 v = M 53 v) (H : zSLO C M n K) : zSLO C2 M2 n K := by
  refine ⟨e1.trans H.1, fun i hi => ?_⟩
  rw [e2, f1]
  exact ⟨(H.2 i hi).1, fun q => zsr_fr (fun j _ _ => e3 j) (fun j _ _ => f2 j) f4 h8 ((H.2 i hi).2 q)⟩
theorem zSLO_mono {C M : zHp} {n K K2 : Nat} (hK : K ≤ K2) (H : zSLO C M n K) : zSLO C M n K2 := ⟨H.1, fun i hi => ⟨(H.2 i hi).1, fun q => zsr_mono hK ((H.2 i hi).2 q)⟩⟩
/-- what no call's answer rests on -/
def zscrC (c j : Nat) : Prop := (15 ≤ c ∧ c ≤ 40) ∨ 50 ≤ c ∨ c = 0 ∨ (c = 3 ∧ j = 2) ∨ c = 14
def zscrM (c j : Nat) : Prop := c < 51 ∨ c = 55 ∨ c = 56 ∨ 63 ≤ c ∨ (c = 51 ∧ 5 ≤ j ∧ j ≠ 8)
theorem zREL_fr {K : Nat} {C M C2 M2 : zHp} {x y : Int64} (eC : ∀ c j, ¬ zscrC c j → C2 c j = C c j) (eM : ∀ c j, ¬ zscrM c j → M2 c j = M c j) (H : zREL K C M x y) : zREL K C2 M2 x y := by
  obtain ⟨n, R, h2, h3, h4, h5, h6, h7⟩ := H
  have h8 := m_8 R
  refine ⟨n, ?_, ?_, ?_, ?_, ?_, ?_, h7⟩
  · refine zmr_frM (eM _ _ (by unfold zscrM; omega)) (fun v _ => eM _ _ (by unfold zscrM; omega)) (fun v _ => ⟨eM _ _ (by unfold zscrM; omega), eM _ _ (by unfold zscrM; omega), eM _ _ (by unfold zscrM; omega)⟩) (eM _ _ (by unfold zscrM; omega)) ?_
    exact zmr_frC (fun j hj => eC _ _ (by unfold zscrC; omega)) (fun i v h1 h2 => eC _ _ (by unfold zscrC; omega)) R
  · exact zTXT_fr (eC _ _ (by unfold zscrC; omega)) (fun j => eC _ _ (by unfold zscrC; omega)) (eM _ _ (by unfold zscrM; omega)) (fun j => eM _ _ (by unfold zscrM; omega)) h2
  · exact zfit_fr (eM _ _ (by unfold zscrM; omega)) h3
  · exact zOBS_fr (eC _ _ (by unfold zscrC; omega)) (fun j => ⟨eC _ _ (by unfold zscrC; omega), eC _ _ (by unfold zscrC; omega), eC _ _ (by unfold zscrC; omega)⟩) (eM _ _ (by unfold zscrM; omega)) (fun j => ⟨eM _ _ (by unfold zscrM; omega), eM _ _ (by unfold zscrM; omega), eM _ _ (by unfold zscrM; omega)⟩) h4
  · exact zACT_fr h8 (eC _ _ (by unfold zscrC; omega)) (eC _ _ (by unfold zscrC; omega)) (eC _ _ (by unfold zscrC; omega)) (eC _ _ (by unfold zscrC; omega)) (fun j => eC _ _ (by unfold zscrC; omega)) (eM _ _ (by unfold zscrM; omega)) (eM _ _ (by unfold zscrM; omega)) (fun j => eM _ _ (by unfold zscrM; omega)) (fun v _ => eM _ _ (by unfold zscrM; omega)) h5
  · exact zSLO_fr h8 (eC _ _ (by unfold zscrC; omega)) (eC _ _ (by unfold zscrC; omega)) (fun j => eC _ _ (by unfold zscrC; omega)) (fun j => eM _ _ (by unfold zscrM; omega)) (fun j => eM _ _ (by unfold zscrM; omega)) (fun v _ => eM _ _ (by unfold zscrM; omega)) h6
theorem zREL_mono {K K2 : Nat} {C M : zHp} {x y : Int64} (hK : K ≤ K2) (H : zREL K C M x y) : zREL K2 C M x y := by
  obtain ⟨n, R, h2, h3, h4, h5, h6, h7⟩ := H
  exact ⟨n, zmr_mono hK R, h2, h3, h4, zACT_mono hK h5, zSLO_mono hK h6, h7⟩
-- rows kept
theorem q_put {s : zHp} {m a : Nat} {c : Nat} (hm : m + 4 < c) (x : Int32) : ∀ c2 j, (zup (zcp (zcp (zcp s (m + 2) c 0 a 8) (m + 3) c 0 (a + 8) 8) (m + 4) c 0 (a + 16) 8) c (a + 24) x) c2 j = if c2 = c ∧ j = a + 24 then x else if c2 = c ∧ a + 16 ≤ j ∧ j < a + 24 then s (m + 4) (j - (a + 16)) else if c2 = c ∧ a + 8 ≤ j ∧ j < a + 16 then s (m + 3) (j - (a + 8)) else if c2 = c ∧ a ≤ j ∧ j < a + 8 then s (m + 2) (j - a) else s c2 j := by
  intro c2 j
  have one : ∀ (t : zHp) (q p : Nat), q ≠ c → ∀ c2 j, zcp t q c 0 p 8 c2 j = if c2 = c ∧ p ≤ j ∧ j < p + 8 then t q (j - p) else t c2 j := by
    intro t q p hq c2 j
    by_cases h1 : c2 = c
    · subst h1
      rw [zcp_eq]
      by_cases h2 : p ≤ j ∧ j < p + 8
      · rw [if_pos ⟨rfl, h2⟩, pk_cpy_in h2.1 h2.2, Nat.zero_add]
      · rw [if_neg (by omega), pk_cpy_out (by omega)]
    · rw [zcp_fr h1, if_neg (by omega)]
  by_cases q1 : c2 = c ∧ j = a + 24
  · obtain ⟨rfl, rfl⟩ := q1
    rw [zup_at, if_pos ⟨rfl, rfl⟩]
  · rw [zup_fr (by omega), if_neg q1, one _ _ _ (by omega)]
    by_cases q2 : c2 = c ∧ a + 16 ≤ j ∧ j < a + 24
    · rw [if_pos (by omega), if_pos q2, one _ _ _ (by omega), if_neg (by omega), one _ _ _ (by omega), if_neg (by omega)]
    · rw [if_neg (by omega), if_neg q2, one _ _ _ (by omega)]
      by_cases q3 : c2 = c ∧ a + 8 ≤ j ∧ j < a + 16
      · rw [if_pos (by omega), if_pos q3, one _ _ _ (by omega), if_neg (by omega)]
      · rw [if_neg (by omega), if_neg q3, one _ _ _ (by omega)]
/-- a row as it is laid down -/
theorem q_lay {C M C2 M2 : zHp} {c a d m n K : Nat} (R : zmr C 3 M 54 n (q_all n) K) (e1 : ∀ v, v < n → C2 c (a + v) = C 5 v ∧ C2 c (a + 8 + v) = C 6 v ∧ C2 c (a + 16 + v) = C 7 v) (e2 : C2 c (a + 24) = C 3 1) (f1 : ∀ j, j < 25 → M2 d (m + j) = M 54 j) (f2 : ∀ v, v < n → M2 53 v = M 53 v) : zsr C2 c a M2 d m n K := by
  have h8 := m_8 R
  refine ⟨fun v hv => ?_, ⟨?_, ?_⟩, fun v hv => ?_, fun v hv => ?_⟩
  · obtain ⟨r1, r2, r3⟩ := m_rowAll R hv
    rw [(e1 v hv).1, (e1 v hv).2.1, (e1 v hv).2.2, f1 _ (by omega), f1 _ (by omega), f1 _ (by omega)]
    exact ⟨r1, r2, r3⟩
  · rw [e2, f1 _ (by omega)]
    exact R.2.1.1
  · rw [f1 _ (by omega)]
    exact R.2.1.2
  · rw [f2 v hv, f1 _ (by omega), f1 _ (by omega)]
    exact R.2.2.2.1 v hv
  · obtain ⟨l1, l2, l3⟩ := R.2.2.2.2.1 v hv
    rw [f1 _ (by omega)]
    exact ⟨l1, l2, fun u hu => by rw [f1 (16 + u) (by omega)]; exact l3 u hu⟩
/-- a row as it is brought back -/
theorem q_back {C M C1 M1 : zHp} {c a d m n K : Nat} {on : Int32} {K0 : Nat} (R : zmr C 3 M 54 n on K0) (hK : K < 2 ^ 20) (S : zsr C c a M d m n K) (e1 : ∀ v, v < 8 → C1 5 v = C c (a + v) ∧ C1 6 v = C c (a + 8 + v) ∧ C1 7 v = C c (a + 16 + v)) (e2 : C1 3 1 = C c (a + 24)) (e3 : C1 3 0 = C 3 0) (e4 : ∀ v, C1 4 v = C 4 v ∧ C1 8 v = C 8 v) (f1 : ∀ j, j < 25 → M1 54 j = M d (m + j)) (f2 : ∀ v, v < n → M1 53 v = M 53 v) (f3 : M1 51 1 = M 51 1) : zmr (o_Mesh_markTicks (o_Mesh_relate C1 3) 3) 3 M1 54 n (q_all n) K := by
  have h8 := m_8 R
  obtain ⟨s1, ⟨s2, x, hx1, hx2⟩, s3, s4⟩ := S
  have g : ∀ c2 j, c2 ≠ 9 → c2 ≠ 10 → c2 ≠ 11 → c2 ≠ 12 → c2 ≠ 13 → o_Mesh_markTicks (o_Mesh_relate C1 3) 3 c2 j = C1 c2 j := fun c2 j q1 q2 q3 q4 q5 => (fr_Mesh_markTicks _ _ (by omega) (by omega)).trans (fr_Mesh_relate _ _ (by omega) (by omega) (by omega))
  have row : ∀ v, v < n → C1 5 v = M1 54 (16 + v) ∧ C1 6 v = M1 54 v ∧ C1 7 v = M1 54 (8 + v) := fun v hv => by
    obtain ⟨a1, a2, a3⟩ := e1 v (by omega)
    rw [a1, a2, a3, f1 _ (by omega), f1 _ (by omega), f1 _ (by omega)]
    exact s1 v hv
  have hl : y_lnk M1 54 n := fun v hv => by
    obtain ⟨l1, l2, l3⟩ := s4 v hv
    rw [f1 _ (by omega)]
    exact ⟨l1, l2, fun u hu => by rw [f1 (16 + u) (by omega)]; exact l3 u hu⟩
  have ho : y_off M1 54 n := fun v hv => by
    rw [f2 v hv, f1 _ (by omega), f1 _ (by omega)]
    exact s3 v hv
  have hn1 : C1 3 0 = nI n := e3.trans R.1.1
  have hr1 : C1 3 1 = nI x := by rw [e2, s2, hx2]
  refine ⟨⟨?_, f3.trans R.1.2.1, h8, fun v hv => ?_⟩, ⟨?_, x, hx1, ?_⟩, y_rowAll h8 hl (fun v hv => ?_), ho, hl, y_on_all h8, ?_, ?_⟩
  · rw [g _ _ (by omega) (by omega) (by omega) (by omega) (by omega)]
    exact hn1
  · have := R.1.2.2.2 v hv
    rw [g (3 + 1) v (by omega) (by omega) (by omega) (by omega) (by omega), g (3 + 5) v (by omega) (by omega) (by omega) (by omega) (by omega), (e4 v).1, (e4 v).2, f2 v hv]
    exact this
  · rw [g _ _ (by omega) (by omega) (by omega) (by omega) (by omega), f1 _ (by omega), e2]
    exact s2
  · rw [f1 _ (by omega)]
    exact hx2
  · rw [g (3 + 2) v (by omega) (by omega) (by omega) (by omega) (by omega), g (3 + 3) v (by omega) (by omega) (by omega) (by omega) (by omega), g (3 + 4) v (by omega) (by omega) (by omega) (by omega) (by omega)]
    exact row v hv
  · exact y_cN_fr (h := o_Mesh_relate C1 3) (fr_Mesh_markTicks _ _ (by omega) (by omega)) (funext fun j => fr_Mesh_markTicks _ _ (by omega) (by omega)) (fun v => fr_Mesh_markTicks _ _ (by omega) (by omega)) (fun v => fr_Mesh_markTicks _ _ (by omega) (by omega)) (fun v => fr_Mesh_markTicks _ _ (by omega) (by omega)) (q_relate hn1 h8 hr1 (by omega))
  · refine q_mark ((fr_Mesh_relate _ _ (by omega) (by omega) (by omega)).trans hn1) h8 (fun v hv => ?_)
    obtain ⟨p1, p2, p3⟩ := R.1.2.2.2 v hv
    have q1 : C1 (3 + 1) v = M 53 v := (e4 v).1.trans p1
    have q2 : C1 (3 + 5) v = zpat (M 53 v) := (e4 v).2.trans p3
    have q3 : C1 (3 + 3) v = M1 54 v := (row v hv).2.1
    have q4 : C1 (3 + 4) v = M1 54 (8 + v) := (row v hv).2.2
    rw [fr_Mesh_relate (3 + 1) v (by omega) (by omega) (by omega), fr_Mesh_relate (3 + 5) v (by omega) (by omega) (by omega), fr_Mesh_relate (3 + 3) v (by omega) (by omega) (by omega), fr_Mesh_relate (3 + 4) v (by omega) (by omega) (by omega), q1, q2, q3, q4]
    refine ⟨p2, rfl, ?_⟩
    have := ho v hv
    rw [f2 v hv] at this
    exact this
