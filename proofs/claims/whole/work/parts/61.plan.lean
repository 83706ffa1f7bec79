/-! plan: both searches side by side. -/
theorem q_min_congr {p N : Nat → Int32} {T : Nat → Bool} {n s : Nat} {a b : Nat → Nat} (e : ∀ v, v < n → T v = true → a v = b v) (H : q_min p N T n s a) : q_min p N T n s b := ⟨q_val_congr e H.1, fun c hc v h1 h2 tv hag => by
  rw [← e v h2 tv]
  exact H.2 c hc v h1 h2 tv (fun u hu tu => (hag u hu tu).trans (e u (by omega) tu).symm)⟩
theorem q_val_pN {p N p2 N2 : Nat → Int32} {T : Nat → Bool} {n : Nat} {a : Nat → Nat} (e : ∀ v, v < n → p v = p2 v ∧ N v = N2 v) (H : q_val p N T n a) : q_val p2 N2 T n a := fun v hv tv => by
  obtain ⟨h1, h2⟩ := H v hv tv
  rw [← (e v hv).1, ← (e v hv).2]
  refine ⟨h1, fun u hu tu hb => ?_⟩
  have := h2 u hu tu hb
  unfold q_fr2 at this ⊢
  rw [← (e v hv).1, ← (e u (by omega)).1]
  exact this
theorem q_min_pN {p N p2 N2 : Nat → Int32} {T : Nat → Bool} {n s : Nat} {a : Nat → Nat} (e : ∀ v, v < n → p v = p2 v ∧ N v = N2 v) (H : q_min p N T n s a) : q_min p2 N2 T n s a :=
  ⟨q_val_pN e H.1, fun b hb v h1 h2 tv hag => H.2 b (q_val_pN (fun v hv => ⟨(e v hv).1.symm, (e v hv).2.symm⟩) hb) v h1 h2 tv hag⟩
section ZS
variable {h k : zHp} {n K : Nat}
theorem q_nearNet (R : zmr h 3 k 54 n (q_all n) K) {v u : Nat} (hv : v < n) (hu : u < n) (hb : bt (h 9 v) u = true) : bt (h 9 u) v = true ∧ u ≠ v ∧ ∀ S, q_cl (fun e => k 54 (16 + e)) n S → bt S v = true → bt S u = true := by
  have h8 := m_8 R
  have e : ∀ w, w < n → h 9 w = q_nr (fun e => k 54 (16 + e)) n w := fun w hw => by
    rw [show 9 = 3 + 6 from rfl, (R.2.2.2.2.2.2.1 w hw).1]
    exact q_nr_congr hw (fun f hf => (m_rowAll R hf).1)
  have sy := m_lsym R
  rw [e v hv] at hb
  rw [e u hu]
  obtain ⟨q1, q2⟩ := (q_nr_bt (by omega) (by omega)).mp hb
  refine ⟨(q_nr_bt (by omega) (by omega)).mpr ⟨fun z => q1 z.symm, ?_⟩, q1, fun S hS hv2 => ?_⟩
  · rcases q2 with q | ⟨f, hf, g1, g2⟩
    · exact Or.inl ((sy u v hu hv).trans q)
    · exact Or.inr ⟨f, hf, (sy u f hu hf).trans g2, (sy f v hf hv).trans g1⟩
  · rcases q2 with q | ⟨f, hf, g1, g2⟩
    · exact hS v hv hv2 u (by omega) q
    · exact hS f hf (hS v hv hv2 f (by omega) g1) u (by omega) g2
theorem q_succ (R : zmr h 3 k 54 n (q_all n) K) : ((o_Planner_succeeds h 3).1 = true → ∃ a, (∀ v, v < n → (o_Planner_succeeds h 3).2 40 v = nI (a v)) ∧ q_min (h 4) (h 9) (fun _ => true) n 0 a) ∧ ((o_Planner_succeeds h 3).1 = false → ∀ b, ¬ q_val (h 4) (h 9) (fun _ => true) n b) := by
  have h8 := m_8 R
  obtain ⟨T, hT⟩ : ∃ T : Nat → Int32, ∀ i, T i = q_net (fun e => k 54 (16 + e)) n i := ⟨_, fun _ => rfl⟩
  have G : ∀ i, i < n → q_cl (fun e => k 54 (16 + e)) n (T i) ∧ y_on n (T i) ∧ bt (T i) i = true := fun i hi => by
    obtain ⟨g1, g2, g3, -⟩ := q_net_G h8 (m_lks R) hi
    rw [hT]
    exact ⟨g1, g2, g3⟩
  have same : ∀ i j, i < n → j < n → (bt (T i) j = true ↔ T i = T j) := fun i j hi hj => by
    rw [hT, hT]
    exact q_net_same h8 (m_lks R) (m_lsym R) hi hj
  have W : ∀ i, i < n → q_mesh h n (T i) := fun i hi => ⟨R.1.1, fun u hu => m_hp R u hu, fun v u hv hu hb => by
    obtain ⟨a1, a2, a3⟩ := q_nearNet R hv hu hb
    exact ⟨a1, a2, a3 _ (G i hi).1⟩⟩
  have low : ∀ i, i < n → (o_Mesh_isLowestOfNet h 3 (nI i) = true ↔ ∀ j, j < i → ¬ bt (T i) j = true) := fun i hi => by
    unfold o_Mesh_isLowestOfNet
    rw [m_net R hi, ← hT, decide_eq_true_eq]
    rcases q_least h8 (G i hi).2.1 with ⟨e1, -⟩ | ⟨l, hl, -, e2, e3, e4⟩
    · have := (G i hi).2.2
      rw [e1, b_0] at this
      cases this
    · rw [e3, q_one_inj (by omega) (by omega)]
      refine ⟨fun q j hj => ?_, fun q => ?_⟩
      · rw [e4 j (by omega)]
        decide
      · by_cases c : l < i
        · exact absurd e2 (q l c)
        · by_cases c2 : i < l
          · have := e4 i c2
            rw [(G i hi).2.2] at this
            cases this
          · omega
  unfold o_Planner_succeeds
  rw [R.1.1, zcn_nI (by omega)]
  have hX := zrex_inv (f := (fun (i : Nat) (s : zHp) => ((if (o_Mesh_isLowestOfNet h 3 (nI i)) = true then (if ((o_Planner_assigns s 3 (o_Mesh_netOf h 3 (nI i)) i).1) = true then .inl ((o_Planner_assigns s 3 (o_Mesh_netOf h 3 (nI i)) i).2) else .inr (false, ((o_Planner_assigns s 3 (o_Mesh_netOf h 3 (nI i)) i).2))) else .inl s) : (zHp) ⊕ (Bool × zHp)))) (a := o_Arr_fill h 40 (-9)) (fun i s => (∀ c j, c ≠ 40 → s c j = h c j) ∧ ∃ a : Nat → Nat, ∀ u, u < n → ((∃ j, j < i ∧ bt (T u) j = true) → s 40 u = nI (a u) ∧ q_min (h 4) (h 9) (fun w => bt (T u) w) n 0 a) ∧ (¬ (∃ j, j < i ∧ bt (T u) j = true) → s 40 u = -9)) (fun r => r.1 = false ∧ ∀ b, ¬ q_val (h 4) (h 9) (fun _ => true) n b) n ⟨fun c j q => by rw [q_fill, if_neg (by omega)], fun _ => 0, fun u hu => ⟨fun ⟨j, hj, _⟩ => absurd hj (Nat.not_lt_zero j), fun _ => by rw [q_fill, if_pos ⟨rfl, by omega⟩]⟩⟩ (fun i s hi hI => by
    obtain ⟨I1, a, I2⟩ := hI
    by_cases cL : o_Mesh_isLowestOfNet h 3 (nI i) = true
    · rw [if_pos cL, m_net R hi, ← hT]
      have lw := (low i hi).mp cL
      have sm : ∀ u, u < n → bt (T i) u = true → ¬ ∃ j, j < i ∧ bt (T u) j = true := fun u hu tu ⟨j, hj, hb⟩ => by
        rw [← (same i u hi hu).mp tu] at hb
        exact lw j hj hb
      obtain ⟨J1, J2, J3⟩ := q_as (h0 := h) (net := T i) h8 (W i hi) (9 - i) i s (fun _ => 0) (by omega) I1 (fun u hu tu => ⟨fun q => absurd tu (lw u q), fun _ => (I2 u hu).2 (sm u hu tu)⟩) (fun w hw tw => absurd tw (lw w hw))
      unfold o_Planner_assigns
      generalize o_Planner_as (9 - i) s 3 (T i) i = r at J1 J2 J3 ⊢
      by_cases cA : r.1 = true
      · rw [if_pos cA]
        refine ⟨fun s2 es => ?_, fun r2 er => (by cases er)⟩
        cases es
        obtain ⟨a2, -, b2, b3⟩ := J2 cA
        have b4 : q_min (h 4) (h 9) (fun u => bt (T i) u) n 0 a2 := ⟨b3.1, fun b hb v _ h2 tv hag => b3.2 b hb v (Nat.not_lt.mp (fun q => lw v q tv)) h2 tv hag⟩
        refine ⟨fun c j q => (J1 c j (Or.inl q)).trans (I1 c j q), fun u => if bt (T i) u = true then a2 u else a u, fun u hu => ?_⟩
        dsimp only
        by_cases tu : bt (T i) u = true
        · have eT := (same i u hi hu).mp tu
          refine ⟨fun _ => ?_, fun q => absurd ⟨i, by omega, ?_⟩ q⟩
          · rw [if_pos tu, ← eT]
            refine ⟨b2 u hu tu, q_min_congr (fun v hv tv => ?_) b4⟩
            rw [if_pos tv]
          · rw [← eT]
            exact (G i hi).2.2
        · have fr : r.2 40 u = s 40 u := J1 40 u (Or.inr (fun q => tu q.2.2))
          have nb : ¬ bt (T u) i = true := fun q => tu ((same i u hi hu).mpr ((same u i hu hi).mp q).symm)
          have dn : (∃ j, j < i + 1 ∧ bt (T u) j = true) → ∃ j, j < i ∧ bt (T u) j = true := fun ⟨j, hj, hb⟩ => by
            by_cases e : j = i
            · exact absurd (e ▸ hb) nb
            · exact ⟨j, by omega, hb⟩
          rw [if_neg tu, fr]
          refine ⟨fun q => ?_, fun q => (I2 u hu).2 (fun ⟨j, hj, hb⟩ => q ⟨j, by omega, hb⟩)⟩
          obtain ⟨m1, m2⟩ := (I2 u hu).1 (dn q)
          refine ⟨m1, q_min_congr (fun v hv tv => ?_) m2⟩
          rw [if_neg (fun tw => tu ((same i u hi hu).mpr (((same i v hi hv).mp tw).trans ((same u v hu hv).mp tv).symm)))]
      · rw [if_neg cA]
        refine ⟨fun s2 es => (by cases es), fun r2 er => ?_⟩
        cases er
        obtain ⟨-, j2⟩ := J3 (by simpa using cA)
        exact ⟨rfl, fun b hb => j2 b (fun w hw tw => absurd tw (lw w hw)) (fun v hv tv => ⟨(hb v hv rfl).1, fun u hu tu hbt => (hb v hv rfl).2 u hu rfl hbt⟩)⟩
    · rw [if_neg cL]
      refine ⟨fun s2 es => ?_, fun r2 er => (by cases er)⟩
      cases es
      have hex : ∃ j, j < i ∧ bt (T i) j = true := Classical.byContradiction (fun q => cL ((low i hi).mpr (fun j hj hb => q ⟨j, hj, hb⟩)))
      have dn : ∀ u, u < n → (∃ j, j < i + 1 ∧ bt (T u) j = true) → ∃ j, j < i ∧ bt (T u) j = true := fun u hu ⟨j, hj, hb⟩ => by
        by_cases e : j = i
        · obtain ⟨j2, g1, g2⟩ := hex
          refine ⟨j2, g1, ?_⟩
          rw [(same u i hu hi).mp (e ▸ hb)]
          exact g2
        · exact ⟨j, by omega, hb⟩
      exact ⟨I1, a, fun u hu => ⟨fun q => (I2 u hu).1 (dn u hu q), fun q => (I2 u hu).2 (fun ⟨j, hj, hb⟩ => q ⟨j, by omega, hb⟩)⟩⟩)
  generalize hF : (fun (i : Nat) (s : zHp) => ((if (o_Mesh_isLowestOfNet h 3 (nI i)) = true then (if ((o_Planner_assigns s 3 (o_Mesh_netOf h 3 (nI i)) i).1) = true then .inl ((o_Planner_assigns s 3 (o_Mesh_netOf h 3 (nI i)) i).2) else .inr (false, ((o_Planner_assigns s 3 (o_Mesh_netOf h 3 (nI i)) i).2))) else .inl s) : (zHp) ⊕ (Bool × zHp))) = F at hX ⊢
  cases hz : zrex F (o_Arr_fill h 40 (-9)) n with
  | inl s =>
    obtain ⟨-, a, I2⟩ := hX.1 s hz
    refine ⟨fun _ => ⟨a, fun v hv => ((I2 v hv).1 ⟨v, hv, (G v hv).2.2⟩).1, fun v hv _ => ?_, fun b hb v _ hv _ hag => ?_⟩, fun q => absurd (show true = false from q) (by decide)⟩
    · have m := ((I2 v hv).1 ⟨v, hv, (G v hv).2.2⟩).2.1 v hv (G v hv).2.2
      exact ⟨m.1, fun u hu _ hbt => m.2 u hu ((q_nearNet R hv (by omega) hbt).2.2 _ (G v hv).1 (G v hv).2.2) hbt⟩
    · exact ((I2 v hv).1 ⟨v, hv, (G v hv).2.2⟩).2.2 b (fun w hw tw => ⟨(hb w hw rfl).1, fun u hu tu hbt => (hb w hw rfl).2 u hu rfl hbt⟩) v (Nat.zero_le v) hv (G v hv).2.2 (fun u hu _ => hag u hu rfl)
  | inr r =>
    obtain ⟨j0, j1⟩ := hX.2 r hz
    refine ⟨fun q => ?_, fun _ => j1⟩
    have q2 : r.1 = true := q
    rw [j0] at q2
    cases q2
theorem q_lay2 (R : zmr h 3 k 54 n (q_all n) K) : (o_Planner_succeeds h 3).1 = (o_Model_layPlan k).1 ∧ ((o_Model_layPlan k).1 = true → ∀ v, v < n → (o_Planner_succeeds h 3).2 40 v = (o_Model_layPlan k).2 69 v) := by
  have h8 := m_8 R
  obtain ⟨sT, sF⟩ := q_succ R
  have D2 := q_layNear (k := k) (r := 54) (those := o_Model_all k) (Or.inl rfl) R.1.2.1 h8
  have R2 := m_layNear (those := o_Model_all k) (Or.inl rfl) R
  rw [m_all R.1.2.1] at D2 R2
  obtain ⟨mT, mF⟩ := q_zpl (h0 := o_Model_layNear k 54 (q_all n)) h8 n 0 (zup (o_Model_layNear k 54 (q_all n)) 69 0 (-1)) (fun _ => 0) (by omega) (fun c i q => zup_fr (Or.inl q)) (fun i hi => absurd hi (Nat.not_lt_zero i)) (fun v hv _ => absurd hv (Nat.not_lt_zero v))
  have eP : o_Model_layPlan k = zpl n (zup (o_Model_layNear k 54 (q_all n)) 69 0 (-1)) 0 := by
    unfold o_Model_layPlan
    rw [R.1.2.1, zcn_nI (by omega), m_all R.1.2.1]
  rw [eP]
  have ePN : ∀ v, v < n → h 4 v = o_Model_layNear k 54 (q_all n) 53 v ∧ h 9 v = o_Model_layNear k 54 (q_all n) 66 v := fun v hv => ⟨(R2.1.2.2.2 v hv).1, m_near R2 D2 hv⟩
  generalize zpl n (zup (o_Model_layNear k 54 (q_all n)) 69 0 (-1)) 0 = r at mT mF ⊢
  generalize o_Planner_succeeds h 3 = q at sT sF ⊢
  cases hq : q.1 with
  | false =>
    cases hr : r.1 with
    | false => exact ⟨rfl, fun z => absurd z (by decide)⟩
    | true =>
      obtain ⟨a, -, -, a3⟩ := mT hr
      exact absurd (q_val_pN (fun v hv => ⟨(ePN v hv).1.symm, (ePN v hv).2.symm⟩) a3.1) (sF hq a)
  | true =>
    obtain ⟨b, b1, b2⟩ := sT hq
    cases hr : r.1 with
    | false => exact absurd (q_val_pN ePN b2.1) (mF hr b (fun i hi => absurd hi (Nat.not_lt_zero i)))
    | true =>
      obtain ⟨a, -, a2, a3⟩ := mT hr
      refine ⟨rfl, fun _ v hv => ?_⟩
      rw [b1 v hv, a2 v hv, q_min_one (q_min_pN ePN b2) a3 v hv rfl]
end ZS
section ZO
variable {K : Nat} {C M : zHp} {x y : Int64}
theorem op_plan (H : zREL K C M x y) (s : Int32) : (o_Slots_plan C s).1 = (o_Model_plan M s).1 ∧ zREL (K + 40) (o_Slots_plan C s).2 (o_Model_plan M s).2 x y := by
  refine ⟨?_, zREL_mono (by omega) (zREL_fr (fun c j q => ?_) (fun c j q => ?_) H)⟩
  · obtain ⟨n, R, -⟩ := H
    obtain ⟨e1, e2⟩ := q_lay2 R
    unfold o_Slots_plan o_Model_plan
    rw [e1, m_exE R]
    by_cases c1 : s = -1
    · rw [if_pos c1, if_pos c1]
    · rw [if_neg c1, if_neg c1]
      by_cases c2 : o_Model_isStation M s = true
      · rw [if_pos c2, if_pos c2]
        obtain ⟨v, hv, ev, zv⟩ := m_exT R c2
        dsimp only
        rw [zv]
        by_cases c3 : (o_Model_layPlan M).1 = true
        · rw [if_pos c3, if_pos c3, e2 c3 v hv]
        · rw [if_neg c3, if_neg c3]
      · rw [if_neg c2, if_neg c2]
  · unfold zscrC at q
    apply fr_Slots_plan <;> omega
  · unfold zscrM at q
    apply fr_Model_plan <;> omega
end ZO
