/-! join, which. -/
section ZO
variable {K : Nat} {C M : zHp} {x y : Int64}
/-- the step of the search for the least: ties stay -/
def q_bs (f : Nat → Int32) (d : Nat) (s : Int32 × Int32) : Int32 × Int32 := ((if s.2 ≤ f d then s.1 else nI d), (if s.2 ≤ f d then s.2 else f d))
theorem q_best {f : Nat → Int32} (h0 : ∃ m, m ≤ 64 ∧ f 0 = nI m) : zrep (q_bs f) (0, 1000) 8 = zrep (fun d s => q_bs f (1 + d) s) (0, f 0) 7 := by
  rw [zrep_head 7]
  congr 1
  obtain ⟨m, hm, e⟩ := h0
  unfold q_bs
  rw [e, if_neg (show ¬ (1000 : Int32) ≤ nI m from nI_ge (a := m) (b := 1000) (by omega) (by omega)), if_neg (show ¬ (1000 : Int32) ≤ nI m from nI_ge (a := m) (b := 1000) (by omega) (by omega))]
  rfl
theorem m_best {n : Nat} (R : zmr C 3 M 54 n (q_all n) K) {set : Int32} : (zrep (fun (i12_3 : Nat) (s12_3 : Int32 × Int32 × zHp) => ((if s12_3.2.1 ≤ ((o_Slots_conflictsAfter s12_3.2.2 set (nI (1 + i12_3))).1) then s12_3.1 else (nI (1 + i12_3))), (if s12_3.2.1 ≤ ((o_Slots_conflictsAfter s12_3.2.2 set (nI (1 + i12_3))).1) then s12_3.2.1 else ((o_Slots_conflictsAfter s12_3.2.2 set (nI (1 + i12_3))).1)), ((o_Slots_conflictsAfter s12_3.2.2 set (nI (1 + i12_3))).2))) (0, ((o_Slots_conflictsAfter C set 0).1), ((o_Slots_conflictsAfter C set 0).2)) 7).1 = (zrep (fun (i131_8 : Nat) (s131_8 : Int32 × Int32 × zHp) => ((if s131_8.2.1 ≤ ((o_Model_clashes (o_Model_shiftOf (o_Model_copy s131_8.2.2 54 56) 56 set (nI i131_8)) 56).1) then s131_8.1 else (nI i131_8)), (if s131_8.2.1 ≤ ((o_Model_clashes (o_Model_shiftOf (o_Model_copy s131_8.2.2 54 56) 56 set (nI i131_8)) 56).1) then s131_8.2.1 else ((o_Model_clashes (o_Model_shiftOf (o_Model_copy s131_8.2.2 54 56) 56 set (nI i131_8)) 56).1)), ((o_Model_clashes (o_Model_shiftOf (o_Model_copy s131_8.2.2 54 56) 56 set (nI i131_8)) 56).2))) (0, 1000, M) 8).1 := by
  have h8 := m_8 R
  -- both loops compute the same numbers
  have cfr : ∀ (s : zHp) (d : Int32) c j, (c < 27 ∨ 38 < c) → (o_Slots_conflictsAfter s set d).2 c j = s c j := fun s d c j q => by apply fr_Slots_conflictsAfter <;> omega
  have mfr : ∀ (t : zHp) (d : Int32) c j, c ≠ 56 → ¬ (c = 51 ∧ j = 9) → c ≠ 66 → (o_Model_clashes (o_Model_shiftOf (o_Model_copy t 54 56) 56 set d) 56).2 c j = t c j := fun t d c j q1 q2 q3 => (fr_Model_clashes _ _ q2 q3).trans ((fr_Model_shiftOf _ _ q1).trans (fr_Model_copy _ _ q1))
  have RC : ∀ s t : zHp, (∀ c j, (c < 27 ∨ 38 < c) → s c j = C c j) → (∀ c j, c ≠ 56 → ¬ (c = 51 ∧ j = 9) → c ≠ 66 → t c j = M c j) → zmr s 3 t 54 n (q_all n) K := fun s t hs ht => zmr_frM (ht _ _ (by omega) (by omega) (by omega)) (fun v _ => ht _ _ (by omega) (by omega) (by omega)) (fun v _ => ⟨ht _ _ (by omega) (by omega) (by omega), ht _ _ (by omega) (by omega) (by omega), ht _ _ (by omega) (by omega) (by omega)⟩) (ht _ _ (by omega) (by omega) (by omega)) (zmr_frC (fun j hj => hs _ _ (by omega)) (fun i v h1 h2 => hs _ _ (by omega)) R)
  have val : ∀ s t : zHp, (∀ c j, (c < 27 ∨ 38 < c) → s c j = C c j) → (∀ c j, c ≠ 56 → ¬ (c = 51 ∧ j = 9) → c ≠ 66 → t c j = M c j) → ∀ d, d < 8 → (o_Slots_conflictsAfter s set (nI d)).1 = (o_Slots_conflictsAfter C set (nI d)).1 ∧ (o_Model_clashes (o_Model_shiftOf (o_Model_copy t 54 56) 56 set (nI d)) 56).1 = (o_Slots_conflictsAfter C set (nI d)).1 := fun s t hs ht d hd => by
    have e1 := m_after (RC s M hs (fun _ _ _ _ _ => rfl)) (set := set) (d := nI d) rfl hd
    have e2 := m_after R (set := set) (d := nI d) rfl hd
    have e3 := m_after (RC C t (fun _ _ _ => rfl) ht) (set := set) (d := nI d) rfl hd
    exact ⟨e1.trans e2.symm, e3.symm⟩
  have f0 : ∃ m, m ≤ 64 ∧ (o_Slots_conflictsAfter C set (nI 0)).1 = nI m := by
    unfold o_Slots_conflictsAfter
    dsimp only
    refine q_conf_small (n := n) ?_ h8
    rw [fr_Mesh_moveAll _ _ (by omega) (by omega) (by omega) (by omega), (q_copyFrom (h := C) (b := 27) (o := 3) (by omega) (by omega) (by decide)).1.1]
    exact R.1.1
  have A := q_rel (fun i (s : Int32 × Int32 × zHp) (t : Int32 × Int32) => s.1 = t.1 ∧ s.2.1 = t.2 ∧ ∀ c j, (c < 27 ∨ 38 < c) → s.2.2 c j = C c j) (f := fun (i12_3 : Nat) (s12_3 : Int32 × Int32 × zHp) => ((if s12_3.2.1 ≤ ((o_Slots_conflictsAfter s12_3.2.2 set (nI (1 + i12_3))).1) then s12_3.1 else (nI (1 + i12_3))), (if s12_3.2.1 ≤ ((o_Slots_conflictsAfter s12_3.2.2 set (nI (1 + i12_3))).1) then s12_3.2.1 else ((o_Slots_conflictsAfter s12_3.2.2 set (nI (1 + i12_3))).1)), ((o_Slots_conflictsAfter s12_3.2.2 set (nI (1 + i12_3))).2))) (g := fun d s => q_bs (fun d => (o_Slots_conflictsAfter C set (nI d)).1) (1 + d) s) (a := (0, ((o_Slots_conflictsAfter C set 0).1), ((o_Slots_conflictsAfter C set 0).2))) (b := (0, (o_Slots_conflictsAfter C set (nI 0)).1)) 7 ⟨rfl, rfl, fun c j q => cfr C 0 c j q⟩ (fun i s t hi hI => by
    obtain ⟨I1, I2, I3⟩ := hI
    have v := (val s.2.2 M I3 (fun _ _ _ _ _ => rfl) (1 + i) (by omega)).1
    unfold q_bs
    dsimp only
    rw [v, I1, I2]
    exact ⟨rfl, rfl, fun c j q => (cfr _ _ c j q).trans (I3 c j q)⟩)
  have B := q_rel (fun i (s : Int32 × Int32 × zHp) (t : Int32 × Int32) => s.1 = t.1 ∧ s.2.1 = t.2 ∧ ∀ c j, c ≠ 56 → ¬ (c = 51 ∧ j = 9) → c ≠ 66 → s.2.2 c j = M c j) (f := fun (i131_8 : Nat) (s131_8 : Int32 × Int32 × zHp) => ((if s131_8.2.1 ≤ ((o_Model_clashes (o_Model_shiftOf (o_Model_copy s131_8.2.2 54 56) 56 set (nI i131_8)) 56).1) then s131_8.1 else (nI i131_8)), (if s131_8.2.1 ≤ ((o_Model_clashes (o_Model_shiftOf (o_Model_copy s131_8.2.2 54 56) 56 set (nI i131_8)) 56).1) then s131_8.2.1 else ((o_Model_clashes (o_Model_shiftOf (o_Model_copy s131_8.2.2 54 56) 56 set (nI i131_8)) 56).1)), ((o_Model_clashes (o_Model_shiftOf (o_Model_copy s131_8.2.2 54 56) 56 set (nI i131_8)) 56).2))) (g := q_bs (fun d => (o_Slots_conflictsAfter C set (nI d)).1)) (a := ((0 : Int32), (1000 : Int32), M)) (b := ((0 : Int32), (1000 : Int32))) 8 ⟨rfl, rfl, fun c j _ _ _ => rfl⟩ (fun i s t hi hI => by
    obtain ⟨I1, I2, I3⟩ := hI
    have v := (val C s.2.2 (fun _ _ _ => rfl) I3 i (by omega)).2
    unfold q_bs
    dsimp only
    rw [v, I1, I2]
    exact ⟨rfl, rfl, fun c j q1 q2 q3 => (mfr _ _ c j q1 q2 q3).trans (I3 c j q1 q2 q3)⟩)
  rw [A.1, B.1, q_best f0]
theorem m_best_lt {set : Int32} : ∃ e, e < 8 ∧ (zrep (fun (i131_8 : Nat) (s131_8 : Int32 × Int32 × zHp) => ((if s131_8.2.1 ≤ ((o_Model_clashes (o_Model_shiftOf (o_Model_copy s131_8.2.2 54 56) 56 set (nI i131_8)) 56).1) then s131_8.1 else (nI i131_8)), (if s131_8.2.1 ≤ ((o_Model_clashes (o_Model_shiftOf (o_Model_copy s131_8.2.2 54 56) 56 set (nI i131_8)) 56).1) then s131_8.2.1 else ((o_Model_clashes (o_Model_shiftOf (o_Model_copy s131_8.2.2 54 56) 56 set (nI i131_8)) 56).1)), ((o_Model_clashes (o_Model_shiftOf (o_Model_copy s131_8.2.2 54 56) 56 set (nI i131_8)) 56).2))) (0, 1000, M) 8).1 = nI e := by
  refine zrep_inv (fun i (s : Int32 × Int32 × zHp) => ∃ e, e < 8 ∧ s.1 = nI e) 8 ⟨0, by omega, rfl⟩ (fun i s hi hI => ?_)
  dsimp only
  by_cases c : s.2.1 ≤ (o_Model_clashes (o_Model_shiftOf (o_Model_copy s.2.2 54 56) 56 set (nI i)) 56).1
  · rw [if_pos c]
    exact hI
  · rw [if_neg c]
    exact ⟨i, hi, rfl⟩
theorem op_join (H : zREL K C M x y) (hK : K < 2 ^ 17) (i j : Int32) : (o_Slots_join C i j).1 = (o_Model_join M i j).1 ∧ zREL (K + 40) (o_Slots_join C i j).2 (o_Model_join M i j).2 x y := by
  obtain ⟨n, R, h2, h3, h4, h5, h6, h7⟩ := id H
  have h8 := m_8 R
  unfold o_Slots_join o_Model_join
  rcases q_pairE R (i := i) (j := j) with ⟨c1, c2, c3, e⟩ | ⟨c1, c2, c3, e⟩ | ⟨c1, e⟩
  · rw [e, if_pos rfl, if_pos c1, if_pos c2, if_neg c3]
    obtain ⟨a, ha, ea, za⟩ := m_exT R c1
    obtain ⟨b, hb, eb, zb'⟩ := m_exT R c2
    have hab : a ≠ b := fun q => c3 (by rw [ea, eb, q])
    rw [za, zb']
    have na : o_Mesh_netOf C 3 i = q_net (fun e => M 54 (16 + e)) n a := by rw [ea]; exact m_net R ha
    have nb : o_Mesh_netOf C 3 j = q_net (fun e => M 54 (16 + e)) n b := by rw [eb]; exact m_net R hb
    have ma : o_Model_netOf M 54 i = q_net (fun e => M 54 (16 + e)) n a := by rw [ea]; exact m_netM R.1.2.1 h8
    have mb : o_Model_netOf M 54 j = q_net (fun e => M 54 (16 + e)) n b := by rw [eb]; exact m_netM R.1.2.1 h8
    rw [na, nb, ma, mb, eb, q_has (by omega)]
    have same := q_net_same h8 (m_lks R) (m_lsym R) ha hb
    by_cases c4 : bt (q_net (fun e => M 54 (16 + e)) n a) b = true
    · rw [if_pos c4, if_pos (same.mp c4)]
      exact ⟨rfl, zREL_same H⟩
    · rw [if_neg c4, if_neg (fun q => c4 (same.mpr q))]
      obtain ⟨-, ga, sa, -⟩ := q_net_G h8 (m_lks R) ha
      obtain ⟨-, gb, sb, -⟩ := q_net_G h8 (m_lks R) hb
      rw [q_goes (a := q_net (fun e => M 54 (16 + e)) n a) (b := q_net (fun e => M 54 (16 + e)) n b) h8 ga gb sa sb]
      generalize hset : (if (o_Model_ones (q_net (fun e => M 54 (16 + e)) n a)) < (o_Model_ones (q_net (fun e => M 54 (16 + e)) n b)) then (q_net (fun e => M 54 (16 + e)) n a) else (if (o_Model_ones (q_net (fun e => M 54 (16 + e)) n a)) = (o_Model_ones (q_net (fun e => M 54 (16 + e)) n b)) then (if (o_Model_leastOf (q_net (fun e => M 54 (16 + e)) n a)) ≤ (o_Model_leastOf (q_net (fun e => M 54 (16 + e)) n b)) then (q_net (fun e => M 54 (16 + e)) n b) else (q_net (fun e => M 54 (16 + e)) n a)) else (q_net (fun e => M 54 (16 + e)) n b))) = set
      have R2 := m_flip (m_noteR R) (Or.inl rfl) (by omega) ha hb hab
      have hbest := m_best R2 (set := set)
      have hlt := m_best_lt (M := o_Model_turnOf (o_Model_dropOld (o_Model_note M) 54) 54 a b) (set := set)
      have ko : ∀ v, v < n → o_Model_turnOf (o_Model_dropOld (o_Model_note M) 54) 54 a b 54 (8 + v) = -9 := fun v hv => by
        rw [q_turnOf hab, if_neg (by omega), if_neg (by omega), q_dropOldM, if_pos ⟨rfl, by omega, by omega⟩]
      unfold o_Slots_bestDistance
      dsimp only
      rw [hbest]
      -- what the loops leave
      have LC := zrep_inv (f := (fun (i12_3 : Nat) (s12_3 : Int32 × Int32 × zHp) => ((if s12_3.2.1 ≤ ((o_Slots_conflictsAfter s12_3.2.2 set (nI (1 + i12_3))).1) then s12_3.1 else (nI (1 + i12_3))), (if s12_3.2.1 ≤ ((o_Slots_conflictsAfter s12_3.2.2 set (nI (1 + i12_3))).1) then s12_3.2.1 else ((o_Slots_conflictsAfter s12_3.2.2 set (nI (1 + i12_3))).1)), ((o_Slots_conflictsAfter s12_3.2.2 set (nI (1 + i12_3))).2)))) (a := (0, ((o_Slots_conflictsAfter (o_Mesh_flipLink (o_Acts_remember C 3) 3 a b) set 0).1), ((o_Slots_conflictsAfter (o_Mesh_flipLink (o_Acts_remember C 3) 3 a b) set 0).2))) (fun _ s => ∀ c j, (c < 27 ∨ 38 < c) → s.2.2 c j = o_Mesh_flipLink (o_Acts_remember C 3) 3 a b c j) 7 (fun c j q => by dsimp only; apply fr_Slots_conflictsAfter <;> omega) (fun i s hi hI c j q => by
        dsimp only
        refine Eq.trans ?_ (hI c j q)
        apply fr_Slots_conflictsAfter <;> omega)
      have LM := zrep_inv (f := (fun (i131_8 : Nat) (s131_8 : Int32 × Int32 × zHp) => ((if s131_8.2.1 ≤ ((o_Model_clashes (o_Model_shiftOf (o_Model_copy s131_8.2.2 54 56) 56 set (nI i131_8)) 56).1) then s131_8.1 else (nI i131_8)), (if s131_8.2.1 ≤ ((o_Model_clashes (o_Model_shiftOf (o_Model_copy s131_8.2.2 54 56) 56 set (nI i131_8)) 56).1) then s131_8.2.1 else ((o_Model_clashes (o_Model_shiftOf (o_Model_copy s131_8.2.2 54 56) 56 set (nI i131_8)) 56).1)), ((o_Model_clashes (o_Model_shiftOf (o_Model_copy s131_8.2.2 54 56) 56 set (nI i131_8)) 56).2)))) (a := ((0 : Int32), (1000 : Int32), o_Model_turnOf (o_Model_dropOld (o_Model_note M) 54) 54 a b)) (fun _ s => ∀ c j, c ≠ 56 → ¬ (c = 51 ∧ j = 9) → c ≠ 66 → s.2.2 c j = o_Model_turnOf (o_Model_dropOld (o_Model_note M) 54) 54 a b c j) 8 (fun c j _ _ _ => rfl) (fun i s hi hI c j q1 q2 q3 => by
        dsimp only
        exact ((fr_Model_clashes _ _ q2 q3).trans ((fr_Model_shiftOf _ _ q1).trans (fr_Model_copy _ _ q1))).trans (hI c j q1 q2 q3))
      generalize (zrep (fun (i131_8 : Nat) (s131_8 : Int32 × Int32 × zHp) => ((if s131_8.2.1 ≤ ((o_Model_clashes (o_Model_shiftOf (o_Model_copy s131_8.2.2 54 56) 56 set (nI i131_8)) 56).1) then s131_8.1 else (nI i131_8)), (if s131_8.2.1 ≤ ((o_Model_clashes (o_Model_shiftOf (o_Model_copy s131_8.2.2 54 56) 56 set (nI i131_8)) 56).1) then s131_8.2.1 else ((o_Model_clashes (o_Model_shiftOf (o_Model_copy s131_8.2.2 54 56) 56 set (nI i131_8)) 56).1)), ((o_Model_clashes (o_Model_shiftOf (o_Model_copy s131_8.2.2 54 56) 56 set (nI i131_8)) 56).2))) (0, 1000, o_Model_turnOf (o_Model_dropOld (o_Model_note M) 54) 54 a b) 8) = lm at hlt LM ⊢
      generalize (zrep (fun (i12_3 : Nat) (s12_3 : Int32 × Int32 × zHp) => ((if s12_3.2.1 ≤ ((o_Slots_conflictsAfter s12_3.2.2 set (nI (1 + i12_3))).1) then s12_3.1 else (nI (1 + i12_3))), (if s12_3.2.1 ≤ ((o_Slots_conflictsAfter s12_3.2.2 set (nI (1 + i12_3))).1) then s12_3.2.1 else ((o_Slots_conflictsAfter s12_3.2.2 set (nI (1 + i12_3))).1)), ((o_Slots_conflictsAfter s12_3.2.2 set (nI (1 + i12_3))).2))) (0, ((o_Slots_conflictsAfter (o_Mesh_flipLink (o_Acts_remember C 3) 3 a b) set 0).1), ((o_Slots_conflictsAfter (o_Mesh_flipLink (o_Acts_remember C 3) 3 a b) set 0).2)) 7) = lc at LC ⊢
      obtain ⟨e, he, ee⟩ := hlt
      rw [ee]
      refine ⟨rfl, ?_⟩
      have R3 : zmr lc.2.2 3 lm.2.2 54 n (q_all n) K := zmr_frM (LM _ _ (by omega) (by omega) (by omega)) (fun v _ => LM _ _ (by omega) (by omega) (by omega)) (fun v _ => ⟨LM _ _ (by omega) (by omega) (by omega), LM _ _ (by omega) (by omega) (by omega), LM _ _ (by omega) (by omega) (by omega)⟩) (LM _ _ (by omega) (by omega) (by omega)) (zmr_frC (fun j hj => LC _ _ (by omega)) (fun i v h1 h2 => LC _ _ (by omega)) R2)
      have R4 := m_move R3 (Or.inl rfl) (set := set) (d := nI e) rfl he
      have s1 := q_shiftOf (k := o_Model_dropOld lm.2.2 54) (r := 54) (net := set) (d := nI e) (Or.inl rfl) (by rw [q_dropOldM, if_neg (by omega)]; exact R3.1.2.1) h8
      have s2 := q_shiftOf (k := lm.2.2) (r := 54) (net := set) (d := nI e) (Or.inl rfl) R3.1.2.1 h8
      have g : ∀ c j, ¬ (c = 54 ∧ 8 ≤ j ∧ j < 16) → o_Model_dropOld lm.2.2 54 c j = lm.2.2 c j := fun c j q => by rw [q_dropOldM, if_neg q]
      have eqv : ∀ c j, ¬ (c = 54 ∧ 8 ≤ j ∧ j < 16) → o_Model_shiftOf lm.2.2 54 set (nI e) c j = o_Model_shiftOf (o_Model_dropOld lm.2.2 54) 54 set (nI e) c j := fun c j q => by
        rw [s1, s2]
        by_cases a1 : c = 54 ∧ j < n
        · rw [if_pos a1, if_pos a1]
          unfold q_sh
          rw [g 54 j (by omega), g 53 j (by omega)]
        · rw [if_neg a1, if_neg a1, g _ _ q]
      have R5 : zmr (o_Mesh_moveAll lc.2.2 3 set (nI e)) 3 (o_Model_shiftOf lm.2.2 54 set (nI e)) 54 n (q_all n) K := zmr_frM (eqv _ _ (by omega)) (fun v _ => eqv _ _ (by omega)) (fun v hv => ⟨eqv _ _ (by omega), by rw [s1, if_neg (by omega), q_dropOldM, if_pos ⟨rfl, by omega, by omega⟩, s2, if_neg (by omega), LM _ _ (by omega) (by omega) (by omega), ko v hv], eqv _ _ (by omega)⟩) (eqv _ _ (by omega)) R4
      refine zREL_act (K2 := K + 40) (by omega) R h2 h3 h4 h5 h6 h7 (zmr_mono (K := K) (by omega) R5) (fun c j q1 q2 => ?_) (fun c j q1 q2 => ?_)
      · unfold zscrC at q1
        rw [fr_Mesh_moveAll _ _ (by omega) (by omega) (by omega) (by omega), LC _ _ (by omega)]
        exact fr_Mesh_flipLink _ _ (by omega) (by omega) (by omega) (by omega) (by omega) (by omega) (by omega)
      · unfold zscrM at q1
        rw [fr_Model_shiftOf _ _ (by omega), LM _ _ (by omega) (by omega) (by omega)]
        exact (fr_Model_turnOf _ _ (by omega)).trans (fr_Model_dropOld _ _ (by omega))
  · rw [e, if_neg (by decide), if_pos c1, if_pos c2, if_pos c3]
    exact ⟨rfl, zREL_same H⟩
  · rw [e, if_neg (by decide)]
    by_cases d1 : o_Model_isStation M i = true
    · rw [if_pos d1, if_neg (fun q => c1 ⟨d1, q⟩)]
      exact ⟨rfl, zREL_same H⟩
    · rw [if_neg d1]
      exact ⟨rfl, zREL_same H⟩
end ZO
