/-! What a text describes, while it is read: the reference's rows of it, looked at as a row of the field. -/
def q_vh (t : zHp) : zHp := fun c j => if c = 53 then t 63 j else if c = 54 then (if j < 8 then t 64 j else if j < 16 then -9 else if j < 24 then t 65 (j - 16) else 0) else if c = 51 ∧ j = 1 then t 51 5 else t c j
def q_rd (s t : zHp) (n : Nat) : Prop := zmr s 15 (q_vh t) 54 n (q_all n) 0
theorem v_cnt (t : zHp) : q_vh t 51 1 = t 51 5 := rfl
theorem v_prd (t : zHp) (v : Nat) : q_vh t 53 v = t 63 v := rfl
theorem v_rnd (t : zHp) : q_vh t 54 24 = 0 := rfl
theorem v_off (t : zHp) {v : Nat} (hv : v < 8) : q_vh t 54 v = t 64 v := by
  unfold q_vh
  rw [if_neg (by decide), if_pos rfl, if_pos hv]
theorem v_old (t : zHp) {v : Nat} (hv : v < 8) : q_vh t 54 (8 + v) = -9 := by
  unfold q_vh
  rw [if_neg (by decide), if_pos rfl, if_neg (by omega), if_pos (by omega)]
theorem v_lnk (t : zHp) {v : Nat} (hv : v < 8) : q_vh t 54 (16 + v) = t 65 v := by
  unfold q_vh
  rw [if_neg (by decide), if_pos rfl, if_neg (by omega), if_neg (by omega), if_pos (by omega), show 16 + v - 16 = v by omega]
theorem rd_n {s t : zHp} {n : Nat} (R : q_rd s t n) : s 15 0 = nI n ∧ t 51 5 = nI n ∧ n ≤ 8 := ⟨R.1.1, R.1.2.1, m_8 R⟩
theorem rd_row {s t : zHp} {n : Nat} (R : q_rd s t n) {v : Nat} (hv : v < n) : s 16 v = t 63 v ∧ s 17 v = t 65 v ∧ s 18 v = t 64 v ∧ s 19 v = -9 ∧ zprd (t 63 v) ∧ s 20 v = zpat (t 63 v) := by
  have h8 := m_8 R
  obtain ⟨a1, a2, a3⟩ := m_rowAll R hv
  obtain ⟨b1, b2, b3⟩ := R.1.2.2.2 v hv
  rw [v_lnk t (by omega)] at a1
  rw [v_off t (by omega)] at a2
  rw [v_old t (by omega)] at a3
  exact ⟨b1, a1, a2, a3, b2, b3⟩
theorem q_pat {p : Int32} (hp : zprd p) : zrep (fun i (s : Int32) => if nI i &&& (p - 1) = 0 then s ||| zshl 1 (nI i) else s) 0 8 = zpat p := by
  rcases hp with rfl | rfl | rfl <;> decide +kernel
theorem m_add {s t t3 : zHp} {n : Nat} (R : q_rd s t n) (hn : n < 8) {p o : Int32} (hp : zprd p) (ho : zoff p o) (c : t3 51 5 = nI (n + 1)) (e1 : ∀ v, v < n → t3 63 v = t 63 v ∧ t3 64 v = t 64 v ∧ t3 65 v = t 65 v) (e2 : t3 63 n = p ∧ t3 64 n = o ∧ t3 65 n = 0) : q_rd (o_Mesh_add s 15 p o) t3 (n + 1) := by
  have hz : zcn (s 15 0) = n := by rw [(rd_n R).1, zcn_nI (by omega)]
  have hlt : s 15 0 < 8 := by
    rw [(rd_n R).1]
    exact nI_lt (a := n) (b := 8) hn (by omega)
  unfold o_Mesh_add
  rw [if_pos hlt, hz]
  have L := q_rel (fun _ (a : zHp) (b : Int32) => a 20 n = b ∧ ∀ c j, ¬ (c = 20 ∧ j = n) → a c j = zup s 16 n p c j) (f := fun (i : Nat) (a : zHp) => if (o_Mesh_wrapped (zup s (15 + 1) n p) 15 n (nI i)) = 0 then (zup a (15 + 5) n ((a (15 + 5) n) ||| (zshl 1 (nI i)))) else a) (g := fun i (b : Int32) => if nI i &&& (p - 1) = 0 then b ||| zshl 1 (nI i) else b) (a := zup (zup s (15 + 1) n p) (15 + 5) n 0) (b := 0) 8 ⟨zup_at, fun c j q => zup_fr (by omega)⟩ (fun i a b hi hI => by
    obtain ⟨I1, I2⟩ := hI
    have ew : o_Mesh_wrapped (zup s (15 + 1) n p) 15 n (nI i) = nI i &&& (p - 1) := by
      unfold o_Mesh_wrapped
      rw [zup_at]
    rw [ew]
    by_cases cc : nI i &&& (p - 1) = 0
    · rw [if_pos cc, if_pos cc]
      exact ⟨zup_at.trans (by rw [I1]), fun c j q => (zup_fr (by omega)).trans (I2 c j q)⟩
    · rw [if_neg cc, if_neg cc]
      exact ⟨I1, I2⟩)
  rw [q_pat hp] at L
  obtain ⟨L1, L2⟩ := L
  generalize zrep (fun (i : Nat) (a : zHp) => if (o_Mesh_wrapped (zup s (15 + 1) n p) 15 n (nI i)) = 0 then (zup a (15 + 5) n ((a (15 + 5) n) ||| (zshl 1 (nI i)))) else a) (zup (zup s (15 + 1) n p) (15 + 5) n 0) 8 = a at L1 L2 ⊢
  have h1 : ∀ c j, zup (zup (zup a (15 + 2) n 0) (15 + 3) n o) 15 0 (s 15 0 + 1) c j = if c = 15 ∧ j = 0 then nI (n + 1) else if c = 16 ∧ j = n then p else if c = 17 ∧ j = n then 0 else if c = 18 ∧ j = n then o else if c = 20 ∧ j = n then zpat p else s c j := fun c j => by
    by_cases q1 : c = 15 ∧ j = 0
    · obtain ⟨rfl, rfl⟩ := q1
      rw [zup_at, if_pos ⟨rfl, rfl⟩, (rd_n R).1, nI_1]
    · rw [zup_fr (by omega), if_neg q1]
      by_cases q2 : c = 18 ∧ j = n
      · obtain ⟨rfl, rfl⟩ := q2
        rw [zup_at, if_neg (by omega), if_neg (by omega), if_pos ⟨rfl, rfl⟩]
      · rw [zup_fr (by omega)]
        by_cases q3 : c = 17 ∧ j = n
        · obtain ⟨rfl, rfl⟩ := q3
          rw [zup_at, if_neg (by omega), if_pos ⟨rfl, rfl⟩]
        · rw [zup_fr (by omega)]
          by_cases q4 : c = 20 ∧ j = n
          · obtain ⟨rfl, rfl⟩ := q4
            rw [L1, if_neg (by omega), if_neg (by omega), if_neg (by omega), if_pos ⟨rfl, rfl⟩]
          · rw [L2 c j q4]
            by_cases q5 : c = 16 ∧ j = n
            · obtain ⟨rfl, rfl⟩ := q5
              rw [zup_at, if_pos ⟨rfl, rfl⟩]
            · rw [zup_fr (by omega), if_neg q5, if_neg q3, if_neg q2, if_neg q4]
  generalize zup (zup (zup a (15 + 2) n 0) (15 + 3) n o) 15 0 (s 15 0 + 1) = b at h1 ⊢
  clear L1 L2 a
  have bc : b 15 0 = nI (n + 1) := by rw [h1, if_pos ⟨rfl, rfl⟩]
  have br : b 15 1 = nI 0 := by
    rw [h1, if_neg (by omega), if_neg (by omega), if_neg (by omega), if_neg (by omega), if_neg (by omega), R.2.1.1, v_rnd]
    rfl
  have bo : ∀ v, v < n → ∀ c, 15 < c → b c v = s c v := fun v hv c hc => by
    rw [h1, if_neg (by omega), if_neg (by omega), if_neg (by omega), if_neg (by omega), if_neg (by omega)]
  have bn : b 16 n = p ∧ b 17 n = 0 ∧ b 18 n = o ∧ b 20 n = zpat p := by
    refine ⟨?_, ?_, ?_, ?_⟩ <;> rw [h1]
    · rw [if_neg (by omega), if_pos ⟨rfl, rfl⟩]
    · rw [if_neg (by omega), if_neg (by omega), if_pos ⟨rfl, rfl⟩]
    · rw [if_neg (by omega), if_neg (by omega), if_neg (by omega), if_pos ⟨rfl, rfl⟩]
    · rw [if_neg (by omega), if_neg (by omega), if_neg (by omega), if_neg (by omega), if_pos ⟨rfl, rfl⟩]
  have zo : ∀ v, v < n → zoff (t 63 v) (t 64 v) := fun v hv => by
    have q := (R.2.2.2.1 v hv).1
    rw [v_off t (by omega)] at q
    exact q
  have bp : ∀ v, v < n + 1 → zprd (b (15 + 1) v) ∧ b (15 + 5) v = zpat (b (15 + 1) v) ∧ zoff (b (15 + 1) v) (b (15 + 3) v) := fun v hv => by
    by_cases ev : v = n
    · subst ev
      rw [show 15 + 1 = 16 from rfl, show 15 + 5 = 20 from rfl, show 15 + 3 = 18 from rfl, bn.1, bn.2.2.1, bn.2.2.2]
      exact ⟨hp, rfl, ho⟩
    · have hv2 : v < n := by omega
      obtain ⟨r1, -, r3, -, r5, r6⟩ := rd_row R hv2
      rw [show 15 + 1 = 16 from rfl, show 15 + 5 = 20 from rfl, show 15 + 3 = 18 from rfl, bo v hv2 16 (by omega), bo v hv2 18 (by omega), bo v hv2 20 (by omega), r1, r3, r6]
      exact ⟨r5, rfl, zo v hv2⟩
  obtain ⟨d1, d2⟩ := q_drop (h := b) (b := 15) bc (by omega) bp
  have dc : o_Mesh_dropOlds b 15 15 0 = nI (n + 1) := (fr_Mesh_dropOlds _ _ (by omega) (by omega) (by omega)).trans bc
  have dr : o_Mesh_dropOlds b 15 15 1 = nI 0 := (fr_Mesh_dropOlds _ _ (by omega) (by omega) (by omega)).trans br
  have N := q_relate (h := o_Mesh_dropOlds b 15) (b := 15) dc (by omega) dr (by omega)
  have f : ∀ c q, c ≠ 19 → c ≠ 21 → c ≠ 22 → c ≠ 23 → c ≠ 24 → c ≠ 25 → o_Mesh_relate (o_Mesh_dropOlds b 15) 15 c q = b c q := fun c q q0 q1 q2 q3 q4 q5 => (fr_Mesh_relate _ _ q1 q2 q3).trans (fr_Mesh_dropOlds _ _ q0 q4 q5)
  have T : y_cT (o_Mesh_relate (o_Mesh_dropOlds b 15) 15) 15 (n + 1) := y_cT_fr (fun v => fr_Mesh_relate _ _ (by omega) (by omega) (by omega)) (fun v => fr_Mesh_relate _ _ (by omega) (by omega) (by omega)) (fun v => fr_Mesh_relate _ _ (by omega) (by omega) (by omega)) (fun v => fr_Mesh_relate _ _ (by omega) (by omega) (by omega)) (fun v => fr_Mesh_relate _ _ (by omega) (by omega) (by omega)) d1
  have O : ∀ v, v < n + 1 → o_Mesh_relate (o_Mesh_dropOlds b 15) 15 19 v = -9 := fun v hv => (fr_Mesh_relate _ _ (by omega) (by omega) (by omega)).trans (d2 v hv)
  -- the links of the new row
  have kl : ∀ v, v < n → t3 65 v = t 65 v := fun v hv => (e1 v hv).2.2
  have ln : ∀ v, v < n → (∀ i, n ≤ i → i < 32 → bt (t 65 v) i = false) ∧ bt (t 65 v) v = false ∧ ∀ u, u < n → bt (t 65 v) u = bt (t 65 u) v := fun v hv => by
    obtain ⟨l1, l2, l3⟩ := R.2.2.2.2.1 v hv
    rw [v_lnk t (by omega)] at l1 l2
    refine ⟨l1, l2, fun u hu => ?_⟩
    have l4 := l3 u hu
    rw [v_lnk t (by omega), v_lnk t (by omega)] at l4
    exact l4
  have hl : y_lnk (q_vh t3) 54 (n + 1) := fun v hv => by
    rw [v_lnk t3 (by omega)]
    by_cases ev : v = n
    · subst ev
      rw [e2.2.2]
      refine ⟨fun i _ _ => b_0 i, b_0 _, fun u hu => ?_⟩
      rw [v_lnk t3 (by omega), b_0]
      by_cases eu : u = v
      · rw [eu, e2.2.2, b_0]
      · rw [kl u (by omega), (ln u (by omega)).1 v (by omega) (by omega)]
    · have hv2 : v < n := by omega
      rw [kl v hv2]
      refine ⟨fun i i1 i2 => (ln v hv2).1 i (by omega) i2, (ln v hv2).2.1, fun u hu => ?_⟩
      rw [v_lnk t3 (by omega)]
      by_cases eu : u = n
      · rw [eu, e2.2.2, b_0, (ln v hv2).1 n (by omega) (by omega)]
      · rw [kl u (by omega)]
        exact (ln v hv2).2.2 u (by omega)
  refine ⟨⟨(f _ _ (by omega) (by omega) (by omega) (by omega) (by omega) (by omega)).trans bc, (v_cnt t3).trans c, by omega, fun v hv => ?_⟩, ⟨?_, ⟨0, by omega, v_rnd t3⟩⟩, fun v hv => ⟨fun _ => ?_, fun q => ?_⟩, fun v hv => ?_, hl, y_on_all (by omega), N, T⟩
  · rw [v_prd, f _ _ (by omega) (by omega) (by omega) (by omega) (by omega) (by omega), f _ _ (by omega) (by omega) (by omega) (by omega) (by omega) (by omega), show 15 + 1 = 16 from rfl, show 15 + 5 = 20 from rfl]
    obtain ⟨b1, b2, b3⟩ := bp v hv
    have e : b 16 v = t3 63 v := by
      by_cases ev : v = n
      · rw [ev, bn.1, e2.1]
      · rw [bo v (by omega) 16 (by omega), (e1 v (by omega)).1, (rd_row R (v := v) (by omega)).1]
    exact ⟨e, e ▸ b1, b2.trans (by rw [show 15 + 1 = 16 from rfl, e])⟩
  · rw [f _ _ (by omega) (by omega) (by omega) (by omega) (by omega) (by omega), br, v_rnd]
    rfl
  · rw [q_and_all (by omega) (hl v hv).1, v_lnk t3 (by omega), v_off t3 (by omega), v_old t3 (by omega), f _ _ (by omega) (by omega) (by omega) (by omega) (by omega) (by omega), f _ _ (by omega) (by omega) (by omega) (by omega) (by omega) (by omega), show 15 + 2 = 17 from rfl, show 15 + 3 = 18 from rfl]
    refine ⟨?_, ?_, O v hv⟩
    · by_cases ev : v = n
      · rw [ev, bn.2.1, e2.2.2]
      · rw [bo v (by omega) 17 (by omega), kl v (by omega), (rd_row R (v := v) (by omega)).2.1]
    · by_cases ev : v = n
      · rw [ev, bn.2.2.1, e2.2.1]
      · rw [bo v (by omega) 18 (by omega), (e1 v (by omega)).2.1, (rd_row R (v := v) (by omega)).2.2.1]
  · rw [m_on_all (by omega) hv] at q
    cases q
  · rw [v_prd, v_off t3 (by omega), v_old t3 (by omega)]
    refine ⟨?_, Or.inl rfl⟩
    by_cases ev : v = n
    · rw [ev, e2.1, e2.2.1]
      exact ho
    · rw [(e1 v (by omega)).1, (e1 v (by omega)).2.1]
      exact zo v (by omega)
