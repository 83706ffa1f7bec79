/-! Words of the fields, the cells' shapes, small facts: by program. -/
theorem zup_fr {h : zHp} {c k c2 k2 : Nat} {x : Int32} (hn : c2 ≠ c ∨ k2 ≠ k) : zup h c k x c2 k2 = h c2 k2 := by
  by_cases hc : c2 = c
  · subst hc
    rw [zup_eq]
    exact if_neg (by omega)
  · rw [zup_ne hc]
theorem zup_at {h : zHp} {c k : Nat} {x : Int32} : zup h c k x c k = x := by
  rw [zup_eq]
  exact if_pos rfl
theorem zcp_fr {h : zHp} {c d sp dp n c2 k2 : Nat} (hn : c2 ≠ d) : zcp h c d sp dp n c2 k2 = h c2 k2 := by rw [zcp_ne hn]
theorem zite_fr {P : Prop} [Decidable P] {A B : zHp} {c k : Nat} {r : Int32} (ha : P → A c k = r) (hb : ¬ P → B c k = r) : (if P then A else B) c k = r := by
  by_cases hP : P
  · rw [if_pos hP]; exact ha hP
  · rw [if_neg hP]; exact hb hP
theorem zrex_P {σ ρ τ : Type} {f : Nat → σ → σ ⊕ ρ} {a : σ} {n : Nat} {L : σ → τ} {R : ρ → τ} (I : Nat → σ → Prop) (P : τ → Prop) (h0 : I 0 a) (hs : ∀ i s, i < n → I i s → (∀ s2, f i s = .inl s2 → I (i + 1) s2) ∧ ∀ r, f i s = .inr r → P (R r)) (hL : ∀ s, I n s → P (L s)) : P (Sum.elim L R (zrex f a n)) := by
  have hX := zrex_inv I (fun r => P (R r)) n h0 hs
  cases hz : zrex f a n with
  | inl s => exact hL s (hX.1 s hz)
  | inr r => exact hX.2 r hz
theorem zite_l {σ ρ : Type} {P : Prop} [Decidable P] {a s2 : σ} {b : ρ} (e : (if P then (.inl a : σ ⊕ ρ) else .inr b) = .inl s2) : s2 = a := by
  by_cases hP : P
  · rw [if_pos hP] at e; cases e; rfl
  · rw [if_neg hP] at e; cases e
theorem zite_r {σ ρ : Type} {P : Prop} [Decidable P] {a : σ} {b r : ρ} (e : (if P then (.inl a : σ ⊕ ρ) else .inr b) = .inr r) : r = b := by
  by_cases hP : P
  · rw [if_pos hP] at e; cases e
  · rw [if_neg hP] at e; cases e; rfl
/-- a field holds a number of at most N -/
def zfit (h : zHp) (c k N : Nat) : Prop := zcn (h c k) ≤ N ∧ h c k = nI (zcn (h c k))
theorem zfit_fr {h h2 : zHp} {c k N : Nat} (e : h2 c k = h c k) (f : zfit h c k N) : zfit h2 c k N := by
  unfold zfit
  rw [e]
  exact f
theorem zfit_le {h : zHp} {c k N N2 : Nat} (f : zfit h c k N) (hN : N ≤ N2) : zfit h c k N2 := ⟨Nat.le_trans f.1 hN, f.2⟩
theorem zfit_of {h : zHp} {c k N m : Nat} (e : h c k = nI m) (hm : m ≤ N) (hN : N < 2 ^ 31) : zfit h c k N := by
  unfold zfit
  rw [e, zcn_nI (by omega)]
  exact ⟨hm, rfl⟩
theorem zn_add {x y : Int32} {a b : Nat} (hx : x = nI a) (hy : y = nI b) : x + y = nI (a + b) := by rw [hx, hy, nI_add]
theorem zn_cast {x : Int32} {a b : Nat} (h : x = nI a) (e : a = b) : x = nI b := e ▸ h
theorem zn_mul {x y : Int32} {a b : Nat} (hx : x = nI a) (hy : y = nI b) : x * y = nI (a * b) := by rw [hx, hy, pk_mul]
theorem zn_sub {x y : Int32} {a b : Nat} (hx : x = nI a) (hy : y = nI b) (h : b ≤ a) : x - y = nI (a - b) := by rw [hx, hy, pk_sub h]
theorem zn_rem {x y : Int32} {a b : Nat} (hx : x = nI a) (hy : y = nI b) (ha : a < 2 ^ 31) (h0 : 0 < b) (hb : b < 2 ^ 31) : zrem x y = nI (a % b) := by rw [hx, hy]; exact pk_rem ha h0 hb
theorem zn_div {x y : Int32} {a b : Nat} (hx : x = nI a) (hy : y = nI b) (ha : a < 2 ^ 31) (h0 : 0 < b) (hb : b < 2 ^ 31) : x / y = nI (a / b) := by rw [hx, hy]; exact pk_div ha h0 hb
theorem zn_min {x y : Int32} {a b : Nat} (hx : x = nI a) (hy : y = nI b) (ha : a < 2 ^ 31) (hb : b < 2 ^ 31) : (if y < x then y else x) = nI (min a b) := by
  rw [hx, hy]
  by_cases h : b < a
  · rw [if_pos (nI_lt h ha), Nat.min_eq_right (by omega)]
  · rw [if_neg (nI_nlt (by omega) hb), Nat.min_eq_left (by omega)]
theorem zn_lt {x y : Int32} {a b : Nat} (hx : x = nI a) (hy : y = nI b) (c : x < y) (ha : a < 2 ^ 31) (hb : b < 2 ^ 31) : a < b := by rw [hx, hy] at c; exact (nI_ltI ha hb).mp c
theorem zn_nlt {x y : Int32} {a b : Nat} (hx : x = nI a) (hy : y = nI b) (c : ¬ x < y) (ha : a < 2 ^ 31) (hb : b < 2 ^ 31) : b ≤ a := by rw [hx, hy] at c; exact Nat.not_lt.mp (fun q => c ((nI_ltI ha hb).mpr q))
theorem zn_ge {x y : Int32} {a b : Nat} (hx : x = nI a) (hy : y = nI b) (c : y ≤ x) (ha : a < 2 ^ 31) (hb : b < 2 ^ 31) : b ≤ a := by rw [hx, hy] at c; exact (nI_leI hb ha).mp c
theorem zn_nge {x y : Int32} {a b : Nat} (hx : x = nI a) (hy : y = nI b) (c : ¬ y ≤ x) (ha : a < 2 ^ 31) (hb : b < 2 ^ 31) : a < b := by rw [hx, hy] at c; exact Nat.not_le.mp (fun q => c ((nI_leI hb ha).mpr q))
theorem zn_gt {x y : Int32} {a b : Nat} (hx : x = nI a) (hy : y = nI b) (c : y < x) (ha : a < 2 ^ 31) (hb : b < 2 ^ 31) : b < a := zn_lt hy hx c hb ha
theorem zn_ngt {x y : Int32} {a b : Nat} (hx : x = nI a) (hy : y = nI b) (c : ¬ y < x) (ha : a < 2 ^ 31) (hb : b < 2 ^ 31) : a ≤ b := zn_nlt hy hx c hb ha
theorem zn_le {x y : Int32} {a b : Nat} (hx : x = nI a) (hy : y = nI b) (c : x ≤ y) (ha : a < 2 ^ 31) (hb : b < 2 ^ 31) : a ≤ b := zn_ge hy hx c hb ha
theorem zn_nle {x y : Int32} {a b : Nat} (hx : x = nI a) (hy : y = nI b) (c : ¬ x ≤ y) (ha : a < 2 ^ 31) (hb : b < 2 ^ 31) : b < a := zn_nge hy hx c hb ha
theorem zn_eq {x y : Int32} {a b : Nat} (hx : x = nI a) (hy : y = nI b) (c : x = y) (ha : a < 2 ^ 31) (hb : b < 2 ^ 31) : a = b := by rw [hx, hy] at c; exact (nI_eq ha hb).mp c
theorem zn_neq {x y : Int32} {a b : Nat} (hx : x = nI a) (hy : y = nI b) (c : ¬ x = y) (_ : a < 2 ^ 31) (_ : b < 2 ^ 31) : a ≠ b := fun e => c (by rw [hx, hy, e])
theorem zn_ne {x y : Int32} {a b : Nat} (hx : x = nI a) (hy : y = nI b) (c : ¬ x = y) (ha : a < 2 ^ 31) (hb : b < 2 ^ 31) : a ≠ b := zn_neq hx hy c ha hb
theorem zn_nne {x y : Int32} {a b : Nat} (hx : x = nI a) (hy : y = nI b) (c : x = y) (ha : a < 2 ^ 31) (hb : b < 2 ^ 31) : a = b := zn_eq hx hy c ha hb
theorem zge_no {y y0 : Int32} {m : Nat} (e : y = y0) (h : m < zcn y0) : ¬ y ≤ nI m := by rw [e]; exact zcn_lt h
theorem zge_yes {y y0 : Int32} {m : Nat} (e : y = y0) (h : zcn y0 ≤ m) (hm : m < 2 ^ 31) : y ≤ nI m := by
  rw [e]
  have h1 := zcn_ge (x := y0)
  have h2 := nI_le h hm
  rw [Int32.le_iff_toInt_le] at *
  omega
theorem zge_noN {y : Int32} {m B : Nat} (e : y = nI B) (h : m < B) (hB : B < 2 ^ 31) : ¬ y ≤ nI m := by rw [e]; exact nI_ge h hB
theorem zge_yesN {y : Int32} {m B : Nat} (e : y = nI B) (h : B ≤ m) (hm : m < 2 ^ 31) : y ≤ nI m := by rw [e]; exact nI_le h hm
theorem zgt_noN {y : Int32} {m B : Nat} (e : y = nI B) (h : m ≤ B) (hB : B < 2 ^ 31) : ¬ y < nI m := by rw [e]; exact nI_nlt h hB
theorem zgt_yesN {y : Int32} {m B : Nat} (e : y = nI B) (h : B < m) (hm : m < 2 ^ 31) : y < nI m := by rw [e]; exact nI_lt h hm
theorem zgt_no {y y0 : Int32} {m : Nat} (e : y = y0) (h : m ≤ zcn y0) (h0 : 1 ≤ m) : ¬ y < nI m := by
  rw [e]
  have h1 : zcn y0 = y0.toInt.toNat := rfl
  have h2 := y0.toInt_lt
  rw [Int32.lt_iff_toInt_lt, nI_toInt (by omega)]
  omega
theorem zgt_yes {y y0 : Int32} {m : Nat} (e : y = y0) (h : zcn y0 < m) (hm : m < 2 ^ 31) : y < nI m := by
  rw [e]
  have h1 : zcn y0 = y0.toInt.toNat := rfl
  rw [Int32.lt_iff_toInt_lt, nI_toInt (by omega)]
  omega
theorem zdn_no {a i : Nat} (h : i ≤ a) (ha : a < 2 ^ 31) : ¬ nI a - nI i < 0 := by
  rw [pk_sub h]
  exact nI_pos (by omega)
theorem zdn_yes {a i : Nat} (h : i = a + 1) : nI a - nI i < 0 := by
  subst h
  have e : nI a - nI (a + 1) = -1 := by
    rw [nI_succ, Int32.sub_eq_add_neg, Int32.neg_add, Int32.sub_eq_add_neg, ← Int32.add_assoc, Int32.add_right_neg, Int32.zero_add]
  rw [e]
  decide
theorem zdn_step (a i : Nat) : nI a - nI i + Int32.ofInt (-1) = nI a - nI (i + 1) := by
  rw [nI_succ, show Int32.ofInt (-1) = -1 from rfl, Int32.sub_eq_add_neg, Int32.sub_eq_add_neg, Int32.neg_add, Int32.sub_eq_add_neg, Int32.add_assoc]
theorem zdn_0 {x : Int32} {a : Nat} (e : x = nI a) : x = nI a - nI 0 := by
  rw [e, nI_0, Int32.sub_zero]
theorem zge1 {x : Int32} (c : ¬ x < 1) : ¬ x < 0 ∧ 1 ≤ zcn x := by
  have h1 : zcn x = x.toInt.toNat := rfl
  rw [Int32.lt_iff_toInt_lt] at c
  have h2 : (1 : Int32).toInt = 1 := rfl
  have h3 : (0 : Int32).toInt = 0 := rfl
  refine ⟨?_, ?_⟩
  · rw [Int32.lt_iff_toInt_lt]; omega
  · omega
theorem zbf {b : Bool} (h : b = false) : ¬ b = true := by rw [h]; exact fun h => by cases h
theorem zne_lt1 {x : Int32} (h : ¬ x < 1) : ¬ x = 0 := fun e => h (by rw [e]; decide)
theorem zne_1le {x : Int32} (h : 1 ≤ x) : ¬ x = 0 := fun e => absurd (e ▸ h) (by decide)
theorem zne_toInt {x y : Int32} {k : Int} (h : ¬ x = y) (hk : y.toInt = k) : x.toInt ≠ k := fun e => h (Int32.toInt_inj.mp (e.trans hk.symm))
theorem zix {x : Int32} (h : ¬ x < 0) : x = nI (zcn x) := (znI_cn (Int32.not_lt.mp h)).symm
theorem zix' {x : Int32} (h : 0 ≤ x) : x = nI (zcn x) := (znI_cn h).symm
theorem zcn_ltN {x y : Int32} {n : Nat} (h : ¬ y ≤ x) (hx : ¬ x < 0) (e : y = nI n) (hn : n < 2 ^ 31) : zcn x < n := by
  rw [e, zix hx] at h
  have := zcn_small x
  rcases Nat.lt_or_ge (zcn x) n with q | q
  · exact q
  · exact absurd (nI_le q (zcn_small x)) h
/-- the reference's stations have periods -/
def zper (h : zHp) : Prop := ∀ v, v < zcn (h 51 1) → ¬ h 53 v = 0
theorem zper_fr {h h2 : zHp} (e1 : h2 51 1 = h 51 1) (e2 : ∀ v, h2 53 v = h 53 v) (p : zper h) : zper h2 := by
  intro v hv
  rw [e1] at hv
  rw [e2]
  exact p v hv
theorem zper_fr1 {x y : Int32} (e : x = y) (n : ¬ y = 0) : ¬ x = 0 := by rw [e]; exact n
theorem zi2l_ne {x : Int32} (n : ¬ x = 0) : ¬ x.toInt64 = 0 := by
  intro e
  apply n
  have h1 : x.toInt64.toInt = x.toInt := Int32.toInt_toInt64 x
  rw [e] at h1
  exact Int32.toInt_inj.mp (h1.symm.trans rfl)
section ZT
variable {X : zXT} {Γ : zGT} {Q : State → Prop} {cc : ByteArray} {own : String} {nL d : Nat} {rt : Option FieldType} {pc : Nat} {lv : List (Option Value)} {st : List Value} {h : zHp} {g : zLg}
theorem zr_loc (lv2 : List (Option Value)) (i : Nat) {x y : Int32} (e : x = y) (hx : lv[i]? = some (zI x)) (hl : lv.set i (zI y) = lv2) (k : zV X Γ Q pc lv2 st h g) : zV X Γ Q pc lv st h g := by
  subst e
  have : lv.set i (zI x) = lv := by
    apply List.ext_getElem?
    intro j
    by_cases hj : j = i
    · subst hj
      rw [List.getElem?_set_self (List.getElem?_eq_some_iff.mp hx).1, hx]
    · rw [List.getElem?_set_ne (Ne.symm hj)]
  rw [this] at hl
  rw [hl]
  exact k
theorem zTQ_Ih {o : Int32 × zHp} {v : Int32} {h2 : zHp} (e : o = (v, h2)) (k : zV X Γ (zTQ X Γ (zI v) h2 g) pc lv st h g) : zV X Γ (zTQ X Γ (zI o.1) o.2 g) pc lv st h g := by rw [e]; exact k
theorem zTQ_Zh {o : Bool × zHp} {v : Bool} {h2 : zHp} (e : o = (v, h2)) (k : zV X Γ (zTQ X Γ (zI (zb v)) h2 g) pc lv st h g) : zV X Γ (zTQ X Γ (zI (zb o.1)) o.2 g) pc lv st h g := by rw [e]; exact k
theorem zTQ_Ihg {o : Int32 × zHp × zLg} {v : Int32} {h2 : zHp} {g2 : zLg} (e : o = (v, h2, g2)) (k : zV X Γ (zTQ X Γ (zI v) h2 g2) pc lv st h g) : zV X Γ (zTQ X Γ (zI o.1) o.2.1 o.2.2) pc lv st h g := by rw [e]; exact k
theorem zTQ_Vhg {o : zHp × zLg} {h2 : zHp} {g2 : zLg} (e : o = (h2, g2)) (k : zV X Γ (zTQ X Γ none h2 g2) pc lv st h g) : zV X Γ (zTQ X Γ none o.1 o.2) pc lv st h g := by rw [e]; exact k
theorem zTQ_Jg {o : Int64 × zLg} {v : Int64} {g2 : zLg} (e : o = (v, g2)) (k : zV X Γ (zTQ X Γ (zL v) h g2) pc lv st h g) : zV X Γ (zTQ X Γ (zL o.1) h o.2) pc lv st h g := by rw [e]; exact k
theorem zr_topz {x y : Bool} (e : x = y) (k : zV X Γ Q pc lv (.int (zb y) :: st) h g) : zV X Γ Q pc lv (.int (zb x) :: st) h g := e ▸ k
theorem zr_vi {x : Int32} (k : ∀ y : Int32, x = y → zV X Γ Q pc lv (.int y :: st) h g) : zV X Γ Q pc lv (.int x :: st) h g := k x rfl
theorem zr_vz {x : Bool} (k : ∀ y : Bool, x = y → zV X Γ Q pc lv (.int (zb y) :: st) h g) : zV X Γ Q pc lv (.int (zb x) :: st) h g := k x rfl
theorem zr_h (k : ∀ h2 : zHp, h = h2 → zV X Γ Q pc lv st h2 g) : zV X Γ Q pc lv st h g := k h rfl
theorem zr_g (k : ∀ g2 : zLg, g = g2 → zV X Γ Q pc lv st h g2) : zV X Γ Q pc lv st h g := k g rfl
theorem zr_ifz_eq (C : zOk X Γ cc own nL d rt) {x : Bool} {off : Int} (tgt : Nat) (hd : decode cc pc = .ok (.ifCond .eq off, 3)) (ht : (pc : Int) + off = (tgt : Int)) (kt : x = false → zV X Γ Q tgt lv st h g) (kf : x = true → zV X Γ Q (pc + 3) lv st h g) : zV X Γ Q pc lv (.int (zb x) :: st) h g :=
  zr_if_eq C tgt hd ht (fun c => kt (zb_0.mp c)) (fun c => kf (zb_n0.mp c))
theorem zr_ifz_ne (C : zOk X Γ cc own nL d rt) {x : Bool} {off : Int} (tgt : Nat) (hd : decode cc pc = .ok (.ifCond .ne off, 3)) (ht : (pc : Int) + off = (tgt : Int)) (kt : x = true → zV X Γ Q tgt lv st h g) (kf : x = false → zV X Γ Q (pc + 3) lv st h g) : zV X Γ Q pc lv (.int (zb x) :: st) h g :=
  zr_if_ne C tgt hd ht (fun c => kt (zb_n0.mp c)) (fun c => kf (zb_0.mp c))
theorem zr_callVi {M : zMT} {dy n idx c ci N : Nat} {C : String} {T : u_T} {fs As : List Value} {r : Int32} {h2 : zHp} {g2 : zLg} (K : zOk X Γ cc own nL d rt) (hM : zDi X M dy (zR X c :: As) h g (zI r) h2 g2) (hm : zcall M n) (hl : Cond.methodLink own idx M.1 ∈ zU) (hi : Cond.instanceMethod M.1 ∈ zU) (hs : Cond.selects C M.1 M.1 ∈ zU) (hc : c < 71) (he : zC X g c (h c) = .inr (ci, fs)) (hcl : zcl[ci]? = some (C, T, N)) (hn : As.length = n) (hdy : dy + 1 ≤ d) (hnL : lv.length = nL) (hst : (st.map fun v => v.category).sum ≤ 8) (hd : decode cc pc = .ok (.invokevirtual idx, 3)) (kk : zV X Γ Q (pc + 3) lv (.int r :: st) h2 g2) : zV X Γ Q pc lv (As.reverse ++ zR X c :: st) h g :=
  zr_callV K hM hm hl hi hs hc he hcl hn hdy hnL hst hd kk
theorem zr_callSi {M : zMT} {dy n idx : Nat} {As : List Value} {r : Int32} {h2 : zHp} {g2 : zLg} (K : zOk X Γ cc own nL d rt) (hM : zDi X M dy As h g (zI r) h2 g2) (hm : zcall M n) (hl : Cond.methodLink own idx M.1 ∈ zU) (hi : Cond.static M.1 ∈ zU) (hn : As.length = n) (hdy : dy + 1 ≤ d) (hnL : lv.length = nL) (hst : (st.map fun v => v.category).sum ≤ 8) (hd : decode cc pc = .ok (.invokestatic idx, 3)) (kk : zV X Γ Q (pc + 3) lv (.int r :: st) h2 g2) : zV X Γ Q pc lv (As.reverse ++ st) h g :=
  zr_callS K hM hm hl hi hn hdy hnL hst hd kk
theorem zr_callNi {M : zMT} {dy n idx : Nat} {As : List Value} {r : Int32} {h2 : zHp} {g2 : zLg} (K : zOk X Γ cc own nL d rt) (hM : zDi X M dy As h g (zI r) h2 g2) (hm : zcall M n) (hl : Cond.methodLinkNest own idx M.1 "PeriodSlots" ∈ zNest) (hi : Cond.static M.1 ∈ zU) (hn : As.length = n) (hdy : dy + 1 ≤ d) (hnL : lv.length = nL) (hst : (st.map fun v => v.category).sum ≤ 8) (hd : decode cc pc = .ok (.invokestatic idx, 3)) (kk : zV X Γ Q (pc + 3) lv (.int r :: st) h2 g2) : zV X Γ Q pc lv (As.reverse ++ st) h g :=
  zr_callN K hM hm hl hi hn hdy hnL hst hd kk
theorem zr_callVz {M : zMT} {dy n idx c ci N : Nat} {C : String} {T : u_T} {fs As : List Value} {r : Bool} {h2 : zHp} {g2 : zLg} (K : zOk X Γ cc own nL d rt) (hM : zDi X M dy (zR X c :: As) h g (zI (zb r)) h2 g2) (hm : zcall M n) (hl : Cond.methodLink own idx M.1 ∈ zU) (hi : Cond.instanceMethod M.1 ∈ zU) (hs : Cond.selects C M.1 M.1 ∈ zU) (hc : c < 71) (he : zC X g c (h c) = .inr (ci, fs)) (hcl : zcl[ci]? = some (C, T, N)) (hn : As.length = n) (hdy : dy + 1 ≤ d) (hnL : lv.length = nL) (hst : (st.map fun v => v.category).sum ≤ 8) (hd : decode cc pc = .ok (.invokevirtual idx, 3)) (kk : zV X Γ Q (pc + 3) lv (.int (zb r) :: st) h2 g2) : zV X Γ Q pc lv (As.reverse ++ zR X c :: st) h g :=
  zr_callV K hM hm hl hi hs hc he hcl hn hdy hnL hst hd kk
theorem zr_callSz {M : zMT} {dy n idx : Nat} {As : List Value} {r : Bool} {h2 : zHp} {g2 : zLg} (K : zOk X Γ cc own nL d rt) (hM : zDi X M dy As h g (zI (zb r)) h2 g2) (hm : zcall M n) (hl : Cond.methodLink own idx M.1 ∈ zU) (hi : Cond.static M.1 ∈ zU) (hn : As.length = n) (hdy : dy + 1 ≤ d) (hnL : lv.length = nL) (hst : (st.map fun v => v.category).sum ≤ 8) (hd : decode cc pc = .ok (.invokestatic idx, 3)) (kk : zV X Γ Q (pc + 3) lv (.int (zb r) :: st) h2 g2) : zV X Γ Q pc lv (As.reverse ++ st) h g :=
  zr_callS K hM hm hl hi hn hdy hnL hst hd kk
theorem zr_callNz {M : zMT} {dy n idx : Nat} {As : List Value} {r : Bool} {h2 : zHp} {g2 : zLg} (K : zOk X Γ cc own nL d rt) (hM : zDi X M dy As h g (zI (zb r)) h2 g2) (hm : zcall M n) (hl : Cond.methodLinkNest own idx M.1 "PeriodSlots" ∈ zNest) (hi : Cond.static M.1 ∈ zU) (hn : As.length = n) (hdy : dy + 1 ≤ d) (hnL : lv.length = nL) (hst : (st.map fun v => v.category).sum ≤ 8) (hd : decode cc pc = .ok (.invokestatic idx, 3)) (kk : zV X Γ Q (pc + 3) lv (.int (zb r) :: st) h2 g2) : zV X Γ Q pc lv (As.reverse ++ st) h g :=
  zr_callN K hM hm hl hi hn hdy hnL hst hd kk
theorem zr_callVl {M : zMT} {dy n idx c ci N : Nat} {C : String} {T : u_T} {fs As : List Value} {r : Int64} {h2 : zHp} {g2 : zLg} (K : zOk X Γ cc own nL d rt) (hM : zDi X M dy (zR X c :: As) h g (zL r) h2 g2) (hm : zcall M n) (hl : Cond.methodLink own idx M.1 ∈ zU) (hi : Cond.instanceMethod M.1 ∈ zU) (hs : Cond.selects C M.1 M.1 ∈ zU) (hc : c < 71) (he : zC X g c (h c) = .inr (ci, fs)) (hcl : zcl[ci]? = some (C, T, N)) (hn : As.length = n) (hdy : dy + 1 ≤ d) (hnL : lv.length = nL) (hst : (st.map fun v => v.category).sum ≤ 8) (hd : decode cc pc = .ok (.invokevirtual idx, 3)) (kk : zV X Γ Q (pc + 3) lv (.long r :: st) h2 g2) : zV X Γ Q pc lv (As.reverse ++ zR X c :: st) h g :=
  zr_callV K hM hm hl hi hs hc he hcl hn hdy hnL hst hd kk
theorem zr_callSl {M : zMT} {dy n idx : Nat} {As : List Value} {r : Int64} {h2 : zHp} {g2 : zLg} (K : zOk X Γ cc own nL d rt) (hM : zDi X M dy As h g (zL r) h2 g2) (hm : zcall M n) (hl : Cond.methodLink own idx M.1 ∈ zU) (hi : Cond.static M.1 ∈ zU) (hn : As.length = n) (hdy : dy + 1 ≤ d) (hnL : lv.length = nL) (hst : (st.map fun v => v.category).sum ≤ 8) (hd : decode cc pc = .ok (.invokestatic idx, 3)) (kk : zV X Γ Q (pc + 3) lv (.long r :: st) h2 g2) : zV X Γ Q pc lv (As.reverse ++ st) h g :=
  zr_callS K hM hm hl hi hn hdy hnL hst hd kk
theorem zr_callNl {M : zMT} {dy n idx : Nat} {As : List Value} {r : Int64} {h2 : zHp} {g2 : zLg} (K : zOk X Γ cc own nL d rt) (hM : zDi X M dy As h g (zL r) h2 g2) (hm : zcall M n) (hl : Cond.methodLinkNest own idx M.1 "PeriodSlots" ∈ zNest) (hi : Cond.static M.1 ∈ zU) (hn : As.length = n) (hdy : dy + 1 ≤ d) (hnL : lv.length = nL) (hst : (st.map fun v => v.category).sum ≤ 8) (hd : decode cc pc = .ok (.invokestatic idx, 3)) (kk : zV X Γ Q (pc + 3) lv (.long r :: st) h2 g2) : zV X Γ Q pc lv (As.reverse ++ st) h g :=
  zr_callN K hM hm hl hi hn hdy hnL hst hd kk
theorem zr_callVv {M : zMT} {dy n idx c ci N : Nat} {C : String} {T : u_T} {fs As : List Value} {h2 : zHp} {g2 : zLg} (K : zOk X Γ cc own nL d rt) (hM : zDi X M dy (zR X c :: As) h g none h2 g2) (hm : zcall M n) (hl : Cond.methodLink own idx M.1 ∈ zU) (hi : Cond.instanceMethod M.1 ∈ zU) (hs : Cond.selects C M.1 M.1 ∈ zU) (hc : c < 71) (he : zC X g c (h c) = .inr (ci, fs)) (hcl : zcl[ci]? = some (C, T, N)) (hn : As.length = n) (hdy : dy + 1 ≤ d) (hnL : lv.length = nL) (hst : (st.map fun v => v.category).sum ≤ 8) (hd : decode cc pc = .ok (.invokevirtual idx, 3)) (kk : zV X Γ Q (pc + 3) lv (st) h2 g2) : zV X Γ Q pc lv (As.reverse ++ zR X c :: st) h g :=
  zr_callV K hM hm hl hi hs hc he hcl hn hdy hnL hst hd kk
theorem zr_callSv {M : zMT} {dy n idx : Nat} {As : List Value} {h2 : zHp} {g2 : zLg} (K : zOk X Γ cc own nL d rt) (hM : zDi X M dy As h g none h2 g2) (hm : zcall M n) (hl : Cond.methodLink own idx M.1 ∈ zU) (hi : Cond.static M.1 ∈ zU) (hn : As.length = n) (hdy : dy + 1 ≤ d) (hnL : lv.length = nL) (hst : (st.map fun v => v.category).sum ≤ 8) (hd : decode cc pc = .ok (.invokestatic idx, 3)) (kk : zV X Γ Q (pc + 3) lv (st) h2 g2) : zV X Γ Q pc lv (As.reverse ++ st) h g :=
  zr_callS K hM hm hl hi hn hdy hnL hst hd kk
theorem zr_callNv {M : zMT} {dy n idx : Nat} {As : List Value} {h2 : zHp} {g2 : zLg} (K : zOk X Γ cc own nL d rt) (hM : zDi X M dy As h g none h2 g2) (hm : zcall M n) (hl : Cond.methodLinkNest own idx M.1 "PeriodSlots" ∈ zNest) (hi : Cond.static M.1 ∈ zU) (hn : As.length = n) (hdy : dy + 1 ≤ d) (hnL : lv.length = nL) (hst : (st.map fun v => v.category).sum ≤ 8) (hd : decode cc pc = .ok (.invokestatic idx, 3)) (kk : zV X Γ Q (pc + 3) lv (st) h2 g2) : zV X Γ Q pc lv (As.reverse ++ st) h g :=
  zr_callN K hM hm hl hi hn hdy hnL hst hd kk
end ZT
theorem zC_Acts (X : zXT) (g : zLg) (r : Nat → Int32) : zC X g 41 r = .inr (0, zF_Acts X 41 r) := rfl
theorem zi_Acts : ∀ w ∈ u_ws zN_Acts zT_Acts 3, w ∈ zU := by
  intro w hw
  obtain ⟨k, hk, rfl⟩ := List.mem_map.mp hw
  have hk : k < 3 := List.mem_range.mp hk
  match k, hk with
  | 0, _ => exact zU_in (i := 198) (by decide +kernel) rfl
  | 1, _ => exact zU_in (i := 200) (by decide +kernel) rfl
  | 2, _ => exact zU_in (i := 202) (by decide +kernel) rfl
  | k + 3, hk => exact absurd hk (by omega)
theorem zC_Mesh {b : Nat} (hb : b = 3 ∨ b = 15 ∨ b = 27) (X : zXT) (g : zLg) (r : Nat → Int32) : zC X g b r = .inr (1, zF_Mesh X b r) := by
  rcases hb with rfl | rfl | rfl <;> rfl
theorem zi_Mesh : ∀ w ∈ u_ws zN_Mesh zT_Mesh 14, w ∈ zU := by
  intro w hw
  obtain ⟨k, hk, rfl⟩ := List.mem_map.mp hw
  have hk : k < 14 := List.mem_range.mp hk
  match k, hk with
  | 0, _ => exact zU_in (i := 129) (by decide +kernel) rfl
  | 1, _ => exact zU_in (i := 131) (by decide +kernel) rfl
  | 2, _ => exact zU_in (i := 133) (by decide +kernel) rfl
  | 3, _ => exact zU_in (i := 135) (by decide +kernel) rfl
  | 4, _ => exact zU_in (i := 137) (by decide +kernel) rfl
  | 5, _ => exact zU_in (i := 139) (by decide +kernel) rfl
  | 6, _ => exact zU_in (i := 141) (by decide +kernel) rfl
  | 7, _ => exact zU_in (i := 143) (by decide +kernel) rfl
  | 8, _ => exact zU_in (i := 145) (by decide +kernel) rfl
  | 9, _ => exact zU_in (i := 147) (by decide +kernel) rfl
  | 10, _ => exact zU_in (i := 149) (by decide +kernel) rfl
  | 11, _ => exact zU_in (i := 151) (by decide +kernel) rfl
  | 12, _ => exact zU_in (i := 153) (by decide +kernel) rfl
  | 13, _ => exact zU_in (i := 155) (by decide +kernel) rfl
  | k + 14, hk => exact absurd hk (by omega)
theorem zC_Obs (X : zXT) (g : zLg) (r : Nat → Int32) : zC X g 46 r = .inr (2, zF_Obs X 46 r) := rfl
theorem zi_Obs : ∀ w ∈ u_ws zN_Obs zT_Obs 4, w ∈ zU := by
  intro w hw
  obtain ⟨k, hk, rfl⟩ := List.mem_map.mp hw
  have hk : k < 4 := List.mem_range.mp hk
  match k, hk with
  | 0, _ => exact zU_in (i := 218) (by decide +kernel) rfl
  | 1, _ => exact zU_in (i := 220) (by decide +kernel) rfl
  | 2, _ => exact zU_in (i := 222) (by decide +kernel) rfl
  | 3, _ => exact zU_in (i := 224) (by decide +kernel) rfl
  | k + 4, hk => exact absurd hk (by omega)
theorem zC_Planner (X : zXT) (g : zLg) (r : Nat → Int32) : zC X g 39 r = .inr (3, zF_Planner X 39) := rfl
theorem zi_Planner : ∀ w ∈ u_ws zN_Planner zT_Planner 1, w ∈ zU := by
  intro w hw
  obtain ⟨k, hk, rfl⟩ := List.mem_map.mp hw
  have hk : k < 1 := List.mem_range.mp hk
  match k, hk with
  | 0, _ => exact zU_in (i := 166) (by decide +kernel) rfl
  | k + 1, hk => exact absurd hk (by omega)
theorem zC_Shelf {b : Nat} (hb : b = 42 ∨ b = 44) (X : zXT) (g : zLg) (r : Nat → Int32) : zC X g b r = .inr (4, zF_Shelf X b r) := by
  rcases hb with rfl | rfl <;> rfl
theorem zi_Shelf : ∀ w ∈ u_ws zN_Shelf zT_Shelf 3, w ∈ zU := by
  intro w hw
  obtain ⟨k, hk, rfl⟩ := List.mem_map.mp hw
  have hk : k < 3 := List.mem_range.mp hk
  match k, hk with
  | 0, _ => exact zU_in (i := 187) (by decide +kernel) rfl
  | 1, _ => exact zU_in (i := 189) (by decide +kernel) rfl
  | 2, _ => exact zU_in (i := 191) (by decide +kernel) rfl
  | k + 3, hk => exact absurd hk (by omega)
theorem zC_Text (X : zXT) (g : zLg) (r : Nat → Int32) : zC X g 1 r = .inr (5, zF_Text X 1 r) := rfl
theorem zi_Text : ∀ w ∈ u_ws zN_Text zT_Text 2, w ∈ zU := by
  intro w hw
  obtain ⟨k, hk, rfl⟩ := List.mem_map.mp hw
  have hk : k < 2 := List.mem_range.mp hk
  match k, hk with
  | 0, _ => exact zU_in (i := 83) (by decide +kernel) rfl
  | 1, _ => exact zU_in (i := 85) (by decide +kernel) rfl
  | k + 2, hk => exact absurd hk (by omega)
theorem zC_Slots (X : zXT) (g : zLg) (r : Nat → Int32) : zC X g 0 r = .inr (6, zF_Slots X g) := rfl
theorem zi_Slots : ∀ w ∈ u_ws zN_Slots zT_Slots 10, w ∈ zU := by
  intro w hw
  obtain ⟨k, hk, rfl⟩ := List.mem_map.mp hw
  have hk : k < 10 := List.mem_range.mp hk
  match k, hk with
  | 0, _ => exact zU_in (i := 237) (by decide +kernel) rfl
  | 1, _ => exact zU_in (i := 239) (by decide +kernel) rfl
  | 2, _ => exact zU_in (i := 241) (by decide +kernel) rfl
  | 3, _ => exact zU_in (i := 243) (by decide +kernel) rfl
  | 4, _ => exact zU_in (i := 245) (by decide +kernel) rfl
  | 5, _ => exact zU_in (i := 247) (by decide +kernel) rfl
  | 6, _ => exact zU_in (i := 249) (by decide +kernel) rfl
  | 7, _ => exact zU_in (i := 251) (by decide +kernel) rfl
  | 8, _ => exact zU_in (i := 253) (by decide +kernel) rfl
  | 9, _ => exact zU_in (i := 255) (by decide +kernel) rfl
  | k + 10, hk => exact absurd hk (by omega)
theorem zC_Model (X : zXT) (g : zLg) (r : Nat → Int32) : zC X g 51 r = .inr (7, zF_Model X g r) := rfl
theorem zi_Model : ∀ w ∈ u_ws zN_Model zT_Model 32, w ∈ zU := by
  intro w hw
  obtain ⟨k, hk, rfl⟩ := List.mem_map.mp hw
  have hk : k < 32 := List.mem_range.mp hk
  match k, hk with
  | 0, _ => exact zU_in (i := 785) (by decide +kernel) rfl
  | 1, _ => exact zU_in (i := 787) (by decide +kernel) rfl
  | 2, _ => exact zU_in (i := 789) (by decide +kernel) rfl
  | 3, _ => exact zU_in (i := 791) (by decide +kernel) rfl
  | 4, _ => exact zU_in (i := 793) (by decide +kernel) rfl
  | 5, _ => exact zU_in (i := 795) (by decide +kernel) rfl
  | 6, _ => exact zU_in (i := 797) (by decide +kernel) rfl
  | 7, _ => exact zU_in (i := 799) (by decide +kernel) rfl
  | 8, _ => exact zU_in (i := 801) (by decide +kernel) rfl
  | 9, _ => exact zU_in (i := 803) (by decide +kernel) rfl
  | 10, _ => exact zU_in (i := 805) (by decide +kernel) rfl
  | 11, _ => exact zU_in (i := 807) (by decide +kernel) rfl
  | 12, _ => exact zU_in (i := 809) (by decide +kernel) rfl
  | 13, _ => exact zU_in (i := 811) (by decide +kernel) rfl
  | 14, _ => exact zU_in (i := 813) (by decide +kernel) rfl
  | 15, _ => exact zU_in (i := 815) (by decide +kernel) rfl
  | 16, _ => exact zU_in (i := 817) (by decide +kernel) rfl
  | 17, _ => exact zU_in (i := 819) (by decide +kernel) rfl
  | 18, _ => exact zU_in (i := 821) (by decide +kernel) rfl
  | 19, _ => exact zU_in (i := 823) (by decide +kernel) rfl
  | 20, _ => exact zU_in (i := 825) (by decide +kernel) rfl
  | 21, _ => exact zU_in (i := 827) (by decide +kernel) rfl
  | 22, _ => exact zU_in (i := 829) (by decide +kernel) rfl
  | 23, _ => exact zU_in (i := 831) (by decide +kernel) rfl
  | 24, _ => exact zU_in (i := 833) (by decide +kernel) rfl
  | 25, _ => exact zU_in (i := 835) (by decide +kernel) rfl
  | 26, _ => exact zU_in (i := 837) (by decide +kernel) rfl
  | 27, _ => exact zU_in (i := 839) (by decide +kernel) rfl
  | 28, _ => exact zU_in (i := 841) (by decide +kernel) rfl
  | 29, _ => exact zU_in (i := 843) (by decide +kernel) rfl
  | 30, _ => exact zU_in (i := 845) (by decide +kernel) rfl
  | 31, _ => exact zU_in (i := 847) (by decide +kernel) rfl
  | k + 32, hk => exact absurd hk (by omega)
theorem za_2 : zar 2 110 := ⟨by decide, rfl, rfl⟩
theorem za_4 : zar 4 8 := ⟨by decide, rfl, rfl⟩
theorem za_5 : zar 5 8 := ⟨by decide, rfl, rfl⟩
theorem za_6 : zar 6 8 := ⟨by decide, rfl, rfl⟩
theorem za_7 : zar 7 8 := ⟨by decide, rfl, rfl⟩
theorem za_8 : zar 8 8 := ⟨by decide, rfl, rfl⟩
theorem za_9 : zar 9 8 := ⟨by decide, rfl, rfl⟩
theorem za_10 : zar 10 8 := ⟨by decide, rfl, rfl⟩
theorem za_11 : zar 11 8 := ⟨by decide, rfl, rfl⟩
theorem za_12 : zar 12 8 := ⟨by decide, rfl, rfl⟩
theorem za_13 : zar 13 8 := ⟨by decide, rfl, rfl⟩
theorem za_14 : zar 14 8 := ⟨by decide, rfl, rfl⟩
theorem za_16 : zar 16 8 := ⟨by decide, rfl, rfl⟩
theorem za_17 : zar 17 8 := ⟨by decide, rfl, rfl⟩
theorem za_18 : zar 18 8 := ⟨by decide, rfl, rfl⟩
theorem za_19 : zar 19 8 := ⟨by decide, rfl, rfl⟩
theorem za_20 : zar 20 8 := ⟨by decide, rfl, rfl⟩
theorem za_21 : zar 21 8 := ⟨by decide, rfl, rfl⟩
theorem za_22 : zar 22 8 := ⟨by decide, rfl, rfl⟩
theorem za_23 : zar 23 8 := ⟨by decide, rfl, rfl⟩
theorem za_24 : zar 24 8 := ⟨by decide, rfl, rfl⟩
theorem za_25 : zar 25 8 := ⟨by decide, rfl, rfl⟩
theorem za_26 : zar 26 8 := ⟨by decide, rfl, rfl⟩
theorem za_28 : zar 28 8 := ⟨by decide, rfl, rfl⟩
theorem za_29 : zar 29 8 := ⟨by decide, rfl, rfl⟩
theorem za_30 : zar 30 8 := ⟨by decide, rfl, rfl⟩
theorem za_31 : zar 31 8 := ⟨by decide, rfl, rfl⟩
theorem za_32 : zar 32 8 := ⟨by decide, rfl, rfl⟩
theorem za_33 : zar 33 8 := ⟨by decide, rfl, rfl⟩
theorem za_34 : zar 34 8 := ⟨by decide, rfl, rfl⟩
theorem za_35 : zar 35 8 := ⟨by decide, rfl, rfl⟩
theorem za_36 : zar 36 8 := ⟨by decide, rfl, rfl⟩
theorem za_37 : zar 37 8 := ⟨by decide, rfl, rfl⟩
theorem za_38 : zar 38 8 := ⟨by decide, rfl, rfl⟩
theorem za_40 : zar 40 8 := ⟨by decide, rfl, rfl⟩
theorem za_43 : zar 43 350 := ⟨by decide, rfl, rfl⟩
theorem za_45 : zar 45 50 := ⟨by decide, rfl, rfl⟩
theorem za_47 : zar 47 6 := ⟨by decide, rfl, rfl⟩
theorem za_48 : zar 48 6 := ⟨by decide, rfl, rfl⟩
theorem za_49 : zar 49 6 := ⟨by decide, rfl, rfl⟩
theorem za_50 : zar 50 4 := ⟨by decide, rfl, rfl⟩
theorem za_52 : zar 52 110 := ⟨by decide, rfl, rfl⟩
theorem za_53 : zar 53 8 := ⟨by decide, rfl, rfl⟩
theorem za_54 : zar 54 25 := ⟨by decide, rfl, rfl⟩
theorem za_55 : zar 55 25 := ⟨by decide, rfl, rfl⟩
theorem za_56 : zar 56 25 := ⟨by decide, rfl, rfl⟩
theorem za_57 : zar 57 350 := ⟨by decide, rfl, rfl⟩
theorem za_58 : zar 58 50 := ⟨by decide, rfl, rfl⟩
theorem za_60 : zar 60 6 := ⟨by decide, rfl, rfl⟩
theorem za_61 : zar 61 6 := ⟨by decide, rfl, rfl⟩
theorem za_62 : zar 62 6 := ⟨by decide, rfl, rfl⟩
theorem za_63 : zar 63 8 := ⟨by decide, rfl, rfl⟩
theorem za_64 : zar 64 8 := ⟨by decide, rfl, rfl⟩
theorem za_65 : zar 65 8 := ⟨by decide, rfl, rfl⟩
theorem za_66 : zar 66 8 := ⟨by decide, rfl, rfl⟩
theorem za_67 : zar 67 8 := ⟨by decide, rfl, rfl⟩
theorem za_68 : zar 68 8 := ⟨by decide, rfl, rfl⟩
theorem za_69 : zar 69 8 := ⟨by decide, rfl, rfl⟩
theorem za_70 : zar 70 256 := ⟨by decide, rfl, rfl⟩
theorem za_mesh_1 {b : Nat} (hb : b = 3 ∨ b = 15 ∨ b = 27) : zar (b + 1) 8 := by
  rcases hb with rfl | rfl | rfl <;> exact ⟨by decide, rfl, rfl⟩
theorem za_mesh_2 {b : Nat} (hb : b = 3 ∨ b = 15 ∨ b = 27) : zar (b + 2) 8 := by
  rcases hb with rfl | rfl | rfl <;> exact ⟨by decide, rfl, rfl⟩
theorem za_mesh_3 {b : Nat} (hb : b = 3 ∨ b = 15 ∨ b = 27) : zar (b + 3) 8 := by
  rcases hb with rfl | rfl | rfl <;> exact ⟨by decide, rfl, rfl⟩
theorem za_mesh_4 {b : Nat} (hb : b = 3 ∨ b = 15 ∨ b = 27) : zar (b + 4) 8 := by
  rcases hb with rfl | rfl | rfl <;> exact ⟨by decide, rfl, rfl⟩
theorem za_mesh_5 {b : Nat} (hb : b = 3 ∨ b = 15 ∨ b = 27) : zar (b + 5) 8 := by
  rcases hb with rfl | rfl | rfl <;> exact ⟨by decide, rfl, rfl⟩
theorem za_mesh_6 {b : Nat} (hb : b = 3 ∨ b = 15 ∨ b = 27) : zar (b + 6) 8 := by
  rcases hb with rfl | rfl | rfl <;> exact ⟨by decide, rfl, rfl⟩
theorem za_mesh_7 {b : Nat} (hb : b = 3 ∨ b = 15 ∨ b = 27) : zar (b + 7) 8 := by
  rcases hb with rfl | rfl | rfl <;> exact ⟨by decide, rfl, rfl⟩
theorem za_mesh_8 {b : Nat} (hb : b = 3 ∨ b = 15 ∨ b = 27) : zar (b + 8) 8 := by
  rcases hb with rfl | rfl | rfl <;> exact ⟨by decide, rfl, rfl⟩
theorem za_mesh_9 {b : Nat} (hb : b = 3 ∨ b = 15 ∨ b = 27) : zar (b + 9) 8 := by
  rcases hb with rfl | rfl | rfl <;> exact ⟨by decide, rfl, rfl⟩
theorem za_mesh_10 {b : Nat} (hb : b = 3 ∨ b = 15 ∨ b = 27) : zar (b + 10) 8 := by
  rcases hb with rfl | rfl | rfl <;> exact ⟨by decide, rfl, rfl⟩
theorem za_mesh_11 {b : Nat} (hb : b = 3 ∨ b = 15 ∨ b = 27) : zar (b + 11) 8 := by
  rcases hb with rfl | rfl | rfl <;> exact ⟨by decide, rfl, rfl⟩
theorem za_row {r : Nat} (hr : r = 54 ∨ r = 55 ∨ r = 56) : zar r 25 := by
  rcases hr with rfl | rfl | rfl <;> exact ⟨by decide, rfl, rfl⟩
theorem zC_g {c : Nat} (h0 : c ≠ 0) (h1 : c ≠ 51) (X : zXT) (g g2 : zLg) (r : Nat → Int32) : zC X g c r = zC X g2 c r := by
  by_cases hc : c < 71
  · have key : zkind c ≠ 6 ∧ zkind c ≠ 7 := by
      have : ∀ c, c < 71 → c ≠ 0 → c ≠ 51 → zkind c ≠ 6 ∧ zkind c ≠ 7 := by decide +kernel
      exact this c hc h0 h1
    unfold zC
    split <;> first | rfl | (exfalso; omega)
  · have key : zkind c = 10 := by
      have hl : 71 ≤ c := by omega
      unfold zkind
      rw [List.getD_eq_getElem?_getD, List.getElem?_eq_none (by simpa using hl)]
      rfl
    unfold zC
    rw [key]
    rfl
theorem zg_other_Slots (X : zXT) (h : zHp) (g : zLg) (x : Int64) : ∀ d, d ≠ 0 → zC X (zupg g 0 x) d (h d) = zC X g d (h d) := by
  intro d hd
  by_cases h1 : d = 51
  · subst h1; rfl
  · exact zC_g hd h1 X _ _ _
theorem zg_other_Model (X : zXT) (h : zHp) (g : zLg) (x : Int64) : ∀ d, d ≠ 51 → zC X (zupg g 1 x) d (h d) = zC X g d (h d) := by
  intro d hd
  by_cases h1 : d = 0
  · subst h1; rfl
  · exact zC_g h1 hd X _ _ _
section ZG
variable {X : zXT} {Γ : zGT} {Q : State → Prop} {cc : ByteArray} {own : String} {nL d : Nat} {rt : Option FieldType} {pc : Nat} {lv : List (Option Value)} {st : List Value} {h : zHp} {g : zLg}
theorem gf_Acts_0  (K : zOk X Γ cc own nL d rt) {idx : Nat} (hw : Cond.fieldLink own idx "PeriodSlots$Acts" "before" "LPeriodSlots$Shelf;" ∈ zU) (hd : decode cc pc = .ok (.getfield idx, 3)) (kk : zV X Γ Q (pc + 3) lv (zR X 42 :: st) h g) : zV X Γ Q pc lv (zR X 41 :: st) h g :=
  zr_get K (by decide) (zC_Acts X g _) rfl zi_Acts 0 (by decide) hw rfl hd kk
theorem gf_Acts_1  (K : zOk X Γ cc own nL d rt) {idx : Nat} (hw : Cond.fieldLink own idx "PeriodSlots$Acts" "newest" "I" ∈ zU) (hd : decode cc pc = .ok (.getfield idx, 3)) (kk : zV X Γ Q (pc + 3) lv (.int (h 41 0) :: st) h g) : zV X Γ Q pc lv (zR X 41 :: st) h g :=
  zr_get K (by decide) (zC_Acts X g _) rfl zi_Acts 1 (by decide) hw rfl hd kk
theorem pf_Acts_1  {x : Int32} (K : zOk X Γ cc own nL d rt) {idx : Nat} (hw : Cond.fieldLink own idx "PeriodSlots$Acts" "newest" "I" ∈ zU) (hd : decode cc pc = .ok (.putfield idx, 3)) (kk : zV X Γ Q (pc + 3) lv st (zup h 41 0 x) g) : zV X Γ Q pc lv (.int x :: zR X 41 :: st) h g :=
  zr_put K (by decide) (zC_Acts X g _) rfl zi_Acts zY_Acts zY_Acts_ok zT_Acts_nm 1 (by decide) hw rfl rfl rfl (Nat.le_of_ble_eq_true rfl) (zw_up X h g (by rw [zC_Acts X g _]; rfl)) hd kk
theorem gf_Acts_2  (K : zOk X Γ cc own nL d rt) {idx : Nat} (hw : Cond.fieldLink own idx "PeriodSlots$Acts" "size" "I" ∈ zU) (hd : decode cc pc = .ok (.getfield idx, 3)) (kk : zV X Γ Q (pc + 3) lv (.int (h 41 1) :: st) h g) : zV X Γ Q pc lv (zR X 41 :: st) h g :=
  zr_get K (by decide) (zC_Acts X g _) rfl zi_Acts 2 (by decide) hw rfl hd kk
theorem pf_Acts_2  {x : Int32} (K : zOk X Γ cc own nL d rt) {idx : Nat} (hw : Cond.fieldLink own idx "PeriodSlots$Acts" "size" "I" ∈ zU) (hd : decode cc pc = .ok (.putfield idx, 3)) (kk : zV X Γ Q (pc + 3) lv st (zup h 41 1 x) g) : zV X Γ Q pc lv (.int x :: zR X 41 :: st) h g :=
  zr_put K (by decide) (zC_Acts X g _) rfl zi_Acts zY_Acts zY_Acts_ok zT_Acts_nm 2 (by decide) hw rfl rfl rfl (Nat.le_of_ble_eq_true rfl) (zw_up X h g (by rw [zC_Acts X g _]; rfl)) hd kk
theorem gf_Mesh_0 {b : Nat} (K : zOk X Γ cc own nL d rt) (hb : b = 3 ∨ b = 15 ∨ b = 27) {idx : Nat} (hw : Cond.fieldLink own idx "PeriodSlots$Mesh" "count" "I" ∈ zU) (hd : decode cc pc = .ok (.getfield idx, 3)) (kk : zV X Γ Q (pc + 3) lv (.int (h b 0) :: st) h g) : zV X Γ Q pc lv (zR X b :: st) h g :=
  zr_get K (by omega) (zC_Mesh hb X g _) rfl zi_Mesh 0 (by decide) hw rfl hd kk
theorem pf_Mesh_0 {b : Nat} {x : Int32} (K : zOk X Γ cc own nL d rt) (hb : b = 3 ∨ b = 15 ∨ b = 27) {idx : Nat} (hw : Cond.fieldLink own idx "PeriodSlots$Mesh" "count" "I" ∈ zU) (hd : decode cc pc = .ok (.putfield idx, 3)) (kk : zV X Γ Q (pc + 3) lv st (zup h b 0 x) g) : zV X Γ Q pc lv (.int x :: zR X b :: st) h g :=
  zr_put K (by omega) (zC_Mesh hb X g _) rfl zi_Mesh zY_Mesh zY_Mesh_ok zT_Mesh_nm 0 (by decide) hw rfl rfl rfl (Nat.le_of_ble_eq_true rfl) (zw_up X h g (by rw [zC_Mesh hb X g _]; rfl)) hd kk
theorem gf_Mesh_1 {b : Nat} (K : zOk X Γ cc own nL d rt) (hb : b = 3 ∨ b = 15 ∨ b = 27) {idx : Nat} (hw : Cond.fieldLink own idx "PeriodSlots$Mesh" "roundNumber" "I" ∈ zU) (hd : decode cc pc = .ok (.getfield idx, 3)) (kk : zV X Γ Q (pc + 3) lv (.int (h b 1) :: st) h g) : zV X Γ Q pc lv (zR X b :: st) h g :=
  zr_get K (by omega) (zC_Mesh hb X g _) rfl zi_Mesh 1 (by decide) hw rfl hd kk
theorem pf_Mesh_1 {b : Nat} {x : Int32} (K : zOk X Γ cc own nL d rt) (hb : b = 3 ∨ b = 15 ∨ b = 27) {idx : Nat} (hw : Cond.fieldLink own idx "PeriodSlots$Mesh" "roundNumber" "I" ∈ zU) (hd : decode cc pc = .ok (.putfield idx, 3)) (kk : zV X Γ Q (pc + 3) lv st (zup h b 1 x) g) : zV X Γ Q pc lv (.int x :: zR X b :: st) h g :=
  zr_put K (by omega) (zC_Mesh hb X g _) rfl zi_Mesh zY_Mesh zY_Mesh_ok zT_Mesh_nm 1 (by decide) hw rfl rfl rfl (Nat.le_of_ble_eq_true rfl) (zw_up X h g (by rw [zC_Mesh hb X g _]; rfl)) hd kk
theorem gf_Mesh_2 {b : Nat} (K : zOk X Γ cc own nL d rt) (hb : b = 3 ∨ b = 15 ∨ b = 27) {idx : Nat} (hw : Cond.fieldLink own idx "PeriodSlots$Mesh" "gainfulRounds" "I" ∈ zU) (hd : decode cc pc = .ok (.getfield idx, 3)) (kk : zV X Γ Q (pc + 3) lv (.int (h b 2) :: st) h g) : zV X Γ Q pc lv (zR X b :: st) h g :=
  zr_get K (by omega) (zC_Mesh hb X g _) rfl zi_Mesh 2 (by decide) hw rfl hd kk
theorem pf_Mesh_2 {b : Nat} {x : Int32} (K : zOk X Γ cc own nL d rt) (hb : b = 3 ∨ b = 15 ∨ b = 27) {idx : Nat} (hw : Cond.fieldLink own idx "PeriodSlots$Mesh" "gainfulRounds" "I" ∈ zU) (hd : decode cc pc = .ok (.putfield idx, 3)) (kk : zV X Γ Q (pc + 3) lv st (zup h b 2 x) g) : zV X Γ Q pc lv (.int x :: zR X b :: st) h g :=
  zr_put K (by omega) (zC_Mesh hb X g _) rfl zi_Mesh zY_Mesh zY_Mesh_ok zT_Mesh_nm 2 (by decide) hw rfl rfl rfl (Nat.le_of_ble_eq_true rfl) (zw_up X h g (by rw [zC_Mesh hb X g _]; rfl)) hd kk
theorem gf_Mesh_3 {b : Nat} (K : zOk X Γ cc own nL d rt) (hb : b = 3 ∨ b = 15 ∨ b = 27) {idx : Nat} (hw : Cond.fieldLink own idx "PeriodSlots$Mesh" "periods" "[I" ∈ zU) (hd : decode cc pc = .ok (.getfield idx, 3)) (kk : zV X Γ Q (pc + 3) lv (zR X (b + 1) :: st) h g) : zV X Γ Q pc lv (zR X b :: st) h g :=
  zr_get K (by omega) (zC_Mesh hb X g _) rfl zi_Mesh 3 (by decide) hw rfl hd kk
theorem gf_Mesh_4 {b : Nat} (K : zOk X Γ cc own nL d rt) (hb : b = 3 ∨ b = 15 ∨ b = 27) {idx : Nat} (hw : Cond.fieldLink own idx "PeriodSlots$Mesh" "links" "[I" ∈ zU) (hd : decode cc pc = .ok (.getfield idx, 3)) (kk : zV X Γ Q (pc + 3) lv (zR X (b + 2) :: st) h g) : zV X Γ Q pc lv (zR X b :: st) h g :=
  zr_get K (by omega) (zC_Mesh hb X g _) rfl zi_Mesh 4 (by decide) hw rfl hd kk
theorem gf_Mesh_5 {b : Nat} (K : zOk X Γ cc own nL d rt) (hb : b = 3 ∨ b = 15 ∨ b = 27) {idx : Nat} (hw : Cond.fieldLink own idx "PeriodSlots$Mesh" "offsets" "[I" ∈ zU) (hd : decode cc pc = .ok (.getfield idx, 3)) (kk : zV X Γ Q (pc + 3) lv (zR X (b + 3) :: st) h g) : zV X Γ Q pc lv (zR X b :: st) h g :=
  zr_get K (by omega) (zC_Mesh hb X g _) rfl zi_Mesh 5 (by decide) hw rfl hd kk
theorem gf_Mesh_6 {b : Nat} (K : zOk X Γ cc own nL d rt) (hb : b = 3 ∨ b = 15 ∨ b = 27) {idx : Nat} (hw : Cond.fieldLink own idx "PeriodSlots$Mesh" "olds" "[I" ∈ zU) (hd : decode cc pc = .ok (.getfield idx, 3)) (kk : zV X Γ Q (pc + 3) lv (zR X (b + 4) :: st) h g) : zV X Γ Q pc lv (zR X b :: st) h g :=
  zr_get K (by omega) (zC_Mesh hb X g _) rfl zi_Mesh 6 (by decide) hw rfl hd kk
theorem gf_Mesh_7 {b : Nat} (K : zOk X Γ cc own nL d rt) (hb : b = 3 ∨ b = 15 ∨ b = 27) {idx : Nat} (hw : Cond.fieldLink own idx "PeriodSlots$Mesh" "patterns" "[I" ∈ zU) (hd : decode cc pc = .ok (.getfield idx, 3)) (kk : zV X Γ Q (pc + 3) lv (zR X (b + 5) :: st) h g) : zV X Γ Q pc lv (zR X b :: st) h g :=
  zr_get K (by omega) (zC_Mesh hb X g _) rfl zi_Mesh 7 (by decide) hw rfl hd kk
theorem gf_Mesh_8 {b : Nat} (K : zOk X Γ cc own nL d rt) (hb : b = 3 ∨ b = 15 ∨ b = 27) {idx : Nat} (hw : Cond.fieldLink own idx "PeriodSlots$Mesh" "near" "[I" ∈ zU) (hd : decode cc pc = .ok (.getfield idx, 3)) (kk : zV X Γ Q (pc + 3) lv (zR X (b + 6) :: st) h g) : zV X Γ Q pc lv (zR X b :: st) h g :=
  zr_get K (by omega) (zC_Mesh hb X g _) rfl zi_Mesh 8 (by decide) hw rfl hd kk
theorem gf_Mesh_9 {b : Nat} (K : zOk X Γ cc own nL d rt) (hb : b = 3 ∨ b = 15 ∨ b = 27) {idx : Nat} (hw : Cond.fieldLink own idx "PeriodSlots$Mesh" "priorities" "[I" ∈ zU) (hd : decode cc pc = .ok (.getfield idx, 3)) (kk : zV X Γ Q (pc + 3) lv (zR X (b + 7) :: st) h g) : zV X Γ Q pc lv (zR X b :: st) h g :=
  zr_get K (by omega) (zC_Mesh hb X g _) rfl zi_Mesh 9 (by decide) hw rfl hd kk
theorem gf_Mesh_10 {b : Nat} (K : zOk X Γ cc own nL d rt) (hb : b = 3 ∨ b = 15 ∨ b = 27) {idx : Nat} (hw : Cond.fieldLink own idx "PeriodSlots$Mesh" "nearAbove" "[I" ∈ zU) (hd : decode cc pc = .ok (.getfield idx, 3)) (kk : zV X Γ Q (pc + 3) lv (zR X (b + 8) :: st) h g) : zV X Γ Q pc lv (zR X b :: st) h g :=
  zr_get K (by omega) (zC_Mesh hb X g _) rfl zi_Mesh 10 (by decide) hw rfl hd kk
theorem gf_Mesh_11 {b : Nat} (K : zOk X Γ cc own nL d rt) (hb : b = 3 ∨ b = 15 ∨ b = 27) {idx : Nat} (hw : Cond.fieldLink own idx "PeriodSlots$Mesh" "ticks" "[I" ∈ zU) (hd : decode cc pc = .ok (.getfield idx, 3)) (kk : zV X Γ Q (pc + 3) lv (zR X (b + 9) :: st) h g) : zV X Γ Q pc lv (zR X b :: st) h g :=
  zr_get K (by omega) (zC_Mesh hb X g _) rfl zi_Mesh 11 (by decide) hw rfl hd kk
theorem gf_Mesh_12 {b : Nat} (K : zOk X Γ cc own nL d rt) (hb : b = 3 ∨ b = 15 ∨ b = 27) {idx : Nat} (hw : Cond.fieldLink own idx "PeriodSlots$Mesh" "occupied" "[I" ∈ zU) (hd : decode cc pc = .ok (.getfield idx, 3)) (kk : zV X Γ Q (pc + 3) lv (zR X (b + 10) :: st) h g) : zV X Γ Q pc lv (zR X b :: st) h g :=
  zr_get K (by omega) (zC_Mesh hb X g _) rfl zi_Mesh 12 (by decide) hw rfl hd kk
theorem gf_Mesh_13 {b : Nat} (K : zOk X Γ cc own nL d rt) (hb : b = 3 ∨ b = 15 ∨ b = 27) {idx : Nat} (hw : Cond.fieldLink own idx "PeriodSlots$Mesh" "next" "[I" ∈ zU) (hd : decode cc pc = .ok (.getfield idx, 3)) (kk : zV X Γ Q (pc + 3) lv (zR X (b + 11) :: st) h g) : zV X Γ Q pc lv (zR X b :: st) h g :=
  zr_get K (by omega) (zC_Mesh hb X g _) rfl zi_Mesh 13 (by decide) hw rfl hd kk
theorem gf_Obs_0  (K : zOk X Γ cc own nL d rt) {idx : Nat} (hw : Cond.fieldLink own idx "PeriodSlots$Observations" "stations" "[I" ∈ zU) (hd : decode cc pc = .ok (.getfield idx, 3)) (kk : zV X Γ Q (pc + 3) lv (zR X 47 :: st) h g) : zV X Γ Q pc lv (zR X 46 :: st) h g :=
  zr_get K (by decide) (zC_Obs X g _) rfl zi_Obs 0 (by decide) hw rfl hd kk
theorem gf_Obs_1  (K : zOk X Γ cc own nL d rt) {idx : Nat} (hw : Cond.fieldLink own idx "PeriodSlots$Observations" "ticks" "[I" ∈ zU) (hd : decode cc pc = .ok (.getfield idx, 3)) (kk : zV X Γ Q (pc + 3) lv (zR X 48 :: st) h g) : zV X Γ Q pc lv (zR X 46 :: st) h g :=
  zr_get K (by decide) (zC_Obs X g _) rfl zi_Obs 1 (by decide) hw rfl hd kk
theorem gf_Obs_2  (K : zOk X Γ cc own nL d rt) {idx : Nat} (hw : Cond.fieldLink own idx "PeriodSlots$Observations" "sights" "[I" ∈ zU) (hd : decode cc pc = .ok (.getfield idx, 3)) (kk : zV X Γ Q (pc + 3) lv (zR X 49 :: st) h g) : zV X Γ Q pc lv (zR X 46 :: st) h g :=
  zr_get K (by decide) (zC_Obs X g _) rfl zi_Obs 2 (by decide) hw rfl hd kk
theorem gf_Obs_3  (K : zOk X Γ cc own nL d rt) {idx : Nat} (hw : Cond.fieldLink own idx "PeriodSlots$Observations" "size" "I" ∈ zU) (hd : decode cc pc = .ok (.getfield idx, 3)) (kk : zV X Γ Q (pc + 3) lv (.int (h 46 0) :: st) h g) : zV X Γ Q pc lv (zR X 46 :: st) h g :=
  zr_get K (by decide) (zC_Obs X g _) rfl zi_Obs 3 (by decide) hw rfl hd kk
theorem pf_Obs_3  {x : Int32} (K : zOk X Γ cc own nL d rt) {idx : Nat} (hw : Cond.fieldLink own idx "PeriodSlots$Observations" "size" "I" ∈ zU) (hd : decode cc pc = .ok (.putfield idx, 3)) (kk : zV X Γ Q (pc + 3) lv st (zup h 46 0 x) g) : zV X Γ Q pc lv (.int x :: zR X 46 :: st) h g :=
  zr_put K (by decide) (zC_Obs X g _) rfl zi_Obs zY_Obs zY_Obs_ok zT_Obs_nm 3 (by decide) hw rfl rfl rfl (Nat.le_of_ble_eq_true rfl) (zw_up X h g (by rw [zC_Obs X g _]; rfl)) hd kk
theorem gf_Planner_0  (K : zOk X Γ cc own nL d rt) {idx : Nat} (hw : Cond.fieldLink own idx "PeriodSlots$Planner" "offsets" "[I" ∈ zU) (hd : decode cc pc = .ok (.getfield idx, 3)) (kk : zV X Γ Q (pc + 3) lv (zR X 40 :: st) h g) : zV X Γ Q pc lv (zR X 39 :: st) h g :=
  zr_get K (by decide) (zC_Planner X g _) rfl zi_Planner 0 (by decide) hw rfl hd kk
theorem gf_Shelf_0 {b : Nat} (K : zOk X Γ cc own nL d rt) (hb : b = 42 ∨ b = 44) {idx : Nat} (hw : Cond.fieldLink own idx "PeriodSlots$Shelf" "rows" "I" ∈ zU) (hd : decode cc pc = .ok (.getfield idx, 3)) (kk : zV X Γ Q (pc + 3) lv (.int (h b 0) :: st) h g) : zV X Γ Q pc lv (zR X b :: st) h g :=
  zr_get K (by omega) (zC_Shelf hb X g _) rfl zi_Shelf 0 (by decide) hw rfl hd kk
theorem gf_Shelf_1 {b : Nat} (K : zOk X Γ cc own nL d rt) (hb : b = 42 ∨ b = 44) {idx : Nat} (hw : Cond.fieldLink own idx "PeriodSlots$Shelf" "cells" "[I" ∈ zU) (hd : decode cc pc = .ok (.getfield idx, 3)) (kk : zV X Γ Q (pc + 3) lv (zR X (b + 1) :: st) h g) : zV X Γ Q pc lv (zR X b :: st) h g :=
  zr_get K (by omega) (zC_Shelf hb X g _) rfl zi_Shelf 1 (by decide) hw rfl hd kk
theorem gf_Shelf_2 {b : Nat} (K : zOk X Γ cc own nL d rt) (hb : b = 42 ∨ b = 44) {idx : Nat} (hw : Cond.fieldLink own idx "PeriodSlots$Shelf" "filled" "I" ∈ zU) (hd : decode cc pc = .ok (.getfield idx, 3)) (kk : zV X Γ Q (pc + 3) lv (.int (h b 1) :: st) h g) : zV X Γ Q pc lv (zR X b :: st) h g :=
  zr_get K (by omega) (zC_Shelf hb X g _) rfl zi_Shelf 2 (by decide) hw rfl hd kk
theorem pf_Shelf_2 {b : Nat} {x : Int32} (K : zOk X Γ cc own nL d rt) (hb : b = 42 ∨ b = 44) {idx : Nat} (hw : Cond.fieldLink own idx "PeriodSlots$Shelf" "filled" "I" ∈ zU) (hd : decode cc pc = .ok (.putfield idx, 3)) (kk : zV X Γ Q (pc + 3) lv st (zup h b 1 x) g) : zV X Γ Q pc lv (.int x :: zR X b :: st) h g :=
  zr_put K (by omega) (zC_Shelf hb X g _) rfl zi_Shelf zY_Shelf zY_Shelf_ok zT_Shelf_nm 2 (by decide) hw rfl rfl rfl (Nat.le_of_ble_eq_true rfl) (zw_up X h g (by rw [zC_Shelf hb X g _]; rfl)) hd kk
theorem gf_Text_0  (K : zOk X Γ cc own nL d rt) {idx : Nat} (hw : Cond.fieldLink own idx "PeriodSlots$Text" "bytes" "[I" ∈ zU) (hd : decode cc pc = .ok (.getfield idx, 3)) (kk : zV X Γ Q (pc + 3) lv (zR X 2 :: st) h g) : zV X Γ Q pc lv (zR X 1 :: st) h g :=
  zr_get K (by decide) (zC_Text X g _) rfl zi_Text 0 (by decide) hw rfl hd kk
theorem gf_Text_1  (K : zOk X Γ cc own nL d rt) {idx : Nat} (hw : Cond.fieldLink own idx "PeriodSlots$Text" "length" "I" ∈ zU) (hd : decode cc pc = .ok (.getfield idx, 3)) (kk : zV X Γ Q (pc + 3) lv (.int (h 1 0) :: st) h g) : zV X Γ Q pc lv (zR X 1 :: st) h g :=
  zr_get K (by decide) (zC_Text X g _) rfl zi_Text 1 (by decide) hw rfl hd kk
theorem pf_Text_1  {x : Int32} (K : zOk X Γ cc own nL d rt) {idx : Nat} (hw : Cond.fieldLink own idx "PeriodSlots$Text" "length" "I" ∈ zU) (hd : decode cc pc = .ok (.putfield idx, 3)) (kk : zV X Γ Q (pc + 3) lv st (zup h 1 0 x) g) : zV X Γ Q pc lv (.int x :: zR X 1 :: st) h g :=
  zr_put K (by decide) (zC_Text X g _) rfl zi_Text zY_Text zY_Text_ok zT_Text_nm 1 (by decide) hw rfl rfl rfl (Nat.le_of_ble_eq_true rfl) (zw_up X h g (by rw [zC_Text X g _]; rfl)) hd kk
theorem gf_Slots_0  (K : zOk X Γ cc own nL d rt) {idx : Nat} (hw : Cond.fieldLink own idx "PeriodSlots" "text" "LPeriodSlots$Text;" ∈ zU) (hd : decode cc pc = .ok (.getfield idx, 3)) (kk : zV X Γ Q (pc + 3) lv (zR X 1 :: st) h g) : zV X Γ Q pc lv (zR X 0 :: st) h g :=
  zr_get K (by decide) (zC_Slots X g _) rfl zi_Slots 0 (by decide) hw rfl hd kk
theorem gf_Slots_1  (K : zOk X Γ cc own nL d rt) {idx : Nat} (hw : Cond.fieldLink own idx "PeriodSlots" "mesh" "LPeriodSlots$Mesh;" ∈ zU) (hd : decode cc pc = .ok (.getfield idx, 3)) (kk : zV X Γ Q (pc + 3) lv (zR X 3 :: st) h g) : zV X Γ Q pc lv (zR X 0 :: st) h g :=
  zr_get K (by decide) (zC_Slots X g _) rfl zi_Slots 1 (by decide) hw rfl hd kk
theorem gf_Slots_2  (K : zOk X Γ cc own nL d rt) {idx : Nat} (hw : Cond.fieldLink own idx "PeriodSlots" "draft" "LPeriodSlots$Mesh;" ∈ zU) (hd : decode cc pc = .ok (.getfield idx, 3)) (kk : zV X Γ Q (pc + 3) lv (zR X 15 :: st) h g) : zV X Γ Q pc lv (zR X 0 :: st) h g :=
  zr_get K (by decide) (zC_Slots X g _) rfl zi_Slots 2 (by decide) hw rfl hd kk
theorem gf_Slots_3  (K : zOk X Γ cc own nL d rt) {idx : Nat} (hw : Cond.fieldLink own idx "PeriodSlots" "trial" "LPeriodSlots$Mesh;" ∈ zU) (hd : decode cc pc = .ok (.getfield idx, 3)) (kk : zV X Γ Q (pc + 3) lv (zR X 27 :: st) h g) : zV X Γ Q pc lv (zR X 0 :: st) h g :=
  zr_get K (by decide) (zC_Slots X g _) rfl zi_Slots 3 (by decide) hw rfl hd kk
theorem gf_Slots_4  (K : zOk X Γ cc own nL d rt) {idx : Nat} (hw : Cond.fieldLink own idx "PeriodSlots" "planner" "LPeriodSlots$Planner;" ∈ zU) (hd : decode cc pc = .ok (.getfield idx, 3)) (kk : zV X Γ Q (pc + 3) lv (zR X 39 :: st) h g) : zV X Γ Q pc lv (zR X 0 :: st) h g :=
  zr_get K (by decide) (zC_Slots X g _) rfl zi_Slots 4 (by decide) hw rfl hd kk
theorem gf_Slots_5  (K : zOk X Γ cc own nL d rt) {idx : Nat} (hw : Cond.fieldLink own idx "PeriodSlots" "acts" "LPeriodSlots$Acts;" ∈ zU) (hd : decode cc pc = .ok (.getfield idx, 3)) (kk : zV X Γ Q (pc + 3) lv (zR X 41 :: st) h g) : zV X Γ Q pc lv (zR X 0 :: st) h g :=
  zr_get K (by decide) (zC_Slots X g _) rfl zi_Slots 5 (by decide) hw rfl hd kk
theorem gf_Slots_6  (K : zOk X Γ cc own nL d rt) {idx : Nat} (hw : Cond.fieldLink own idx "PeriodSlots" "slots" "LPeriodSlots$Shelf;" ∈ zU) (hd : decode cc pc = .ok (.getfield idx, 3)) (kk : zV X Γ Q (pc + 3) lv (zR X 44 :: st) h g) : zV X Γ Q pc lv (zR X 0 :: st) h g :=
  zr_get K (by decide) (zC_Slots X g _) rfl zi_Slots 6 (by decide) hw rfl hd kk
theorem gf_Slots_7  (K : zOk X Γ cc own nL d rt) {idx : Nat} (hw : Cond.fieldLink own idx "PeriodSlots" "observations" "LPeriodSlots$Observations;" ∈ zU) (hd : decode cc pc = .ok (.getfield idx, 3)) (kk : zV X Γ Q (pc + 3) lv (zR X 46 :: st) h g) : zV X Γ Q pc lv (zR X 0 :: st) h g :=
  zr_get K (by decide) (zC_Slots X g _) rfl zi_Slots 7 (by decide) hw rfl hd kk
theorem gf_Slots_8  (K : zOk X Γ cc own nL d rt) {idx : Nat} (hw : Cond.fieldLink own idx "PeriodSlots" "statements" "[I" ∈ zU) (hd : decode cc pc = .ok (.getfield idx, 3)) (kk : zV X Γ Q (pc + 3) lv (zR X 50 :: st) h g) : zV X Γ Q pc lv (zR X 0 :: st) h g :=
  zr_get K (by decide) (zC_Slots X g _) rfl zi_Slots 8 (by decide) hw rfl hd kk
theorem gf_Slots_9  (K : zOk X Γ cc own nL d rt) {idx : Nat} (hw : Cond.fieldLink own idx "PeriodSlots" "chance" "J" ∈ zU) (hd : decode cc pc = .ok (.getfield idx, 3)) (kk : zV X Γ Q (pc + 3) lv (.long (g 0) :: st) h g) : zV X Γ Q pc lv (zR X 0 :: st) h g :=
  zr_get K (by decide) (zC_Slots X g _) rfl zi_Slots 9 (by decide) hw rfl hd kk
theorem pf_Slots_9 {x : Int64} (K : zOk X Γ cc own nL d rt) {idx : Nat} (hw : Cond.fieldLink own idx "PeriodSlots" "chance" "J" ∈ zU) (hd : decode cc pc = .ok (.putfield idx, 3)) (kk : zV X Γ Q (pc + 3) lv st h (zupg g 0 x)) : zV X Γ Q pc lv (.long x :: zR X 0 :: st) h g :=
  zr_put K (by decide) (zC_Slots X g _) rfl zi_Slots zY_Slots zY_Slots_ok zT_Slots_nm 9 (by decide) hw rfl rfl rfl (Nat.le_of_ble_eq_true rfl) (zw_upg X h g rfl (zg_other_Slots X h g x)) hd kk
theorem gf_Model_0  (K : zOk X Γ cc own nL d rt) {idx : Nat} (hw : Cond.fieldLink own idx "PeriodSlotsModel" "text" "[I" ∈ zU) (hd : decode cc pc = .ok (.getfield idx, 3)) (kk : zV X Γ Q (pc + 3) lv (zR X 52 :: st) h g) : zV X Γ Q pc lv (zR X 51 :: st) h g :=
  zr_get K (by decide) (zC_Model X g _) rfl zi_Model 0 (by decide) hw rfl hd kk
theorem gf_Model_1  (K : zOk X Γ cc own nL d rt) {idx : Nat} (hw : Cond.fieldLink own idx "PeriodSlotsModel" "length" "I" ∈ zU) (hd : decode cc pc = .ok (.getfield idx, 3)) (kk : zV X Γ Q (pc + 3) lv (.int (h 51 0) :: st) h g) : zV X Γ Q pc lv (zR X 51 :: st) h g :=
  zr_get K (by decide) (zC_Model X g _) rfl zi_Model 1 (by decide) hw rfl hd kk
theorem pf_Model_1  {x : Int32} (K : zOk X Γ cc own nL d rt) {idx : Nat} (hw : Cond.fieldLink own idx "PeriodSlotsModel" "length" "I" ∈ zU) (hd : decode cc pc = .ok (.putfield idx, 3)) (kk : zV X Γ Q (pc + 3) lv st (zup h 51 0 x) g) : zV X Γ Q pc lv (.int x :: zR X 51 :: st) h g :=
  zr_put K (by decide) (zC_Model X g _) rfl zi_Model zY_Model zY_Model_ok zT_Model_nm 1 (by decide) hw rfl rfl rfl (Nat.le_of_ble_eq_true rfl) (zw_up X h g (by rw [zC_Model X g _]; rfl)) hd kk
theorem gf_Model_2  (K : zOk X Γ cc own nL d rt) {idx : Nat} (hw : Cond.fieldLink own idx "PeriodSlotsModel" "stations" "I" ∈ zU) (hd : decode cc pc = .ok (.getfield idx, 3)) (kk : zV X Γ Q (pc + 3) lv (.int (h 51 1) :: st) h g) : zV X Γ Q pc lv (zR X 51 :: st) h g :=
  zr_get K (by decide) (zC_Model X g _) rfl zi_Model 2 (by decide) hw rfl hd kk
theorem pf_Model_2  {x : Int32} (K : zOk X Γ cc own nL d rt) {idx : Nat} (hw : Cond.fieldLink own idx "PeriodSlotsModel" "stations" "I" ∈ zU) (hd : decode cc pc = .ok (.putfield idx, 3)) (kk : zV X Γ Q (pc + 3) lv st (zup h 51 1 x) g) : zV X Γ Q pc lv (.int x :: zR X 51 :: st) h g :=
  zr_put K (by decide) (zC_Model X g _) rfl zi_Model zY_Model zY_Model_ok zT_Model_nm 2 (by decide) hw rfl rfl rfl (Nat.le_of_ble_eq_true rfl) (zw_up X h g (by rw [zC_Model X g _]; rfl)) hd kk
theorem gf_Model_3  (K : zOk X Γ cc own nL d rt) {idx : Nat} (hw : Cond.fieldLink own idx "PeriodSlotsModel" "period" "[I" ∈ zU) (hd : decode cc pc = .ok (.getfield idx, 3)) (kk : zV X Γ Q (pc + 3) lv (zR X 53 :: st) h g) : zV X Γ Q pc lv (zR X 51 :: st) h g :=
  zr_get K (by decide) (zC_Model X g _) rfl zi_Model 3 (by decide) hw rfl hd kk
theorem gf_Model_4  (K : zOk X Γ cc own nL d rt) {idx : Nat} (hw : Cond.fieldLink own idx "PeriodSlotsModel" "now" "[I" ∈ zU) (hd : decode cc pc = .ok (.getfield idx, 3)) (kk : zV X Γ Q (pc + 3) lv (zR X 54 :: st) h g) : zV X Γ Q pc lv (zR X 51 :: st) h g :=
  zr_get K (by decide) (zC_Model X g _) rfl zi_Model 4 (by decide) hw rfl hd kk
theorem gf_Model_5  (K : zOk X Γ cc own nL d rt) {idx : Nat} (hw : Cond.fieldLink own idx "PeriodSlotsModel" "trial" "[I" ∈ zU) (hd : decode cc pc = .ok (.getfield idx, 3)) (kk : zV X Γ Q (pc + 3) lv (zR X 55 :: st) h g) : zV X Γ Q pc lv (zR X 51 :: st) h g :=
  zr_get K (by decide) (zC_Model X g _) rfl zi_Model 5 (by decide) hw rfl hd kk
theorem gf_Model_6  (K : zOk X Γ cc own nL d rt) {idx : Nat} (hw : Cond.fieldLink own idx "PeriodSlotsModel" "spare" "[I" ∈ zU) (hd : decode cc pc = .ok (.getfield idx, 3)) (kk : zV X Γ Q (pc + 3) lv (zR X 56 :: st) h g) : zV X Γ Q pc lv (zR X 51 :: st) h g :=
  zr_get K (by decide) (zC_Model X g _) rfl zi_Model 6 (by decide) hw rfl hd kk
theorem gf_Model_7  (K : zOk X Γ cc own nL d rt) {idx : Nat} (hw : Cond.fieldLink own idx "PeriodSlotsModel" "diary" "[I" ∈ zU) (hd : decode cc pc = .ok (.getfield idx, 3)) (kk : zV X Γ Q (pc + 3) lv (zR X 57 :: st) h g) : zV X Γ Q pc lv (zR X 51 :: st) h g :=
  zr_get K (by decide) (zC_Model X g _) rfl zi_Model 7 (by decide) hw rfl hd kk
theorem gf_Model_8  (K : zOk X Γ cc own nL d rt) {idx : Nat} (hw : Cond.fieldLink own idx "PeriodSlotsModel" "doings" "I" ∈ zU) (hd : decode cc pc = .ok (.getfield idx, 3)) (kk : zV X Γ Q (pc + 3) lv (.int (h 51 2) :: st) h g) : zV X Γ Q pc lv (zR X 51 :: st) h g :=
  zr_get K (by decide) (zC_Model X g _) rfl zi_Model 8 (by decide) hw rfl hd kk
theorem pf_Model_8  {x : Int32} (K : zOk X Γ cc own nL d rt) {idx : Nat} (hw : Cond.fieldLink own idx "PeriodSlotsModel" "doings" "I" ∈ zU) (hd : decode cc pc = .ok (.putfield idx, 3)) (kk : zV X Γ Q (pc + 3) lv st (zup h 51 2 x) g) : zV X Γ Q pc lv (.int x :: zR X 51 :: st) h g :=
  zr_put K (by decide) (zC_Model X g _) rfl zi_Model zY_Model zY_Model_ok zT_Model_nm 8 (by decide) hw rfl rfl rfl (Nat.le_of_ble_eq_true rfl) (zw_up X h g (by rw [zC_Model X g _]; rfl)) hd kk
theorem gf_Model_9  (K : zOk X Γ cc own nL d rt) {idx : Nat} (hw : Cond.fieldLink own idx "PeriodSlotsModel" "next" "I" ∈ zU) (hd : decode cc pc = .ok (.getfield idx, 3)) (kk : zV X Γ Q (pc + 3) lv (.int (h 51 3) :: st) h g) : zV X Γ Q pc lv (zR X 51 :: st) h g :=
  zr_get K (by decide) (zC_Model X g _) rfl zi_Model 9 (by decide) hw rfl hd kk
theorem pf_Model_9  {x : Int32} (K : zOk X Γ cc own nL d rt) {idx : Nat} (hw : Cond.fieldLink own idx "PeriodSlotsModel" "next" "I" ∈ zU) (hd : decode cc pc = .ok (.putfield idx, 3)) (kk : zV X Γ Q (pc + 3) lv st (zup h 51 3 x) g) : zV X Γ Q pc lv (.int x :: zR X 51 :: st) h g :=
  zr_put K (by decide) (zC_Model X g _) rfl zi_Model zY_Model zY_Model_ok zT_Model_nm 9 (by decide) hw rfl rfl rfl (Nat.le_of_ble_eq_true rfl) (zw_up X h g (by rw [zC_Model X g _]; rfl)) hd kk
theorem gf_Model_10  (K : zOk X Γ cc own nL d rt) {idx : Nat} (hw : Cond.fieldLink own idx "PeriodSlotsModel" "kept" "[I" ∈ zU) (hd : decode cc pc = .ok (.getfield idx, 3)) (kk : zV X Γ Q (pc + 3) lv (zR X 58 :: st) h g) : zV X Γ Q pc lv (zR X 51 :: st) h g :=
  zr_get K (by decide) (zC_Model X g _) rfl zi_Model 10 (by decide) hw rfl hd kk
theorem gf_Model_11  (K : zOk X Γ cc own nL d rt) {idx : Nat} (hw : Cond.fieldLink own idx "PeriodSlotsModel" "isKept" "[Z" ∈ zU) (hd : decode cc pc = .ok (.getfield idx, 3)) (kk : zV X Γ Q (pc + 3) lv (zR X 59 :: st) h g) : zV X Γ Q pc lv (zR X 51 :: st) h g :=
  zr_get K (by decide) (zC_Model X g _) rfl zi_Model 11 (by decide) hw rfl hd kk
theorem gf_Model_12  (K : zOk X Γ cc own nL d rt) {idx : Nat} (hw : Cond.fieldLink own idx "PeriodSlotsModel" "seenBy" "[I" ∈ zU) (hd : decode cc pc = .ok (.getfield idx, 3)) (kk : zV X Γ Q (pc + 3) lv (zR X 60 :: st) h g) : zV X Γ Q pc lv (zR X 51 :: st) h g :=
  zr_get K (by decide) (zC_Model X g _) rfl zi_Model 12 (by decide) hw rfl hd kk
theorem gf_Model_13  (K : zOk X Γ cc own nL d rt) {idx : Nat} (hw : Cond.fieldLink own idx "PeriodSlotsModel" "seenTick" "[I" ∈ zU) (hd : decode cc pc = .ok (.getfield idx, 3)) (kk : zV X Γ Q (pc + 3) lv (zR X 61 :: st) h g) : zV X Γ Q pc lv (zR X 51 :: st) h g :=
  zr_get K (by decide) (zC_Model X g _) rfl zi_Model 13 (by decide) hw rfl hd kk
theorem gf_Model_14  (K : zOk X Γ cc own nL d rt) {idx : Nat} (hw : Cond.fieldLink own idx "PeriodSlotsModel" "seenWas" "[I" ∈ zU) (hd : decode cc pc = .ok (.getfield idx, 3)) (kk : zV X Γ Q (pc + 3) lv (zR X 62 :: st) h g) : zV X Γ Q pc lv (zR X 51 :: st) h g :=
  zr_get K (by decide) (zC_Model X g _) rfl zi_Model 14 (by decide) hw rfl hd kk
theorem gf_Model_15  (K : zOk X Γ cc own nL d rt) {idx : Nat} (hw : Cond.fieldLink own idx "PeriodSlotsModel" "seen" "I" ∈ zU) (hd : decode cc pc = .ok (.getfield idx, 3)) (kk : zV X Γ Q (pc + 3) lv (.int (h 51 4) :: st) h g) : zV X Γ Q pc lv (zR X 51 :: st) h g :=
  zr_get K (by decide) (zC_Model X g _) rfl zi_Model 15 (by decide) hw rfl hd kk
theorem pf_Model_15  {x : Int32} (K : zOk X Γ cc own nL d rt) {idx : Nat} (hw : Cond.fieldLink own idx "PeriodSlotsModel" "seen" "I" ∈ zU) (hd : decode cc pc = .ok (.putfield idx, 3)) (kk : zV X Γ Q (pc + 3) lv st (zup h 51 4 x) g) : zV X Γ Q pc lv (.int x :: zR X 51 :: st) h g :=
  zr_put K (by decide) (zC_Model X g _) rfl zi_Model zY_Model zY_Model_ok zT_Model_nm 15 (by decide) hw rfl rfl rfl (Nat.le_of_ble_eq_true rfl) (zw_up X h g (by rw [zC_Model X g _]; rfl)) hd kk
theorem gf_Model_16  (K : zOk X Γ cc own nL d rt) {idx : Nat} (hw : Cond.fieldLink own idx "PeriodSlotsModel" "seed" "J" ∈ zU) (hd : decode cc pc = .ok (.getfield idx, 3)) (kk : zV X Γ Q (pc + 3) lv (.long (g 1) :: st) h g) : zV X Γ Q pc lv (zR X 51 :: st) h g :=
  zr_get K (by decide) (zC_Model X g _) rfl zi_Model 16 (by decide) hw rfl hd kk
theorem pf_Model_16 {x : Int64} (K : zOk X Γ cc own nL d rt) {idx : Nat} (hw : Cond.fieldLink own idx "PeriodSlotsModel" "seed" "J" ∈ zU) (hd : decode cc pc = .ok (.putfield idx, 3)) (kk : zV X Γ Q (pc + 3) lv st h (zupg g 1 x)) : zV X Γ Q pc lv (.long x :: zR X 51 :: st) h g :=
  zr_put K (by decide) (zC_Model X g _) rfl zi_Model zY_Model zY_Model_ok zT_Model_nm 16 (by decide) hw rfl rfl rfl (Nat.le_of_ble_eq_true rfl) (zw_upg X h g rfl (zg_other_Model X h g x)) hd kk
theorem gf_Model_17  (K : zOk X Γ cc own nL d rt) {idx : Nat} (hw : Cond.fieldLink own idx "PeriodSlotsModel" "readStations" "I" ∈ zU) (hd : decode cc pc = .ok (.getfield idx, 3)) (kk : zV X Γ Q (pc + 3) lv (.int (h 51 5) :: st) h g) : zV X Γ Q pc lv (zR X 51 :: st) h g :=
  zr_get K (by decide) (zC_Model X g _) rfl zi_Model 17 (by decide) hw rfl hd kk
theorem pf_Model_17  {x : Int32} (K : zOk X Γ cc own nL d rt) {idx : Nat} (hw : Cond.fieldLink own idx "PeriodSlotsModel" "readStations" "I" ∈ zU) (hd : decode cc pc = .ok (.putfield idx, 3)) (kk : zV X Γ Q (pc + 3) lv st (zup h 51 5 x) g) : zV X Γ Q pc lv (.int x :: zR X 51 :: st) h g :=
  zr_put K (by decide) (zC_Model X g _) rfl zi_Model zY_Model zY_Model_ok zT_Model_nm 17 (by decide) hw rfl rfl rfl (Nat.le_of_ble_eq_true rfl) (zw_up X h g (by rw [zC_Model X g _]; rfl)) hd kk
theorem gf_Model_18  (K : zOk X Γ cc own nL d rt) {idx : Nat} (hw : Cond.fieldLink own idx "PeriodSlotsModel" "readPeriod" "[I" ∈ zU) (hd : decode cc pc = .ok (.getfield idx, 3)) (kk : zV X Γ Q (pc + 3) lv (zR X 63 :: st) h g) : zV X Γ Q pc lv (zR X 51 :: st) h g :=
  zr_get K (by decide) (zC_Model X g _) rfl zi_Model 18 (by decide) hw rfl hd kk
theorem gf_Model_19  (K : zOk X Γ cc own nL d rt) {idx : Nat} (hw : Cond.fieldLink own idx "PeriodSlotsModel" "readOffset" "[I" ∈ zU) (hd : decode cc pc = .ok (.getfield idx, 3)) (kk : zV X Γ Q (pc + 3) lv (zR X 64 :: st) h g) : zV X Γ Q pc lv (zR X 51 :: st) h g :=
  zr_get K (by decide) (zC_Model X g _) rfl zi_Model 19 (by decide) hw rfl hd kk
theorem gf_Model_20  (K : zOk X Γ cc own nL d rt) {idx : Nat} (hw : Cond.fieldLink own idx "PeriodSlotsModel" "readLinks" "[I" ∈ zU) (hd : decode cc pc = .ok (.getfield idx, 3)) (kk : zV X Γ Q (pc + 3) lv (zR X 65 :: st) h g) : zV X Γ Q pc lv (zR X 51 :: st) h g :=
  zr_get K (by decide) (zC_Model X g _) rfl zi_Model 20 (by decide) hw rfl hd kk
theorem gf_Model_21  (K : zOk X Γ cc own nL d rt) {idx : Nat} (hw : Cond.fieldLink own idx "PeriodSlotsModel" "part" "I" ∈ zU) (hd : decode cc pc = .ok (.getfield idx, 3)) (kk : zV X Γ Q (pc + 3) lv (.int (h 51 6) :: st) h g) : zV X Γ Q pc lv (zR X 51 :: st) h g :=
  zr_get K (by decide) (zC_Model X g _) rfl zi_Model 21 (by decide) hw rfl hd kk
theorem pf_Model_21  {x : Int32} (K : zOk X Γ cc own nL d rt) {idx : Nat} (hw : Cond.fieldLink own idx "PeriodSlotsModel" "part" "I" ∈ zU) (hd : decode cc pc = .ok (.putfield idx, 3)) (kk : zV X Γ Q (pc + 3) lv st (zup h 51 6 x) g) : zV X Γ Q pc lv (.int x :: zR X 51 :: st) h g :=
  zr_put K (by decide) (zC_Model X g _) rfl zi_Model zY_Model zY_Model_ok zT_Model_nm 21 (by decide) hw rfl rfl rfl (Nat.le_of_ble_eq_true rfl) (zw_up X h g (by rw [zC_Model X g _]; rfl)) hd kk
theorem gf_Model_22  (K : zOk X Γ cc own nL d rt) {idx : Nat} (hw : Cond.fieldLink own idx "PeriodSlotsModel" "place" "I" ∈ zU) (hd : decode cc pc = .ok (.getfield idx, 3)) (kk : zV X Γ Q (pc + 3) lv (.int (h 51 7) :: st) h g) : zV X Γ Q pc lv (zR X 51 :: st) h g :=
  zr_get K (by decide) (zC_Model X g _) rfl zi_Model 22 (by decide) hw rfl hd kk
theorem pf_Model_22  {x : Int32} (K : zOk X Γ cc own nL d rt) {idx : Nat} (hw : Cond.fieldLink own idx "PeriodSlotsModel" "place" "I" ∈ zU) (hd : decode cc pc = .ok (.putfield idx, 3)) (kk : zV X Γ Q (pc + 3) lv st (zup h 51 7 x) g) : zV X Γ Q pc lv (.int x :: zR X 51 :: st) h g :=
  zr_put K (by decide) (zC_Model X g _) rfl zi_Model zY_Model zY_Model_ok zT_Model_nm 22 (by decide) hw rfl rfl rfl (Nat.le_of_ble_eq_true rfl) (zw_up X h g (by rw [zC_Model X g _]; rfl)) hd kk
theorem gf_Model_23  (K : zOk X Γ cc own nL d rt) {idx : Nat} (hw : Cond.fieldLink own idx "PeriodSlotsModel" "readFirst" "I" ∈ zU) (hd : decode cc pc = .ok (.getfield idx, 3)) (kk : zV X Γ Q (pc + 3) lv (.int (h 51 8) :: st) h g) : zV X Γ Q pc lv (zR X 51 :: st) h g :=
  zr_get K (by decide) (zC_Model X g _) rfl zi_Model 23 (by decide) hw rfl hd kk
theorem pf_Model_23  {x : Int32} (K : zOk X Γ cc own nL d rt) {idx : Nat} (hw : Cond.fieldLink own idx "PeriodSlotsModel" "readFirst" "I" ∈ zU) (hd : decode cc pc = .ok (.putfield idx, 3)) (kk : zV X Γ Q (pc + 3) lv st (zup h 51 8 x) g) : zV X Γ Q pc lv (.int x :: zR X 51 :: st) h g :=
  zr_put K (by decide) (zC_Model X g _) rfl zi_Model zY_Model zY_Model_ok zT_Model_nm 23 (by decide) hw rfl rfl rfl (Nat.le_of_ble_eq_true rfl) (zw_up X h g (by rw [zC_Model X g _]; rfl)) hd kk
theorem gf_Model_24  (K : zOk X Γ cc own nL d rt) {idx : Nat} (hw : Cond.fieldLink own idx "PeriodSlotsModel" "on" "I" ∈ zU) (hd : decode cc pc = .ok (.getfield idx, 3)) (kk : zV X Γ Q (pc + 3) lv (.int (h 51 9) :: st) h g) : zV X Γ Q pc lv (zR X 51 :: st) h g :=
  zr_get K (by decide) (zC_Model X g _) rfl zi_Model 24 (by decide) hw rfl hd kk
theorem pf_Model_24  {x : Int32} (K : zOk X Γ cc own nL d rt) {idx : Nat} (hw : Cond.fieldLink own idx "PeriodSlotsModel" "on" "I" ∈ zU) (hd : decode cc pc = .ok (.putfield idx, 3)) (kk : zV X Γ Q (pc + 3) lv st (zup h 51 9 x) g) : zV X Γ Q pc lv (.int x :: zR X 51 :: st) h g :=
  zr_put K (by decide) (zC_Model X g _) rfl zi_Model zY_Model zY_Model_ok zT_Model_nm 24 (by decide) hw rfl rfl rfl (Nat.le_of_ble_eq_true rfl) (zw_up X h g (by rw [zC_Model X g _]; rfl)) hd kk
theorem gf_Model_25  (K : zOk X Γ cc own nL d rt) {idx : Nat} (hw : Cond.fieldLink own idx "PeriodSlotsModel" "near" "[I" ∈ zU) (hd : decode cc pc = .ok (.getfield idx, 3)) (kk : zV X Γ Q (pc + 3) lv (zR X 66 :: st) h g) : zV X Γ Q pc lv (zR X 51 :: st) h g :=
  zr_get K (by decide) (zC_Model X g _) rfl zi_Model 25 (by decide) hw rfl hd kk
theorem gf_Model_26  (K : zOk X Γ cc own nL d rt) {idx : Nat} (hw : Cond.fieldLink own idx "PeriodSlotsModel" "moved" "[I" ∈ zU) (hd : decode cc pc = .ok (.getfield idx, 3)) (kk : zV X Γ Q (pc + 3) lv (zR X 67 :: st) h g) : zV X Γ Q pc lv (zR X 51 :: st) h g :=
  zr_get K (by decide) (zC_Model X g _) rfl zi_Model 26 (by decide) hw rfl hd kk
theorem gf_Model_27  (K : zOk X Γ cc own nL d rt) {idx : Nat} (hw : Cond.fieldLink own idx "PeriodSlotsModel" "movedOld" "[I" ∈ zU) (hd : decode cc pc = .ok (.getfield idx, 3)) (kk : zV X Γ Q (pc + 3) lv (zR X 68 :: st) h g) : zV X Γ Q pc lv (zR X 51 :: st) h g :=
  zr_get K (by decide) (zC_Model X g _) rfl zi_Model 27 (by decide) hw rfl hd kk
theorem gf_Model_28  (K : zOk X Γ cc own nL d rt) {idx : Nat} (hw : Cond.fieldLink own idx "PeriodSlotsModel" "moves" "Z" ∈ zU) (hd : decode cc pc = .ok (.getfield idx, 3)) (kk : zV X Γ Q (pc + 3) lv (.int (h 51 10) :: st) h g) : zV X Γ Q pc lv (zR X 51 :: st) h g :=
  zr_get K (by decide) (zC_Model X g _) rfl zi_Model 28 (by decide) hw rfl hd kk
theorem pf_Model_28  {x : Int32} (K : zOk X Γ cc own nL d rt) (hx : x = 0 ∨ x = 1) {idx : Nat} (hw : Cond.fieldLink own idx "PeriodSlotsModel" "moves" "Z" ∈ zU) (hd : decode cc pc = .ok (.putfield idx, 3)) (kk : zV X Γ Q (pc + 3) lv st (zup h 51 10 x) g) : zV X Γ Q pc lv (.int x :: zR X 51 :: st) h g :=
  zr_put K (by decide) (zC_Model X g _) rfl zi_Model zY_Model zY_Model_ok zT_Model_nm 28 (by decide) hw rfl (by rcases hx with rfl | rfl <;> rfl) (by rcases hx with rfl | rfl <;> rfl) (Nat.le_of_ble_eq_true rfl) (zw_up X h g (by rw [zC_Model X g _]; rfl)) hd kk
theorem gf_Model_29  (K : zOk X Γ cc own nL d rt) {idx : Nat} (hw : Cond.fieldLink own idx "PeriodSlotsModel" "movingRounds" "I" ∈ zU) (hd : decode cc pc = .ok (.getfield idx, 3)) (kk : zV X Γ Q (pc + 3) lv (.int (h 51 11) :: st) h g) : zV X Γ Q pc lv (zR X 51 :: st) h g :=
  zr_get K (by decide) (zC_Model X g _) rfl zi_Model 29 (by decide) hw rfl hd kk
theorem pf_Model_29  {x : Int32} (K : zOk X Γ cc own nL d rt) {idx : Nat} (hw : Cond.fieldLink own idx "PeriodSlotsModel" "movingRounds" "I" ∈ zU) (hd : decode cc pc = .ok (.putfield idx, 3)) (kk : zV X Γ Q (pc + 3) lv st (zup h 51 11 x) g) : zV X Γ Q pc lv (.int x :: zR X 51 :: st) h g :=
  zr_put K (by decide) (zC_Model X g _) rfl zi_Model zY_Model zY_Model_ok zT_Model_nm 29 (by decide) hw rfl rfl rfl (Nat.le_of_ble_eq_true rfl) (zw_up X h g (by rw [zC_Model X g _]; rfl)) hd kk
theorem gf_Model_30  (K : zOk X Γ cc own nL d rt) {idx : Nat} (hw : Cond.fieldLink own idx "PeriodSlotsModel" "planned" "[I" ∈ zU) (hd : decode cc pc = .ok (.getfield idx, 3)) (kk : zV X Γ Q (pc + 3) lv (zR X 69 :: st) h g) : zV X Γ Q pc lv (zR X 51 :: st) h g :=
  zr_get K (by decide) (zC_Model X g _) rfl zi_Model 30 (by decide) hw rfl hd kk
theorem gf_Model_31  (K : zOk X Γ cc own nL d rt) {idx : Nat} (hw : Cond.fieldLink own idx "PeriodSlotsModel" "worth" "[I" ∈ zU) (hd : decode cc pc = .ok (.getfield idx, 3)) (kk : zV X Γ Q (pc + 3) lv (zR X 70 :: st) h g) : zV X Γ Q pc lv (zR X 51 :: st) h g :=
  zr_get K (by decide) (zC_Model X g _) rfl zi_Model 31 (by decide) hw rfl hd kk
end ZG
