/-! Fields, rows, calls, returns over the fixed world. -/
section ZS
variable {X : zXT} {Γ : zGT} {Q : State → Prop} {cc : ByteArray} {own : String} {nL d : Nat} {rt : Option FieldType} {pc : Nat} {lv : List (Option Value)} {st : List Value} {h : zHp} {g : zLg}
theorem zr_get {c ci N idx : Nat} {C : String} {T : u_T} {fs : List Value} (K : zOk X Γ cc own nL d rt) (hc : c < 71) (he : zC X g c (h c) = .inr (ci, fs)) (hcl : zcl[ci]? = some (C, T, N)) (hin : ∀ w ∈ u_ws C T N, w ∈ zU) (k : Nat) (hk : k < N) (hw : Cond.fieldLink own idx (T k).1 (T k).2.1 (T k).2.2.1 ∈ zU) {v : Value} (hv : fs[k]? = some v) (hd : decode cc pc = .ok (.getfield idx, 3)) (kk : zV X Γ Q (pc + 3) lv (v :: st) h g) : zV X Γ Q pc lv (zR X c :: st) h g :=
  fun H L ls a b e => va_get (D := X.2.1) (cl := zcl) (ws := zw X h g) (tys := ztys X) K.1 K.2.1 K.2.2.2.2.1 hin K.2.2.2.1 K.2.2.2.2.2.1.1 a c (fs := fs) (by rw [zw_at X h g hc, he]) hcl k hk (K.2.2.2.2.1 _ hw) (fun x hx => hx) hv hd (kk H L ls a b e)
theorem zr_put {c ci N idx : Nat} {C : String} {T : u_T} {fs : List Value} {h2 : zHp} {g2 : zLg} (K : zOk X Γ cc own nL d rt) (hc : c < 71) (he : zC X g c (h c) = .inr (ci, fs)) (hcl : zcl[ci]? = some (C, T, N)) (hin : ∀ w ∈ u_ws C T N, w ∈ zU) (ty0 : Nat → FieldType) (hty : ∀ k, k < N → parseFieldDescriptor (T k).2.2.1 = some (ty0 k)) (hnm : ∀ a, a < N → ∀ b, b < N → a ≠ b → (T a).2.1 ≠ (T b).2.1) (k : Nat) (hk : k < N) (hw : Cond.fieldLink own idx (T k).1 (T k).2.1 (T k).2.2.1 ∈ zU) (hfin : (T k).2.2.2 = false) {v : Value} (hn : narrow (ty0 k) v = v) (hfit : fits (ty0 k) v = true) (hl : k < fs.length) (he2 : (zw X h g).set c (X.2.2.2.2 c, .inr (ci, fs.set k v)) = zw X h2 g2) (hd : decode cc pc = .ok (.putfield idx, 3)) (kk : zV X Γ Q (pc + 3) lv st h2 g2) : zV X Γ Q pc lv (v :: zR X c :: st) h g := by
  intro H L ls a b e
  refine va_put (D := X.2.1) (cl := zcl) (ws := zw X h g) (tys := ztys X) K.1 K.2.1 K.2.2.2.2.1 hin ty0 hty hnm K.2.2.2.1 K.2.2.2.2.2.1.1 a (zw_D K.2.2.2.2.2.1.2.1 h g) b c (fs := fs) (by rw [zw_at X h g hc, he]) hcl k hk (K.2.2.2.2.1 _ hw) (fun x hx => hx) hfin (hty k hk) hn hfit hl hd (fun H1 L1 hP hD hS => ?_)
  rw [he2] at hP
  exact kk H1 L1 ls hP hS e
/-- c is an int[] of n places -/
def zar (c n : Nat) : Prop := c < 71 ∧ zkind c = 8 ∧ zlen c = n
theorem zC_ar {c n : Nat} (ha : zar c n) (X : zXT) (g : zLg) (r : Nat → Int32) : zC X g c r = .inl (X.2.2.1, n, .inl r) := by
  unfold zC
  rw [ha.2.1, ha.2.2]
  rfl
theorem zr_iald {c n : Nat} (K : zOk X Γ cc own nL d rt) (ha : zar c n) (i : Nat) {x : Int32} (hx : x = nI i) (hi : i < n) (hn : n < 2 ^ 31 := by decide) (hd : decode cc pc = .ok (.iaload, 1)) (kk : zV X Γ Q (pc + 1) lv (.int (h c i) :: st) h g) : zV X Γ Q pc lv (.int x :: zR X c :: st) h g := by
  subst hx
  intro H L ls a b e
  refine va_iald (D := X.2.1) (cl := zcl) (ws := zw X h g) (tys := ztys X) K.1 K.2.1 K.2.2.2.2.2.1.1 a c 0 (cA := X.2.2.1) (n := n) (f := h c) (by rw [zw_at X h g ha.1, zC_ar ha]) rfl (vp_in_nI hi hn) hd ?_
  rw [nI_clamp (by omega)]
  exact kk H L ls a b e
theorem zr_iast {c n : Nat} (K : zOk X Γ cc own nL d rt) (ha : zar c n) (i : Nat) {x v : Int32} (hx : x = nI i) (hi : i < n) (hn : n < 2 ^ 31 := by decide) (hd : decode cc pc = .ok (.iastore, 1)) (kk : zV X Γ Q (pc + 1) lv st (zup h c i v) g) : zV X Γ Q pc lv (.int v :: .int x :: zR X c :: st) h g := by
  subst hx
  intro H L ls a b e
  refine va_iast (D := X.2.1) (cl := zcl) (ws := zw X h g) (tys := ztys X) K.1 K.2.1 K.2.2.2.2.2.1.1 a (zw_D K.2.2.2.2.2.1.2.1 h g) b c 0 (cA := X.2.2.1) (n := n) (f := h c) (by rw [zw_at X h g ha.1, zC_ar ha]) rfl (vp_in_nI hi hn) hd (fun H1 L1 hP hD hS => ?_)
  rw [nI_clamp (by omega), zw_up X h g (zC_ar ha X g _)] at hP
  exact kk H1 L1 ls hP hS e
theorem zr_alen {c n : Nat} (K : zOk X Γ cc own nL d rt) (ha : zar c n) (hd : decode cc pc = .ok (.arraylength, 1)) (kk : zV X Γ Q (pc + 1) lv (.int (nI n) :: st) h g) : zV X Γ Q pc lv (zR X c :: st) h g := by
  intro H L ls a b e
  exact va_alen (D := X.2.1) (cl := zcl) (ws := zw X h g) (tys := ztys X) K.1 K.2.1 K.2.2.2.2.2.1.1 a c 0 (cA := X.2.2.1) (x := (n, .inl (h c))) (by rw [zw_at X h g ha.1, zC_ar ha]) (ty := .int) rfl rfl hd (kk H L ls a b e)
theorem zr_zald (K : zOk X Γ cc own nL d rt) (i : Nat) {x : Int32} (hx : x = nI i) (hi : i < 2) (hd : decode cc pc = .ok (.baload, 1)) (kk : zV X Γ Q (pc + 1) lv (.int (h 59 i) :: st) h g) : zV X Γ Q pc lv (.int x :: zR X 59 :: st) h g := by
  subst hx
  intro H L ls a b e
  refine va_zald (D := X.2.1) (cl := zcl) (ws := zw X h g) (tys := ztys X) K.1 K.2.1 K.2.2.2.2.2.1.1 a 59 1 (cA := X.2.2.2.1) (n := 2) (f := h 59) (by rw [zw_at X h g (by decide)]; rfl) rfl (vp_in_nI hi (by decide)) hd ?_
  rw [nI_clamp (by omega)]
  exact kk H L ls a b e
theorem zr_zast (K : zOk X Γ cc own nL d rt) (i : Nat) {x v : Int32} (hx : x = nI i) (hi : i < 2) (hv : v = 0 ∨ v = 1) (hd : decode cc pc = .ok (.bastore, 1)) (kk : zV X Γ Q (pc + 1) lv st (zup h 59 i v) g) : zV X Γ Q pc lv (.int v :: .int x :: zR X 59 :: st) h g := by
  subst hx
  intro H L ls a b e
  refine va_zast (D := X.2.1) (cl := zcl) (ws := zw X h g) (tys := ztys X) K.1 K.2.1 K.2.2.2.2.2.1.1 a (zw_D K.2.2.2.2.2.1.2.1 h g) b 59 1 (cA := X.2.2.2.1) (n := 2) (f := h 59) (by rw [zw_at X h g (by decide)]; rfl) rfl (vp_in_nI hi (by decide)) hd (fun H1 L1 hP hD hS => ?_)
  rw [nI_clamp (by omega), show vp_nar .boolean v = v from (by rcases hv with rfl | rfl <;> rfl), zw_up X h g (c := 59) (k := i) (x := v) (e := .inl (X.2.2.2.1, 2, .inl (upd (h 59) i v))) rfl] at hP
  exact kk H1 L1 ls hP hS e
/-- System.arraycopy between int[]s -/
theorem zr_copy {c c2 n n2 idx : Nat} (K : zOk X Γ cc own nL d rt) (ha : zar c n) (ha2 : zar c2 n2) (hw : Cond.methodLink own idx arraycopyName ∈ zU) (i j k : Nat) {x y z : Int32} (hx : x = nI i) (hy : y = nI j) (hz : z = nI k) (h1 : i + k ≤ n) (h2 : j + k ≤ n2) (hn : n < 2 ^ 31 := by decide) (hn2 : n2 < 2 ^ 31 := by decide) (hnL : lv.length = nL) (hst : (st.map fun v => v.category).sum ≤ 8 := by decide) (hd1 : 1 ≤ d := by decide) (hd : decode cc pc = .ok (.invokestatic idx, 3)) (kk : zV X Γ Q (pc + 3) lv st (zcp h c c2 i j k) g) : zV X Γ Q pc lv (.int z :: .int y :: zR X c2 :: .int x :: zR X c :: st) h g := by
  subst hx hy hz
  intro H L ls a b e
  have q0 : ∀ t : Nat, t < 2 ^ 31 → ¬ nI t < 0 := fun t ht => nI_pos ht
  have h3 : nativeFrameWords "java/lang/System" "arraycopy" 5 + 11 ≤ 56 := by decide +kernel
  have h4 := K.2.2.2.2.2.2.1.1
  have h5 := K.2.2.2.2.2.2.1.2.1
  have hfr : 1 ≤ (zGR Γ).frames := by omega
  have hlo : (st.map fun v => v.category).sum + (nativeFrameWords "java/lang/System" "arraycopy" 5 + 11) ≤ (zGR Γ).locals := by omega
  refine va_copyi (D := X.2.1) (cl := zcl) (ws := zw X h g) (tys := ztys X) K.1 K.2.1 (by rw [K.2.2.1, e.1, hnL]) K.2.2.2.1 (K.2.2.2.2.1 _ hw) (K.2.2.2.2.1 _ (zU_in (i := 384) (by decide +kernel) rfl)) (K.2.2.2.2.1 _ (zU_in (i := 383) (by decide +kernel) rfl)) (K.2.2.2.2.1 _ (zU_in (i := 65) (by decide +kernel) rfl)) K.2.2.2.2.2.1.1 a (zw_D K.2.2.2.2.2.1.2.1 h g) b c c2 0 0 (c0 := X.2.2.1) (c1 := X.2.2.1) (n0 := n) (n1 := n2) (f := h c) (g := h c2) (ty := .int) (by rw [zw_at X h g ha.1, zC_ar ha]) (by rw [zw_at X h g ha2.1, zC_ar ha2]) rfl rfl rfl (q0 i (by omega)) (q0 j (by omega)) (q0 k (by omega)) (by rw [nI_clamp (by omega), nI_clamp (by omega)]; exact h1) (by rw [nI_clamp (by omega), nI_clamp (by omega)]; exact h2) (fun _ _ => rfl) hfr hlo hd (fun H1 L1 hP hD hS => ?_)
  rw [nI_clamp (by omega), nI_clamp (by omega), nI_clamp (by omega), zw_set X h (zcp h c c2 i j k) g g (by rw [zcp_eq]; exact zC_ar ha2 X g _) (fun e he => by rw [zcp_ne he])] at hP
  exact kk H1 L1 ls hP hS e
theorem zr_mmax {idx : Nat} {x y : Int32} (K : zOk X Γ cc own nL d rt) (hw : Cond.methodLink own idx Lib.Math.max.name ∈ zU) (hnL : lv.length = nL) (hst : (st.map fun v => v.category).sum ≤ 8 := by decide) (hd1 : 1 ≤ d := by decide) (hd : decode cc pc = .ok (.invokestatic idx, 3)) (kk : zV X Γ Q (pc + 3) lv (.int (if x < y then y else x) :: st) h g) : zV X Γ Q pc lv (.int y :: .int x :: st) h g :=
  fun H L ls a b e => va_mmax K.1 K.2.1 (by rw [K.2.2.1, e.1, hnL]) K.2.2.2.1 (K.2.2.2.2.1 _ hw) (K.2.2.2.2.1 _ (zU_in (i := 182) (by decide +kernel) rfl)) (K.2.2.2.2.1 _ (zU_in (i := 60) (by decide +kernel) rfl)) (K.2.2.2.2.1 _ (zU_in (i := 183) (by decide +kernel) rfl)) (by have := K.2.2.2.2.2.2.1.1; omega) (by have := K.2.2.2.2.2.2.1.2.1; omega) K.2.2.2.2.2.2.1.2.2.1 K.2.2.2.2.2.2.1.2.2.2 hd (kk H L ls a b e)
theorem zr_mmin {idx : Nat} {x y : Int32} (K : zOk X Γ cc own nL d rt) (hw : Cond.methodLink own idx Lib.Math.min.name ∈ zU) (hnL : lv.length = nL) (hst : (st.map fun v => v.category).sum ≤ 8 := by decide) (hd1 : 1 ≤ d := by decide) (hd : decode cc pc = .ok (.invokestatic idx, 3)) (kk : zV X Γ Q (pc + 3) lv (.int (if y < x then y else x) :: st) h g) : zV X Γ Q pc lv (.int y :: .int x :: st) h g :=
  fun H L ls a b e => va_mmin K.1 K.2.1 (by rw [K.2.2.1, e.1, hnL]) K.2.2.2.1 (K.2.2.2.2.1 _ hw) (K.2.2.2.2.1 _ (zU_in (i := 463) (by decide +kernel) rfl)) (K.2.2.2.2.1 _ (zU_in (i := 60) (by decide +kernel) rfl)) (K.2.2.2.2.1 _ (zU_in (i := 464) (by decide +kernel) rfl)) (by have := K.2.2.2.2.2.2.1.1; omega) (by have := K.2.2.2.2.2.2.1.2.1; omega) K.2.2.2.2.2.2.1.2.2.1 K.2.2.2.2.2.2.1.2.2.2 hd (kk H L ls a b e)
theorem zr_mabs {idx : Nat} {x : Int32} (K : zOk X Γ cc own nL d rt) (hw : Cond.methodLink own idx Lib.Math.abs.name ∈ zU) (hnL : lv.length = nL) (hst : (st.map fun v => v.category).sum ≤ 8 := by decide) (hd1 : 1 ≤ d := by decide) (hd : decode cc pc = .ok (.invokestatic idx, 3)) (kk : zV X Γ Q (pc + 3) lv (.int (if 0 ≤ x then x else 0 - x) :: st) h g) : zV X Γ Q pc lv (.int x :: st) h g :=
  fun H L ls a b e => va_mabs K.1 K.2.1 (by rw [K.2.2.1, e.1, hnL]) K.2.2.2.1 (K.2.2.2.2.1 _ hw) (K.2.2.2.2.1 _ (zU_in (i := 706) (by decide +kernel) rfl)) (K.2.2.2.2.1 _ (zU_in (i := 60) (by decide +kernel) rfl)) (K.2.2.2.2.1 _ (zU_in (i := 707) (by decide +kernel) rfl)) (by have := K.2.2.2.2.2.2.1.1; omega) (by have := K.2.2.2.2.2.2.1.2.1; omega) K.2.2.2.2.2.2.1.2.2.1 K.2.2.2.2.2.2.1.2.2.2 hd (kk H L ls a b e)
-- returns
theorem zr_end {H : Heap} {locs : List Loc} {o : Option Value} (K : zOk X Γ cc own nL d rt) (hP : va_P X.2.1 zcl (zw X h g) H) (hS : va_S (zA X) (zGs Γ).heap H locs) (t : State) (ht : t.heap = H) : zQD X o h g (zGa Γ) (zGs Γ) (.returned o) t :=
  ⟨⟨rfl, by unfold zSt; rw [ht]; exact hP⟩, hS.F ht⟩
theorem zr_ireti {x : Int32} (K : zOk X Γ cc own nL d (some .int)) (hd : decode cc pc = .ok (.ireturn, 1)) : zV X Γ (zTQ X Γ (zI x) h g) pc lv [.int x] h g :=
  fun H L ls a b e => W.iret K.1 K.2.1 K.2.2.2.2.2.2.2.1 (fun t ht _ => zr_end K a b t ht) b.2.2 hd K.2.2.2.2.2.2.2.2
theorem zr_iretz {x : Int32} (K : zOk X Γ cc own nL d (some .boolean)) (hx : x = 0 ∨ x = 1) (hd : decode cc pc = .ok (.ireturn, 1)) : zV X Γ (zTQ X Γ (zI x) h g) pc lv [.int x] h g :=
  fun H L ls a b e => W.zret K.1 K.2.1 K.2.2.2.2.2.2.2.1 (by rcases hx with rfl | rfl <;> rfl) (fun t ht _ => zr_end K a b t ht) b.2.2 hd K.2.2.2.2.2.2.2.2
theorem zr_lret {x : Int64} (K : zOk X Γ cc own nL d (some .long)) (hd : decode cc pc = .ok (.lreturn, 1)) : zV X Γ (zTQ X Γ (zL x) h g) pc lv [.long x] h g :=
  fun H L ls a b e => W.lret K.1 K.2.1 K.2.2.2.2.2.2.2.1 (fun t ht _ => zr_end K a b t ht) b.2.2 hd K.2.2.2.2.2.2.2.2
theorem zr_vret (K : zOk X Γ cc own nL d none) (hd : decode cc pc = .ok (.return_, 1)) : zV X Γ (zTQ X Γ none h g) pc lv [] h g :=
  fun H L ls a b e => W.vret K.1 K.2.1 K.2.2.2.2.2.2.2.1 (fun t ht _ => zr_end K a b t ht) b.2.2 hd K.2.2.2.2.2.2.2.2
/-- the numbers and the answer in other words -/
theorem zTQ_eq {o o2 : Option Value} {h2 h3 : zHp} {g2 g3 : zLg} (e1 : o = o2) (e2 : h2 = h3) (e3 : g2 = g3) (k : zV X Γ (zTQ X Γ o h2 g2) pc lv st h g) : zV X Γ (zTQ X Γ o2 h3 g3) pc lv st h g := by
  subst e1; subst e2; subst e3; exact k
-- calls
theorem zr_after {M : zMT} {dy : Nat} {av rest st0 : List Value} {o : Option Value} {h2 : zHp} {g2 : zLg} {H : Heap} {locs : List Loc} {ls : Array Slot} (K : zOk X Γ cc own nL d rt) (hr : va_Run (zGp Γ) X.1 (zGe Γ) (zGR Γ) (zGs Γ) (zGm Γ) (zGa Γ) (zGb Γ) (zGM Γ) (zGc Γ) H locs (zGkc Γ) (zGks Γ) 0 0 (F0 (zGm Γ) pc ls st0) rest (zQD X o h2 g2 av.toArray) (zA X)) (hS : va_S (zA X) (zGs Γ).heap H locs) (e : lv_has ls lv.length (zasc 0 lv)) (kk : zV X Γ Q (pc + 3) lv (o.toList ++ rest) h2 g2) : W (zGp Γ) X.1 (zGe Γ) (zGR Γ) (zGs Γ) (zGm Γ) (zGa Γ) (zGb Γ) (zGM Γ) (zGc Γ) H locs (zGkc Γ) (zGks Γ) Q (F0 (zGm Γ) pc ls st0) := by
  intro T hT Y
  obtain ⟨v, st₀, t, T', L, h0, Y', hL, e1, e2, ⟨⟨hv, hb⟩, hz, hk⟩, stp⟩ := hr T hT Y
  cases hv
  rw [h0] at hz hk
  have hP : va_P X.2.1 zcl (zw X h2 g2) T'.heap := by rw [e1]; exact hb
  have hS2 : va_S (zA X) (zGs Γ).heap T'.heap (locs ++ L) := ⟨Nat.le_trans hS.1 (by rw [e1]; exact hz), fun q q1 q2 => by rw [e1, hk q (Nat.lt_of_lt_of_le q1 hS.1) q2]; exact hS.2.1 q q1 q2, fun q hq => by
      rcases List.mem_append.mp hq with h | h
      · exact hS.2.2 q h
      · exact hL q h⟩
  obtain ⟨t2, a1, b1⟩ := kk T'.heap (locs ++ L) ls hP hS2 e T' rfl Y'
  exact ⟨t2, stp t2 a1, b1⟩
theorem zr_fix (K : zOk X Γ cc own nL d rt) : CallFix (zGp Γ) (zGm Γ) (zGc Γ) cc nL (zGs Γ) (zGa Γ) zU own := ⟨K.1, K.2.1, K.2.2.1, K.2.2.2.1, K.2.2.2.2.1⟩
theorem zr_blind (X : zXT) (av : List Value) (h : zHp) (g : zLg) : FrameBlind (va_Pc av (fun U => zSt X h g U ∧ zKn X U)) :=
  fun a U g mk q => ⟨q.1, q.2.1, va_K.moved (u := U) (U := U.calling g mk a) (Vm.Alike.refl U.vm) q.2.2.1, q.2.2.2.1, zNest_same (u := U) (U := U.calling g mk a) rfl q.2.2.2.2⟩
theorem zr_pre {H : Heap} (K : zOk X Γ cc own nL d rt) (av : List Value) (hP : va_P X.2.1 zcl (zw X h g) H) : ∀ U : State, U.heap = H → (zGs Γ).WarmedH U.vm → va_Pc av (fun U => zSt X h g U ∧ zKn X U) av.toArray U :=
  fun U hU hW => ⟨rfl, by unfold zSt; rw [hU]; exact hP, zKn_warm hW K.2.2.2.2.2.1⟩
theorem zr_room (K : zOk X Γ cc own nL d rt) {dy maxL : Nat} (h1 : dy + 1 ≤ d) (h2 : maxL ≤ 40) : (zrm dy).frames + 1 ≤ (zGR Γ).frames ∧ 8 + (maxL + 11) + (zrm dy).locals ≤ (zGR Γ).locals := by
  have := K.2.2.2.2.2.2.1.1
  have := K.2.2.2.2.2.2.1.2.1
  unfold zrm
  constructor
  · show dy + 1 ≤ _; omega
  · show 8 + (maxL + 11) + 64 * dy ≤ _; omega
/-- what a call of M needs of the tables (n: how many parameters) -/
def zcall (M : zMT) (n : Nat) : Prop := Cond.code M.1 M.2.1 M.2.2.1 M.2.2.2 ∈ zU ∧ Cond.initialized M.1.cls ∈ zU ∧ (M.1.cls ≠ "java/lang/invoke/MethodHandle" ∧ M.1.cls ≠ "java/lang/invoke/VarHandle" ∧ (parseMethodDescriptor M.1.desc).map (fun d => d.parameters.length) = some n) ∧ M.2.2.1 ≤ 40
/-- an object's method, public or private, by its own link -/
theorem zr_callV {M : zMT} {dy n idx c ci N : Nat} {C : String} {T : u_T} {fs As : List Value} {o : Option Value} {h2 : zHp} {g2 : zLg} (K : zOk X Γ cc own nL d rt) (hM : zDi X M dy (zR X c :: As) h g o h2 g2) (hm : zcall M n) (hl : Cond.methodLink own idx M.1 ∈ zU) (hi : Cond.instanceMethod M.1 ∈ zU) (hs : Cond.selects C M.1 M.1 ∈ zU) (hc : c < 71) (he : zC X g c (h c) = .inr (ci, fs)) (hcl : zcl[ci]? = some (C, T, N)) (hn : As.length = n) (hdy : dy + 1 ≤ d) (hnL : lv.length = nL) (hst : (st.map fun v => v.category).sum ≤ 8) (hd : decode cc pc = .ok (.invokevirtual idx, 3)) (kk : zV X Γ Q (pc + 3) lv (o.toList ++ st) h2 g2) : zV X Γ Q pc lv (As.reverse ++ zR X c :: st) h g := by
  intro H L ls a b e
  refine zr_after (M := M) (dy := dy) (av := zR X c :: As) K (va_runV (As := As) (rest := st) (zr_fix K) hM (C := C) ⟨callB_of n K.2.2.2.2.1 (zU_good' _ hm.1) rfl rfl rfl (K.2.2.2.2.1 _ hm.2.1) (K.2.2.2.2.1 _ hl) hm.2.2.1 (zr_room K hdy hm.2.2.2), K.2.2.2.2.1 _ hi, K.2.2.2.2.1 _ hs⟩ ⟨zr_blind X _ h g, va_recv (tys := ztys X) K.2.2.2.2.2.1.1 a hcl (q0 := c) (by rw [zw_at X h g hc, he]), zr_pre K _ a⟩ rfl hn (by rw [← hnL]; exact e.1) rfl (lv_room hst) hd ⟨K.2.2.2.2.2.2.1.2.2.1, K.2.2.2.2.2.2.1.2.2.2⟩) b e kk
/-- a static method by its own link -/
theorem zr_callS {M : zMT} {dy n idx : Nat} {As : List Value} {o : Option Value} {h2 : zHp} {g2 : zLg} (K : zOk X Γ cc own nL d rt) (hM : zDi X M dy As h g o h2 g2) (hm : zcall M n) (hl : Cond.methodLink own idx M.1 ∈ zU) (hi : Cond.static M.1 ∈ zU) (hn : As.length = n) (hdy : dy + 1 ≤ d) (hnL : lv.length = nL) (hst : (st.map fun v => v.category).sum ≤ 8) (hd : decode cc pc = .ok (.invokestatic idx, 3)) (kk : zV X Γ Q (pc + 3) lv (o.toList ++ st) h2 g2) : zV X Γ Q pc lv (As.reverse ++ st) h g := by
  intro H L ls a b e
  refine zr_after (M := M) (dy := dy) (av := As) K (va_runS (As := As) (rest := st) (zr_fix K) hM ⟨callB_of n K.2.2.2.2.1 (zU_good' _ hm.1) rfl rfl rfl (K.2.2.2.2.1 _ hm.2.1) (K.2.2.2.2.1 _ hl) hm.2.2.1 (zr_room K hdy hm.2.2.2), K.2.2.2.2.1 _ hi⟩ ⟨zr_blind X _ h g, zr_pre K _ a⟩ rfl hn (by rw [← hnL]; exact e.1) rfl (lv_room hst) hd ⟨K.2.2.2.2.2.2.1.2.2.1, K.2.2.2.2.2.2.1.2.2.2⟩) b e kk
/-- a private static method of the nest's host -/
theorem zr_callN {M : zMT} {dy n idx : Nat} {host : String} {As : List Value} {o : Option Value} {h2 : zHp} {g2 : zLg} (K : zOk X Γ cc own nL d rt) (hM : zDi X M dy As h g o h2 g2) (hm : zcall M n) (hl : Cond.methodLinkNest own idx M.1 host ∈ zNest) (hi : Cond.static M.1 ∈ zU) (hn : As.length = n) (hdy : dy + 1 ≤ d) (hnL : lv.length = nL) (hst : (st.map fun v => v.category).sum ≤ 8) (hd : decode cc pc = .ok (.invokestatic idx, 3)) (kk : zV X Γ Q (pc + 3) lv (o.toList ++ st) h2 g2) : zV X Γ Q pc lv (As.reverse ++ st) h g := by
  intro H L ls a b e
  refine zr_after (M := M) (dy := dy) (av := As) K (va_runSN (As := As) (rest := st) (zr_fix K) hM ⟨va_cnB n K.2.2.2.2.1 (zU_good' _ hm.1) rfl rfl rfl (K.2.2.2.2.2.1.2.2 _ hl) (K.2.2.2.2.1 _ hm.2.1) hm.2.2.1 (zr_room K hdy hm.2.2.2), K.2.2.2.2.1 _ hi, trivial⟩ ⟨zr_blind X _ h g, zr_pre K _ a⟩ rfl hn (by rw [← hnL]; exact e.1) rfl (lv_room hst) hd ⟨K.2.2.2.2.2.2.1.2.2.1, K.2.2.2.2.2.2.1.2.2.2⟩) b e kk
end ZS
/-- a method's contract out of its walk -/
theorem zDi_of {X : zXT} {M : zMT} {d : Nat} {av : List Value} {h : zHp} {g : zLg} {o : Option Value} {h2 : zHp} {g2 : zLg} (own : String) (cc : ByteArray) (nL : Nat) (rt : Option FieldType) (hM : M = (⟨own, M.1.name, M.1.desc⟩, cc, nL, rt)) (hy : plainName M.1.cls = true) (lv : List (Option Value)) (hlv : lv.length = nL) (hle : ∀ q ∈ zasc 0 lv, q ∈ lv_args 0 av) (hav : (lg_sl av).length ≤ nL)
    (body : ∀ (Γ : zGT) (Q : State → Prop), zOk X Γ cc own nL d rt → Q = zTQ X Γ o h2 g2 → zV X Γ Q 0 lv [] h g) : zDi X M d av h g o h2 g2 := by
  obtain ⟨y, cc', nL', rt'⟩ := M
  simp only [Prod.mk.injEq] at hM
  obtain ⟨hy0, rfl, rfl, rfl⟩ := hM
  unfold zDi
  refine Met.ofW (cc := cc') (maxL := nL') (ret := rt') hy rfl ?_
  intro p e s m args below meth c s₁ B hml hv
  obtain ⟨rfl, hP, hK⟩ := hv
  have hts := atoms_spec (ws := zws (y, cc', nL', rt')) B.pre
  have hown : s.vm.findClass own = some m.cls := by
    have := findClass_of_methodNamed B.named
    rw [hy0] at this
    exact this
  have C : zOk X (p, e, (headSpec (zws (y, cc', nL', rt')) (zrm d)).room, s, m, av.toArray, below, meth, c, 0, 0) cc' own nL' d rt' := ⟨B.exec, B.bytes, hml, hown, fun w hw => hts w (List.mem_cons_of_mem _ hw), hK, ⟨Nat.le_refl _, Nat.le_refl _, Nat.zero_le _, Nat.zero_le _⟩, B.returns, B.notSynchronized⟩
  have hl := lv_entry av (n := nL') hav
  rw [lg_entry_eq]
  have hl2 : lv_has (lg_sl av ++ List.replicate (nL' - (lg_sl av).length) Slot.unset).toArray lv.length (zasc 0 lv) := ⟨by rw [hlv]; exact hl.1, hl.2.1, fun q hq => hl.2.2 q (hle q hq)⟩
  exact body _ _ C rfl s.heap [] _ hP va_S.rf hl2
