/-! The kit's rows over the fixed world. -/
theorem zasc_mem (lv : List (Option Value)) : ∀ (k i : Nat) (v : Value), lv[i]? = some (some v) → (k + i, v) ∈ zasc k lv := by
  induction lv with
  | nil => intro k i v h; simp at h
  | cons a l ih =>
    intro k i v h
    cases i with
    | zero =>
      simp at h
      subst h
      exact List.mem_cons_self
    | succ i =>
      rw [List.getElem?_cons_succ] at h
      have h2 := ih (k + 1) i v h
      rw [show k + 1 + i = k + (i + 1) by omega] at h2
      cases a with
      | none => exact h2
      | some w => exact List.mem_cons_of_mem _ h2
theorem zasc_of (lv : List (Option Value)) : ∀ (k : Nat) (q : Nat × Value), q ∈ zasc k lv → k ≤ q.1 ∧ lv[q.1 - k]? = some (some q.2) := by
  induction lv with
  | nil => intro k q h; cases h
  | cons a l ih =>
    intro k q h
    have step : q ∈ zasc (k + 1) l → k ≤ q.1 ∧ (a :: l)[q.1 - k]? = some (some q.2) := by
      intro h
      obtain ⟨h1, h2⟩ := ih (k + 1) q h
      refine ⟨by omega, ?_⟩
      rw [show q.1 - k = (q.1 - (k + 1)) + 1 by omega, List.getElem?_cons_succ]
      exact h2
    cases a with
    | none => exact step h
    | some w =>
      rcases List.mem_cons.mp h with rfl | h
      · refine ⟨Nat.le_refl _, ?_⟩
        simp
      · exact step h
theorem zasc_has {ls : Array Slot} {lv : List (Option Value)} {n : Nat} (h : lv_has ls n (zasc 0 lv)) {i : Nat} {v : Value} (hi : lv[i]? = some (some v)) : ls[i]? = some (.val v) := by
  have := h.2.2 _ (zasc_mem lv 0 i v hi)
  simpa using this
/-- fewer locals, or the same in other words -/
theorem zasc_sub {ls : Array Slot} {lv lv2 : List (Option Value)} {n : Nat} (h : lv_has ls n (zasc 0 lv)) (hs : ∀ (i : Nat) (v : Value), lv2[i]? = some (some v) → lv[i]? = some (some v)) : lv_has ls n (zasc 0 lv2) := by
  refine ⟨h.1, h.2.1, fun q hq => ?_⟩
  obtain ⟨-, h2⟩ := zasc_of lv2 0 q hq
  exact zasc_has h (hs _ _ h2)
/-- may the place i be written (no long reaches into it) -/
def zfree (lv : List (Option Value)) : Nat → Bool
  | 0 => true
  | i + 1 => match lv[i]? with
    | some (some v) => v.category == 1
    | _ => true
theorem zasc_store1 {ls : Array Slot} {lv : List (Option Value)} {n i : Nat} {w : Value} (h : lv_has ls n ((i, w) :: (zasc 0 lv).filter (fun q => !(q.1 == i) && !(q.1 + 1 == i && q.2.category == 2)))) (hf : zfree lv i = true) : lv_has ls n (zasc 0 (lv.set i (some w))) := by
  refine ⟨h.1, h.2.1, fun q hq => ?_⟩
  obtain ⟨-, h2⟩ := zasc_of _ 0 q hq
  obtain ⟨j, v⟩ := q
  simp only [Nat.sub_zero] at h2
  by_cases hj : j = i
  · subst hj
    have hl : j < lv.length := by
      have := (List.getElem?_eq_some_iff.mp h2).1
      simpa using this
    rw [List.getElem?_set_self hl] at h2
    cases h2
    exact h.2.2 _ List.mem_cons_self
  · rw [List.getElem?_set_ne (Ne.symm hj)] at h2
    refine h.2.2 _ (List.mem_cons_of_mem _ (List.mem_filter.mpr ⟨by simpa using zasc_mem lv 0 j v h2, ?_⟩))
    have hne : (j == i) = false := by simpa using hj
    simp only [hne, Bool.not_false, Bool.true_and]
    by_cases hs : j + 1 = i
    · subst hs
      simp only [zfree, h2] at hf
      have : v.category = 1 := by simpa using hf
      simp [this]
    · simp [hs]
theorem zasc_store2 {ls : Array Slot} {lv : List (Option Value)} {n i : Nat} {w : Value} (h : lv_has ls n ((i, w) :: (zasc 0 lv).filter (fun q => !(q.1 == i) && (!(q.1 == i + 1) && !(q.1 + 1 == i && q.2.category == 2))))) (hf : zfree lv i = true) : lv_has ls n (zasc 0 ((lv.set i (some w)).set (i + 1) none)) := by
  refine ⟨h.1, h.2.1, fun q hq => ?_⟩
  obtain ⟨-, h2⟩ := zasc_of _ 0 q hq
  obtain ⟨j, v⟩ := q
  simp only [Nat.sub_zero] at h2
  by_cases hj1 : j = i + 1
  · subst hj1
    have hl : i + 1 < (lv.set i (some w)).length := by
      have := (List.getElem?_eq_some_iff.mp h2).1
      simpa using this
    rw [List.getElem?_set_self hl] at h2
    cases h2
  · rw [List.getElem?_set_ne (Ne.symm hj1)] at h2
    by_cases hj : j = i
    · subst hj
      have hl : j < lv.length := by
        have := (List.getElem?_eq_some_iff.mp h2).1
        simpa using this
      rw [List.getElem?_set_self hl] at h2
      cases h2
      exact h.2.2 _ List.mem_cons_self
    · rw [List.getElem?_set_ne (Ne.symm hj)] at h2
      refine h.2.2 _ (List.mem_cons_of_mem _ (List.mem_filter.mpr ⟨by simpa using zasc_mem lv 0 j v h2, ?_⟩))
      have hne : (j == i) = false := by simpa using hj
      have hne1 : (j == i + 1) = false := by simpa using hj1
      simp only [hne, hne1, Bool.not_false, Bool.true_and]
      by_cases hs : j + 1 = i
      · subst hs
        simp only [zfree, h2] at hf
        have : v.category = 1 := by simpa using hf
        simp [this]
      · simp [hs]
/-- the first has the second's locals, or nothing -/
def zle : List (Option Value) → List (Option Value) → Prop
  | [], [] => True
  | none :: a, _ :: b => zle a b
  | some v :: a, some w :: b => v = w ∧ zle a b
  | _, _ => False
theorem zle_of : ∀ (a b : List (Option Value)), zle a b → a.length = b.length ∧ ∀ (i : Nat) (v : Value), a[i]? = some (some v) → b[i]? = some (some v)
  | [], [], _ => ⟨rfl, fun i v h => by simp at h⟩
  | none :: a, _ :: b, h => by
    obtain ⟨h1, h2⟩ := zle_of a b h
    refine ⟨by simp [h1], fun i v hi => ?_⟩
    cases i with
    | zero => simp at hi
    | succ i => exact h2 i v (by simpa using hi)
  | some v0 :: a, some w :: b, h => by
    obtain ⟨h1, h2⟩ := zle_of a b h.2
    refine ⟨by simp [h1], fun i v hi => ?_⟩
    cases i with
    | zero => rw [← h.1]; exact hi
    | succ i => exact h2 i v (by simpa using hi)
  | [], _ :: _, h => h.elim
  | some _ :: _, none :: _, h => h.elim
  | none :: _, [], h => h.elim
  | some _ :: _, [], h => h.elim
def zrem (x y : Int32) : Int32 := x - x / y * y
def zlrem (x y : Int64) : Int64 := x - x / y * y
def zshl (x y : Int32) : Int32 := x <<< (y &&& 31)
def zsar (x y : Int32) : Int32 := x >>> (y &&& 31)
def zshr (x y : Int32) : Int32 := (x.toUInt32 >>> (y.toUInt32 &&& Int32.toUInt32 31)).toInt32
def zlshr (x : Int64) (y : Int32) : Int64 := (x.toUInt64 >>> (y.toInt64.toUInt64 &&& Int64.toUInt64 63)).toInt64
section ZR
variable {X : zXT} {Γ : zGT} {Q : State → Prop} {cc : ByteArray} {own : String} {nL d : Nat} {rt : Option FieldType} {pc : Nat} {lv lv2 : List (Option Value)} {st : List Value} {h : zHp} {g : zLg}
theorem zr_iconst (C : zOk X Γ cc own nL d rt) {n : Int} {v : Int32} (hd : decode cc pc = .ok (.iconst n, 1)) (hv : Int32.ofInt n = v) (k : zV X Γ Q (pc + 1) lv (.int v :: st) h g) : zV X Γ Q pc lv st h g :=
  fun H L ls a b c => lv_iconst C.1 C.2.1 hd hv (k H L ls a b c)
theorem zr_bipush (C : zOk X Γ cc own nL d rt) {n : Int} {v : Int32} (hd : decode cc pc = .ok (.bipush n, 2)) (hv : (Int8.ofInt n).toInt32 = v) (k : zV X Γ Q (pc + 2) lv (.int v :: st) h g) : zV X Γ Q pc lv st h g :=
  fun H L ls a b c => lv_bipush C.1 C.2.1 hd hv (k H L ls a b c)
theorem zr_sipush (C : zOk X Γ cc own nL d rt) {n : Int} {v : Int32} (hd : decode cc pc = .ok (.sipush n, 3)) (hv : (Int16.ofInt n).toInt32 = v) (k : zV X Γ Q (pc + 3) lv (.int v :: st) h g) : zV X Γ Q pc lv st h g :=
  fun H L ls a b c => lv_sipush C.1 C.2.1 hd hv (k H L ls a b c)
theorem zr_lconst (C : zOk X Γ cc own nL d rt) {n : Fin 2} {v : Int64} (hd : decode cc pc = .ok (.lconst n, 1)) (hv : Int64.ofNat (n : Nat) = v) (k : zV X Γ Q (pc + 1) lv (.long v :: st) h g) : zV X Γ Q pc lv st h g :=
  fun H L ls a b c => lv_lconst C.1 C.2.1 hd hv (k H L ls a b c)
theorem zr_ldcw (C : zOk X Γ cc own nL d rt) {v : Int32} {idx : Nat} (hw : Cond.constant own idx v ∈ zU) (hd : decode cc pc = .ok (.ldc_w idx, 3)) (k : zV X Γ Q (pc + 3) lv (.int v :: st) h g) : zV X Γ Q pc lv st h g :=
  fun H L ls a b c => lv_ldcw C.1 C.2.1 C.2.2.2.1 (C.2.2.2.2.1 _ hw) hd (k H L ls a b c)
theorem zr_ldc2 (C : zOk X Γ cc own nL d rt) {v : Int64} {idx : Nat} (hw : Cond.constantLong own idx v ∈ zU) (hd : decode cc pc = .ok (.ldc2_w idx, 3)) (k : zV X Γ Q (pc + 3) lv (.long v :: st) h g) : zV X Γ Q pc lv st h g :=
  fun H L ls a b c => lv_ldc2 C.1 C.2.1 C.2.2.2.1 (C.2.2.2.2.1 _ hw) hd (k H L ls a b c)
theorem zr_iload_n (C : zOk X Γ cc own nL d rt) {k : Fin 4} {x : Int32} (hd : decode cc pc = .ok (.iload_n k, 1)) (hl : lv[(k : Nat)]? = some (zI x)) (kk : zV X Γ Q (pc + 1) lv (.int x :: st) h g) : zV X Γ Q pc lv st h g :=
  fun H L ls a b c => lv_iload_n C.1 C.2.1 hd rfl (zasc_has c hl) (kk H L ls a b c)
theorem zr_iload (C : zOk X Γ cc own nL d rt) {i : Nat} {x : Int32} (hd : decode cc pc = .ok (.iload i, 2)) (hl : lv[i]? = some (zI x)) (kk : zV X Γ Q (pc + 2) lv (.int x :: st) h g) : zV X Γ Q pc lv st h g :=
  fun H L ls a b c => lv_iload C.1 C.2.1 hd (zasc_has c hl) (kk H L ls a b c)
theorem zr_lload_n (C : zOk X Γ cc own nL d rt) {k : Fin 4} {x : Int64} (hd : decode cc pc = .ok (.lload_n k, 1)) (hl : lv[(k : Nat)]? = some (zL x)) (kk : zV X Γ Q (pc + 1) lv (.long x :: st) h g) : zV X Γ Q pc lv st h g :=
  fun H L ls a b c => lv_lload_n C.1 C.2.1 hd rfl (zasc_has c hl) (kk H L ls a b c)
theorem zr_lload (C : zOk X Γ cc own nL d rt) {i : Nat} {x : Int64} (hd : decode cc pc = .ok (.lload i, 2)) (hl : lv[i]? = some (zL x)) (kk : zV X Γ Q (pc + 2) lv (.long x :: st) h g) : zV X Γ Q pc lv st h g :=
  fun H L ls a b c => lv_lload C.1 C.2.1 hd (zasc_has c hl) (kk H L ls a b c)
theorem zr_aload_n (C : zOk X Γ cc own nL d rt) {k : Fin 4} {a0 : Nat} (hd : decode cc pc = .ok (.aload_n k, 1)) (hl : lv[(k : Nat)]? = some (some (.ref a0))) (kk : zV X Γ Q (pc + 1) lv (.ref a0 :: st) h g) : zV X Γ Q pc lv st h g :=
  fun H L ls a b c => lv_aload_n C.1 C.2.1 hd rfl (zasc_has c hl) (kk H L ls a b c)
theorem zr_aload (C : zOk X Γ cc own nL d rt) {i : Nat} {a0 : Nat} (hd : decode cc pc = .ok (.aload i, 2)) (hl : lv[i]? = some (some (.ref a0))) (kk : zV X Γ Q (pc + 2) lv (.ref a0 :: st) h g) : zV X Γ Q pc lv st h g :=
  fun H L ls a b c => lv_aload C.1 C.2.1 hd (zasc_has c hl) (kk H L ls a b c)
theorem zr_istore_n (C : zOk X Γ cc own nL d rt) (lv2 : List (Option Value)) {k : Fin 4} {x : Int32} (hd : decode cc pc = .ok (.istore_n k, 1)) (hn : (k : Nat) < lv.length) (hf : zfree lv k = true) (hl : lv.set k (zI x) = lv2) (kk : zV X Γ Q (pc + 1) lv2 st h g) : zV X Γ Q pc lv (.int x :: st) h g := by
  subst hl
  exact fun H L ls a b c => lv_istore_n C.1 C.2.1 hd rfl c hn rfl (fun ls' h' => kk H L ls' a b (by rw [List.length_set]; exact zasc_store1 h' hf))
theorem zr_istore (C : zOk X Γ cc own nL d rt) (lv2 : List (Option Value)) {i : Nat} {x : Int32} (hd : decode cc pc = .ok (.istore i, 2)) (hn : i < lv.length) (hf : zfree lv i = true) (hl : lv.set i (zI x) = lv2) (kk : zV X Γ Q (pc + 2) lv2 st h g) : zV X Γ Q pc lv (.int x :: st) h g := by
  subst hl
  exact fun H L ls a b c => lv_istore C.1 C.2.1 hd c hn rfl (fun ls' h' => kk H L ls' a b (by rw [List.length_set]; exact zasc_store1 h' hf))
theorem zr_astore_n (C : zOk X Γ cc own nL d rt) (lv2 : List (Option Value)) {k : Fin 4} {x : Nat} (hd : decode cc pc = .ok (.astore_n k, 1)) (hn : (k : Nat) < lv.length) (hf : zfree lv k = true) (hl : lv.set k (some (.ref x)) = lv2) (kk : zV X Γ Q (pc + 1) lv2 st h g) : zV X Γ Q pc lv (.ref x :: st) h g := by
  subst hl
  exact fun H L ls a b c => lv_astore_n C.1 C.2.1 hd rfl c hn rfl (fun ls' h' => kk H L ls' a b (by rw [List.length_set]; exact zasc_store1 h' hf))
theorem zr_lstore_n (C : zOk X Γ cc own nL d rt) (lv2 : List (Option Value)) {k : Fin 4} {x : Int64} (hd : decode cc pc = .ok (.lstore_n k, 1)) (hn : (k : Nat) + 1 < lv.length) (hf : zfree lv k = true) (hl : (lv.set k (zL x)).set (k + 1) none = lv2) (kk : zV X Γ Q (pc + 1) lv2 st h g) : zV X Γ Q pc lv (.long x :: st) h g := by
  subst hl
  exact fun H L ls a b c => lv_lstore_n C.1 C.2.1 hd rfl c hn rfl (fun ls' h' => kk H L ls' a b (by rw [List.length_set, List.length_set]; exact zasc_store2 h' hf))
theorem zr_lstore (C : zOk X Γ cc own nL d rt) (lv2 : List (Option Value)) {i : Nat} {x : Int64} (hd : decode cc pc = .ok (.lstore i, 2)) (hn : i + 1 < lv.length) (hf : zfree lv i = true) (hl : (lv.set i (zL x)).set (i + 1) none = lv2) (kk : zV X Γ Q (pc + 2) lv2 st h g) : zV X Γ Q pc lv (.long x :: st) h g := by
  subst hl
  exact fun H L ls a b c => lv_lstore C.1 C.2.1 hd c hn rfl (fun ls' h' => kk H L ls' a b (by rw [List.length_set, List.length_set]; exact zasc_store2 h' hf))
theorem zr_iinc (C : zOk X Γ cc own nL d rt) (lv2 : List (Option Value)) {i : Nat} {n : Int} {x v : Int32} (hd : decode cc pc = .ok (.iinc i n, 3)) (hx : lv[i]? = some (zI x)) (hv : x + Int32.ofInt n = v) (hn : i < lv.length) (hf : zfree lv i = true) (hl : lv.set i (zI v) = lv2) (kk : zV X Γ Q (pc + 3) lv2 st h g) : zV X Γ Q pc lv st h g := by
  subst hl
  intro H L ls a b c
  obtain ⟨k, hk⟩ : ∃ k : Nat, (zasc 0 lv)[k]? = some (i, .int x) := by
    have := zasc_mem lv 0 i _ hx
    rw [Nat.zero_add] at this
    exact List.getElem?_of_mem this
  exact lv_iinc C.1 C.2.1 hd c hk hv hn rfl (fun ls' h' => kk H L ls' a b (by rw [List.length_set]; exact zasc_store1 h' hf))
/-- the locals in other words, fewer of them -/
theorem zr_lv (lv2 : List (Option Value)) (hs : zle lv2 lv) (kk : zV X Γ Q pc lv2 st h g) : zV X Γ Q pc lv st h g :=
  fun H L ls a b c => kk H L ls a b (by rw [(zle_of lv2 lv hs).1]; exact zasc_sub c (zle_of lv2 lv hs).2)
theorem zr_iadd (C : zOk X Γ cc own nL d rt) {x y : Int32} (hd : decode cc pc = .ok (.iadd, 1)) (k : zV X Γ Q (pc + 1) lv (.int (x + y) :: st) h g) : zV X Γ Q pc lv (.int y :: .int x :: st) h g :=
  fun H L ls a b c => lv_iadd C.1 C.2.1 hd (k H L ls a b c)
theorem zr_isub (C : zOk X Γ cc own nL d rt) {x y : Int32} (hd : decode cc pc = .ok (.isub, 1)) (k : zV X Γ Q (pc + 1) lv (.int (x - y) :: st) h g) : zV X Γ Q pc lv (.int y :: .int x :: st) h g :=
  fun H L ls a b c => lv_isub C.1 C.2.1 hd (k H L ls a b c)
theorem zr_imul (C : zOk X Γ cc own nL d rt) {x y : Int32} (hd : decode cc pc = .ok (.imul, 1)) (k : zV X Γ Q (pc + 1) lv (.int (x * y) :: st) h g) : zV X Γ Q pc lv (.int y :: .int x :: st) h g :=
  fun H L ls a b c => lv_imul C.1 C.2.1 hd (k H L ls a b c)
theorem zr_iand (C : zOk X Γ cc own nL d rt) {x y : Int32} (hd : decode cc pc = .ok (.iand, 1)) (k : zV X Γ Q (pc + 1) lv (.int (x &&& y) :: st) h g) : zV X Γ Q pc lv (.int y :: .int x :: st) h g :=
  fun H L ls a b c => lv_iand C.1 C.2.1 hd (k H L ls a b c)
theorem zr_ior (C : zOk X Γ cc own nL d rt) {x y : Int32} (hd : decode cc pc = .ok (.ior, 1)) (k : zV X Γ Q (pc + 1) lv (.int (x ||| y) :: st) h g) : zV X Γ Q pc lv (.int y :: .int x :: st) h g :=
  fun H L ls a b c => lv_ior C.1 C.2.1 hd (k H L ls a b c)
theorem zr_ixor (C : zOk X Γ cc own nL d rt) {x y : Int32} (hd : decode cc pc = .ok (.ixor, 1)) (k : zV X Γ Q (pc + 1) lv (.int (x ^^^ y) :: st) h g) : zV X Γ Q pc lv (.int y :: .int x :: st) h g :=
  fun H L ls a b c => lv_ixor C.1 C.2.1 hd (k H L ls a b c)
theorem zr_ladd (C : zOk X Γ cc own nL d rt) {x y : Int64} (hd : decode cc pc = .ok (.ladd, 1)) (k : zV X Γ Q (pc + 1) lv (.long (x + y) :: st) h g) : zV X Γ Q pc lv (.long y :: .long x :: st) h g :=
  fun H L ls a b c => lv_ladd C.1 C.2.1 hd (k H L ls a b c)
theorem zr_lsub (C : zOk X Γ cc own nL d rt) {x y : Int64} (hd : decode cc pc = .ok (.lsub, 1)) (k : zV X Γ Q (pc + 1) lv (.long (x - y) :: st) h g) : zV X Γ Q pc lv (.long y :: .long x :: st) h g :=
  fun H L ls a b c => lv_lsub C.1 C.2.1 hd (k H L ls a b c)
theorem zr_lmul (C : zOk X Γ cc own nL d rt) {x y : Int64} (hd : decode cc pc = .ok (.lmul, 1)) (k : zV X Γ Q (pc + 1) lv (.long (x * y) :: st) h g) : zV X Γ Q pc lv (.long y :: .long x :: st) h g :=
  fun H L ls a b c => lv_lmul C.1 C.2.1 hd (k H L ls a b c)
theorem zr_land (C : zOk X Γ cc own nL d rt) {x y : Int64} (hd : decode cc pc = .ok (.land, 1)) (k : zV X Γ Q (pc + 1) lv (.long (x &&& y) :: st) h g) : zV X Γ Q pc lv (.long y :: .long x :: st) h g :=
  fun H L ls a b c => lv_land C.1 C.2.1 hd (k H L ls a b c)
theorem zr_lor (C : zOk X Γ cc own nL d rt) {x y : Int64} (hd : decode cc pc = .ok (.lor, 1)) (k : zV X Γ Q (pc + 1) lv (.long (x ||| y) :: st) h g) : zV X Γ Q pc lv (.long y :: .long x :: st) h g :=
  fun H L ls a b c => lv_lor C.1 C.2.1 hd (k H L ls a b c)
theorem zr_idiv (C : zOk X Γ cc own nL d rt) {x y : Int32} (hd : decode cc pc = .ok (.idiv, 1)) (hne : ¬ y = 0) (k : zV X Γ Q (pc + 1) lv (.int (x / y) :: st) h g) : zV X Γ Q pc lv (.int y :: .int x :: st) h g :=
  fun H L ls a b c => lv_idiv C.1 C.2.1 hd hne (k H L ls a b c)
theorem zr_irem (C : zOk X Γ cc own nL d rt) {x y : Int32} (hd : decode cc pc = .ok (.irem, 1)) (hne : ¬ y = 0) (k : zV X Γ Q (pc + 1) lv (.int (zrem x y) :: st) h g) : zV X Γ Q pc lv (.int y :: .int x :: st) h g :=
  fun H L ls a b c => lv_irem C.1 C.2.1 hd hne (k H L ls a b c)
theorem zr_ldiv (C : zOk X Γ cc own nL d rt) {x y : Int64} (hd : decode cc pc = .ok (.ldiv, 1)) (hne : ¬ y = 0) (k : zV X Γ Q (pc + 1) lv (.long (x / y) :: st) h g) : zV X Γ Q pc lv (.long y :: .long x :: st) h g :=
  fun H L ls a b c => lv_ldiv C.1 C.2.1 hd hne (k H L ls a b c)
theorem zr_lrem (C : zOk X Γ cc own nL d rt) {x y : Int64} (hd : decode cc pc = .ok (.lrem, 1)) (hne : ¬ y = 0) (k : zV X Γ Q (pc + 1) lv (.long (zlrem x y) :: st) h g) : zV X Γ Q pc lv (.long y :: .long x :: st) h g :=
  fun H L ls a b c => lv_lrem C.1 C.2.1 hd hne (k H L ls a b c)
theorem zr_ineg (C : zOk X Γ cc own nL d rt) {x : Int32} (hd : decode cc pc = .ok (.ineg, 1)) (k : zV X Γ Q (pc + 1) lv (.int (0 - x) :: st) h g) : zV X Γ Q pc lv (.int x :: st) h g :=
  fun H L ls a b c => lv_ineg C.1 C.2.1 hd (k H L ls a b c)
theorem zr_ishl (C : zOk X Γ cc own nL d rt) {x y : Int32} (hd : decode cc pc = .ok (.ishl, 1)) (k : zV X Γ Q (pc + 1) lv (.int (zshl x y) :: st) h g) : zV X Γ Q pc lv (.int y :: .int x :: st) h g :=
  fun H L ls a b c => lv_ishl C.1 C.2.1 hd (k H L ls a b c)
theorem zr_ishr (C : zOk X Γ cc own nL d rt) {x y : Int32} (hd : decode cc pc = .ok (.ishr, 1)) (k : zV X Γ Q (pc + 1) lv (.int (zsar x y) :: st) h g) : zV X Γ Q pc lv (.int y :: .int x :: st) h g :=
  fun H L ls a b c => lv_ishr C.1 C.2.1 hd (k H L ls a b c)
theorem zr_iushr (C : zOk X Γ cc own nL d rt) {x y : Int32} (hd : decode cc pc = .ok (.iushr, 1)) (k : zV X Γ Q (pc + 1) lv (.int (zshr x y) :: st) h g) : zV X Γ Q pc lv (.int y :: .int x :: st) h g :=
  fun H L ls a b c => lv_iushr C.1 C.2.1 hd rfl (k H L ls a b c)
theorem zr_lshl (C : zOk X Γ cc own nL d rt) {x : Int64} {y : Int32} (hd : decode cc pc = .ok (.lshl, 1)) (k : zV X Γ Q (pc + 1) lv (.long (x <<< (y.toInt64 &&& 63)) :: st) h g) : zV X Γ Q pc lv (.int y :: .long x :: st) h g :=
  fun H L ls a b c => lv_lshl C.1 C.2.1 hd rfl (k H L ls a b c)
theorem zr_lushr (C : zOk X Γ cc own nL d rt) {x : Int64} {y : Int32} (hd : decode cc pc = .ok (.lushr, 1)) (k : zV X Γ Q (pc + 1) lv (.long (zlshr x y) :: st) h g) : zV X Γ Q pc lv (.int y :: .long x :: st) h g :=
  fun H L ls a b c => lv_lushr C.1 C.2.1 hd rfl (k H L ls a b c)
theorem zr_i2l (C : zOk X Γ cc own nL d rt) {x : Int32} (hd : decode cc pc = .ok (.i2l, 1)) (k : zV X Γ Q (pc + 1) lv (.long x.toInt64 :: st) h g) : zV X Γ Q pc lv (.int x :: st) h g :=
  fun H L ls a b c => lv_i2l C.1 C.2.1 hd rfl (k H L ls a b c)
theorem zr_l2i (C : zOk X Γ cc own nL d rt) {x : Int64} (hd : decode cc pc = .ok (.l2i, 1)) (k : zV X Γ Q (pc + 1) lv (.int x.toInt32 :: st) h g) : zV X Γ Q pc lv (.long x :: st) h g :=
  fun H L ls a b c => lv_l2i C.1 C.2.1 hd rfl (k H L ls a b c)
theorem zr_lcmp (C : zOk X Γ cc own nL d rt) {x y : Int64} (hd : decode cc pc = .ok (.lcmp, 1)) (k : zV X Γ Q (pc + 1) lv (.int (lg_cmp x y) :: st) h g) : zV X Γ Q pc lv (.long y :: .long x :: st) h g :=
  fun H L ls a b c => W.lcmp C.1 C.2.1 hd (k H L ls a b c)
theorem zr_dup (C : zOk X Γ cc own nL d rt) {va : Value} (hd : decode cc pc = .ok (.dup, 1)) (hva : va.category = 1) (k : zV X Γ Q (pc + 1) lv (va :: va :: st) h g) : zV X Γ Q pc lv (va :: st) h g :=
  fun H L ls a b c => lv_dup C.1 C.2.1 hd hva (k H L ls a b c)
theorem zr_pop (C : zOk X Γ cc own nL d rt) {va : Value} (hd : decode cc pc = .ok (.pop, 1)) (hva : va.category = 1) (k : zV X Γ Q (pc + 1) lv st h g) : zV X Γ Q pc lv (va :: st) h g :=
  fun H L ls a b c => lv_pop C.1 C.2.1 hd hva (k H L ls a b c)
theorem zr_dup2 (C : zOk X Γ cc own nL d rt) {va vb : Value} (hd : decode cc pc = .ok (.dup2, 1)) (hva : va.category = 1) (hvb : vb.category = 1) (k : zV X Γ Q (pc + 1) lv (va :: vb :: va :: vb :: st) h g) : zV X Γ Q pc lv (va :: vb :: st) h g :=
  fun H L ls a b c => lv_dup2_11 C.1 C.2.1 hd hva hvb (k H L ls a b c)
theorem zr_icmp_eq (C : zOk X Γ cc own nL d rt) {x y : Int32} {off : Int} (tgt : Nat) (hd : decode cc pc = .ok (.if_icmp .eq off, 3)) (ht : (pc : Int) + off = (tgt : Int)) (kt : x = y → zV X Γ Q tgt lv st h g) (kf : ¬ x = y → zV X Γ Q (pc + 3) lv st h g) : zV X Γ Q pc lv (.int y :: .int x :: st) h g :=
  fun H L ls a b c => lv_icmp_eq C.1 C.2.1 hd ht (fun e => kt e H L ls a b c) (fun e => kf e H L ls a b c)
theorem zr_if_eq (C : zOk X Γ cc own nL d rt) {x : Int32} {off : Int} (tgt : Nat) (hd : decode cc pc = .ok (.ifCond .eq off, 3)) (ht : (pc : Int) + off = (tgt : Int)) (kt : x = 0 → zV X Γ Q tgt lv st h g) (kf : ¬ x = 0 → zV X Γ Q (pc + 3) lv st h g) : zV X Γ Q pc lv (.int x :: st) h g :=
  fun H L ls a b c => lv_if_eq C.1 C.2.1 hd ht (fun e => kt e H L ls a b c) (fun e => kf e H L ls a b c)
theorem zr_icmp_ne (C : zOk X Γ cc own nL d rt) {x y : Int32} {off : Int} (tgt : Nat) (hd : decode cc pc = .ok (.if_icmp .ne off, 3)) (ht : (pc : Int) + off = (tgt : Int)) (kt : ¬ x = y → zV X Γ Q tgt lv st h g) (kf : x = y → zV X Γ Q (pc + 3) lv st h g) : zV X Γ Q pc lv (.int y :: .int x :: st) h g :=
  fun H L ls a b c => lv_icmp_ne C.1 C.2.1 hd ht (fun e => kt e H L ls a b c) (fun e => kf e H L ls a b c)
theorem zr_if_ne (C : zOk X Γ cc own nL d rt) {x : Int32} {off : Int} (tgt : Nat) (hd : decode cc pc = .ok (.ifCond .ne off, 3)) (ht : (pc : Int) + off = (tgt : Int)) (kt : ¬ x = 0 → zV X Γ Q tgt lv st h g) (kf : x = 0 → zV X Γ Q (pc + 3) lv st h g) : zV X Γ Q pc lv (.int x :: st) h g :=
  fun H L ls a b c => lv_if_ne C.1 C.2.1 hd ht (fun e => kt e H L ls a b c) (fun e => kf e H L ls a b c)
theorem zr_icmp_lt (C : zOk X Γ cc own nL d rt) {x y : Int32} {off : Int} (tgt : Nat) (hd : decode cc pc = .ok (.if_icmp .lt off, 3)) (ht : (pc : Int) + off = (tgt : Int)) (kt : x < y → zV X Γ Q tgt lv st h g) (kf : ¬ x < y → zV X Γ Q (pc + 3) lv st h g) : zV X Γ Q pc lv (.int y :: .int x :: st) h g :=
  fun H L ls a b c => lv_icmp_lt C.1 C.2.1 hd ht (fun e => kt e H L ls a b c) (fun e => kf e H L ls a b c)
theorem zr_if_lt (C : zOk X Γ cc own nL d rt) {x : Int32} {off : Int} (tgt : Nat) (hd : decode cc pc = .ok (.ifCond .lt off, 3)) (ht : (pc : Int) + off = (tgt : Int)) (kt : x < 0 → zV X Γ Q tgt lv st h g) (kf : ¬ x < 0 → zV X Γ Q (pc + 3) lv st h g) : zV X Γ Q pc lv (.int x :: st) h g :=
  fun H L ls a b c => lv_if_lt C.1 C.2.1 hd ht (fun e => kt e H L ls a b c) (fun e => kf e H L ls a b c)
theorem zr_icmp_ge (C : zOk X Γ cc own nL d rt) {x y : Int32} {off : Int} (tgt : Nat) (hd : decode cc pc = .ok (.if_icmp .ge off, 3)) (ht : (pc : Int) + off = (tgt : Int)) (kt : y ≤ x → zV X Γ Q tgt lv st h g) (kf : ¬ y ≤ x → zV X Γ Q (pc + 3) lv st h g) : zV X Γ Q pc lv (.int y :: .int x :: st) h g :=
  fun H L ls a b c => lv_icmp_ge C.1 C.2.1 hd ht (fun e => kt e H L ls a b c) (fun e => kf e H L ls a b c)
theorem zr_if_ge (C : zOk X Γ cc own nL d rt) {x : Int32} {off : Int} (tgt : Nat) (hd : decode cc pc = .ok (.ifCond .ge off, 3)) (ht : (pc : Int) + off = (tgt : Int)) (kt : 0 ≤ x → zV X Γ Q tgt lv st h g) (kf : ¬ 0 ≤ x → zV X Γ Q (pc + 3) lv st h g) : zV X Γ Q pc lv (.int x :: st) h g :=
  fun H L ls a b c => lv_if_ge C.1 C.2.1 hd ht (fun e => kt e H L ls a b c) (fun e => kf e H L ls a b c)
theorem zr_icmp_gt (C : zOk X Γ cc own nL d rt) {x y : Int32} {off : Int} (tgt : Nat) (hd : decode cc pc = .ok (.if_icmp .gt off, 3)) (ht : (pc : Int) + off = (tgt : Int)) (kt : y < x → zV X Γ Q tgt lv st h g) (kf : ¬ y < x → zV X Γ Q (pc + 3) lv st h g) : zV X Γ Q pc lv (.int y :: .int x :: st) h g :=
  fun H L ls a b c => lv_icmp_gt C.1 C.2.1 hd ht (fun e => kt e H L ls a b c) (fun e => kf e H L ls a b c)
theorem zr_if_gt (C : zOk X Γ cc own nL d rt) {x : Int32} {off : Int} (tgt : Nat) (hd : decode cc pc = .ok (.ifCond .gt off, 3)) (ht : (pc : Int) + off = (tgt : Int)) (kt : 0 < x → zV X Γ Q tgt lv st h g) (kf : ¬ 0 < x → zV X Γ Q (pc + 3) lv st h g) : zV X Γ Q pc lv (.int x :: st) h g :=
  fun H L ls a b c => lv_if_gt C.1 C.2.1 hd ht (fun e => kt e H L ls a b c) (fun e => kf e H L ls a b c)
theorem zr_icmp_le (C : zOk X Γ cc own nL d rt) {x y : Int32} {off : Int} (tgt : Nat) (hd : decode cc pc = .ok (.if_icmp .le off, 3)) (ht : (pc : Int) + off = (tgt : Int)) (kt : x ≤ y → zV X Γ Q tgt lv st h g) (kf : ¬ x ≤ y → zV X Γ Q (pc + 3) lv st h g) : zV X Γ Q pc lv (.int y :: .int x :: st) h g :=
  fun H L ls a b c => lv_icmp_le C.1 C.2.1 hd ht (fun e => kt e H L ls a b c) (fun e => kf e H L ls a b c)
theorem zr_if_le (C : zOk X Γ cc own nL d rt) {x : Int32} {off : Int} (tgt : Nat) (hd : decode cc pc = .ok (.ifCond .le off, 3)) (ht : (pc : Int) + off = (tgt : Int)) (kt : x ≤ 0 → zV X Γ Q tgt lv st h g) (kf : ¬ x ≤ 0 → zV X Γ Q (pc + 3) lv st h g) : zV X Γ Q pc lv (.int x :: st) h g :=
  fun H L ls a b c => lv_if_le C.1 C.2.1 hd ht (fun e => kt e H L ls a b c) (fun e => kf e H L ls a b c)
theorem zr_goto (C : zOk X Γ cc own nL d rt) {off : Int} (tgt : Nat) (hd : decode cc pc = .ok (.goto off, 3)) (ht : (pc : Int) + off = (tgt : Int)) (k : zV X Γ Q tgt lv st h g) : zV X Γ Q pc lv st h g :=
  fun H L ls a b c => lv_goto C.1 C.2.1 hd ht (k H L ls a b c)
theorem zr_tabOut (C : zOk X Γ cc own nL d rt) {dflt lo hi : Int} {offs : Array Int} {len : Nat} {x : Int32} (tgt : Nat) (hd : decode cc pc = .ok (.tableswitch dflt lo hi offs, len)) (hx : x.toInt < lo ∨ hi < x.toInt) (ht : (pc : Int) + dflt = (tgt : Int)) (k : zV X Γ Q tgt lv st h g) : zV X Γ Q pc lv (.int x :: st) h g :=
  fun H L ls a b c => lv_tableOut C.1 C.2.1 hd hx ht (k H L ls a b c)
theorem zr_tabIn (C : zOk X Γ cc own nL d rt) {dflt lo hi : Int} {offs : Array Int} {len : Nat} {x : Int32} {off : Int} (tgt : Nat) (hd : decode cc pc = .ok (.tableswitch dflt lo hi offs, len)) (h1 : ¬ x.toInt < lo) (h2 : ¬ hi < x.toInt) (ho : offs[(x.toInt - lo).toNat]? = some off) (ht : (pc : Int) + off = (tgt : Int)) (k : zV X Γ Q tgt lv st h g) : zV X Γ Q pc lv (.int x :: st) h g :=
  fun H L ls a b c => lv_tableIn C.1 C.2.1 hd h1 h2 ho ht (k H L ls a b c)
/-- the top of the stack in other words -/
theorem zr_top {x y : Int32} (e : x = y) (k : zV X Γ Q pc lv (.int y :: st) h g) : zV X Γ Q pc lv (.int x :: st) h g := e ▸ k
end ZR
