/-! New objects: a world that grows. -/
def zKb (D : va_G) (cI cZ : ClassId) (U : State) : Prop := va_K D zcl [(cI, .int), (cZ, .boolean)] U ∧ ∀ w ∈ zNest, va_Nw w U
theorem zKb_warm {D : va_G} {cI cZ : ClassId} {s U : State} (hW : s.WarmedH U.vm) (h : zKb D cI cZ s) : zKb D cI cZ U := ⟨va_K.moved hW.alike h.1, zNest_warm hW h.2⟩
/-- the machine in this method, its world the cells ws, kc cells of ks slots made -/
def zB (D : va_G) (l : Launch) (A : Nat → Prop) (Γ : zGT) (Q : State → Prop) (pc : Nat) (lv : List (Option Value)) (st : List Value) (ws : va_W) (kc ks : Nat) : Prop :=
  ∀ (H : Heap) (locs : List Loc) (ls : Array Slot), va_P D zcl ws H → va_D A ws → va_S A (zGs Γ).heap H locs → lv_has ls lv.length (zasc 0 lv) →
    W (zGp Γ) l (zGe Γ) (zGR Γ) (zGs Γ) (zGm Γ) (zGa Γ) (zGb Γ) (zGM Γ) (zGc Γ) H locs kc ks Q (F0 (zGm Γ) pc ls st)
def zBk (D : va_G) (cI cZ : ClassId) (A : Nat → Prop) (Γ : zGT) (cc : ByteArray) (own : String) (nL d mc ms : Nat) : Prop :=
  ((zGp Γ).tables.exec = Jvm.exec) ∧ ((zGc Γ).code = cc) ∧ ((zGc Γ).maxLocals = nL) ∧ ((zGs Γ).vm.findClass own = some (zGm Γ).cls) ∧ (∀ w ∈ zU, w.before (zGa Γ) (zGs Γ) = true) ∧ (zKb D cI cZ (zGs Γ)) ∧ (d ≤ (zGR Γ).frames) ∧ (64 * d ≤ (zGR Γ).locals) ∧ (mc ≤ (zGR Γ).cells) ∧ (ms ≤ (zGR Γ).slots) ∧ ((zGM Γ).locks = false) ∧ (∀ q, (zGs Γ).heap.size ≤ q → A q)
theorem zBk.exec {D : va_G} {cI cZ : ClassId} {A : Nat → Prop} {Γ : zGT} {cc : ByteArray} {own : String} {nL d mc ms : Nat} (K : zBk D cI cZ A Γ cc own nL d mc ms) : (zGp Γ).tables.exec = Jvm.exec := K.1
theorem zBk.code {D : va_G} {cI cZ : ClassId} {A : Nat → Prop} {Γ : zGT} {cc : ByteArray} {own : String} {nL d mc ms : Nat} (K : zBk D cI cZ A Γ cc own nL d mc ms) : (zGc Γ).code = cc := K.2.1
theorem zBk.maxl {D : va_G} {cI cZ : ClassId} {A : Nat → Prop} {Γ : zGT} {cc : ByteArray} {own : String} {nL d mc ms : Nat} (K : zBk D cI cZ A Γ cc own nL d mc ms) : (zGc Γ).maxLocals = nL := K.2.2.1
theorem zBk.own {D : va_G} {cI cZ : ClassId} {A : Nat → Prop} {Γ : zGT} {cc : ByteArray} {own : String} {nL d mc ms : Nat} (K : zBk D cI cZ A Γ cc own nL d mc ms) : (zGs Γ).vm.findClass own = some (zGm Γ).cls := K.2.2.2.1
theorem zBk.hts {D : va_G} {cI cZ : ClassId} {A : Nat → Prop} {Γ : zGT} {cc : ByteArray} {own : String} {nL d mc ms : Nat} (K : zBk D cI cZ A Γ cc own nL d mc ms) : ∀ w ∈ zU, w.before (zGa Γ) (zGs Γ) = true := K.2.2.2.2.1
theorem zBk.kn {D : va_G} {cI cZ : ClassId} {A : Nat → Prop} {Γ : zGT} {cc : ByteArray} {own : String} {nL d mc ms : Nat} (K : zBk D cI cZ A Γ cc own nL d mc ms) : zKb D cI cZ (zGs Γ) := K.2.2.2.2.2.1
theorem zBk.frames {D : va_G} {cI cZ : ClassId} {A : Nat → Prop} {Γ : zGT} {cc : ByteArray} {own : String} {nL d mc ms : Nat} (K : zBk D cI cZ A Γ cc own nL d mc ms) : d ≤ (zGR Γ).frames := K.2.2.2.2.2.2.1
theorem zBk.locals {D : va_G} {cI cZ : ClassId} {A : Nat → Prop} {Γ : zGT} {cc : ByteArray} {own : String} {nL d mc ms : Nat} (K : zBk D cI cZ A Γ cc own nL d mc ms) : 64 * d ≤ (zGR Γ).locals := K.2.2.2.2.2.2.2.1
theorem zBk.cells {D : va_G} {cI cZ : ClassId} {A : Nat → Prop} {Γ : zGT} {cc : ByteArray} {own : String} {nL d mc ms : Nat} (K : zBk D cI cZ A Γ cc own nL d mc ms) : mc ≤ (zGR Γ).cells := K.2.2.2.2.2.2.2.2.1
theorem zBk.slots {D : va_G} {cI cZ : ClassId} {A : Nat → Prop} {Γ : zGT} {cc : ByteArray} {own : String} {nL d mc ms : Nat} (K : zBk D cI cZ A Γ cc own nL d mc ms) : ms ≤ (zGR Γ).slots := K.2.2.2.2.2.2.2.2.2.1
theorem zBk.locks {D : va_G} {cI cZ : ClassId} {A : Nat → Prop} {Γ : zGT} {cc : ByteArray} {own : String} {nL d mc ms : Nat} (K : zBk D cI cZ A Γ cc own nL d mc ms) : (zGM Γ).locks = false := K.2.2.2.2.2.2.2.2.2.2.1
theorem zBk.free {D : va_G} {cI cZ : ClassId} {A : Nat → Prop} {Γ : zGT} {cc : ByteArray} {own : String} {nL d mc ms : Nat} (K : zBk D cI cZ A Γ cc own nL d mc ms) : ∀ q, (zGs Γ).heap.size ≤ q → A q := K.2.2.2.2.2.2.2.2.2.2.2
section ZN
variable {D : va_G} {cI cZ : ClassId} {l : Launch} {A : Nat → Prop} {Γ : zGT} {Q : State → Prop} {cc : ByteArray} {own : String} {nL d mc ms pc kc ks : Nat} {lv : List (Option Value)} {st : List Value} {ws : va_W}
theorem zb_aload (K : zBk D cI cZ A Γ cc own nL d mc ms) {k : Fin 4} {a0 : Nat} (hd : decode cc pc = .ok (.aload_n k, 1)) (hl : lv[(k : Nat)]? = some (some (.ref a0))) (kk : zB D l A Γ Q (pc + 1) lv (.ref a0 :: st) ws kc ks) : zB D l A Γ Q pc lv st ws kc ks :=
  fun H L ls a b c e => lv_aload_n K.exec K.code hd rfl (zasc_has e hl) (kk H L ls a b c e)
theorem zb_iload (K : zBk D cI cZ A Γ cc own nL d mc ms) {k : Fin 4} {x : Int32} (hd : decode cc pc = .ok (.iload_n k, 1)) (hl : lv[(k : Nat)]? = some (zI x)) (kk : zB D l A Γ Q (pc + 1) lv (.int x :: st) ws kc ks) : zB D l A Γ Q pc lv st ws kc ks :=
  fun H L ls a b c e => lv_iload_n K.exec K.code hd rfl (zasc_has e hl) (kk H L ls a b c e)
theorem zb_iconst (K : zBk D cI cZ A Γ cc own nL d mc ms) {n : Int} {v : Int32} (hd : decode cc pc = .ok (.iconst n, 1)) (hv : Int32.ofInt n = v) (kk : zB D l A Γ Q (pc + 1) lv (.int v :: st) ws kc ks) : zB D l A Γ Q pc lv st ws kc ks :=
  fun H L ls a b c e => lv_iconst K.exec K.code hd hv (kk H L ls a b c e)
theorem zb_bipush (K : zBk D cI cZ A Γ cc own nL d mc ms) {n : Int} {v : Int32} (hd : decode cc pc = .ok (.bipush n, 2)) (hv : (Int8.ofInt n).toInt32 = v) (kk : zB D l A Γ Q (pc + 2) lv (.int v :: st) ws kc ks) : zB D l A Γ Q pc lv st ws kc ks :=
  fun H L ls a b c e => lv_bipush K.exec K.code hd hv (kk H L ls a b c e)
theorem zb_sipush (K : zBk D cI cZ A Γ cc own nL d mc ms) {n : Int} {v : Int32} (hd : decode cc pc = .ok (.sipush n, 3)) (hv : (Int16.ofInt n).toInt32 = v) (kk : zB D l A Γ Q (pc + 3) lv (.int v :: st) ws kc ks) : zB D l A Γ Q pc lv st ws kc ks :=
  fun H L ls a b c e => lv_sipush K.exec K.code hd hv (kk H L ls a b c e)
theorem zb_lconst (K : zBk D cI cZ A Γ cc own nL d mc ms) {n : Fin 2} {v : Int64} (hd : decode cc pc = .ok (.lconst n, 1)) (hv : Int64.ofNat (n : Nat) = v) (kk : zB D l A Γ Q (pc + 1) lv (.long v :: st) ws kc ks) : zB D l A Γ Q pc lv st ws kc ks :=
  fun H L ls a b c e => lv_lconst K.exec K.code hd hv (kk H L ls a b c e)
theorem zb_dup (K : zBk D cI cZ A Γ cc own nL d mc ms) {va : Value} (hd : decode cc pc = .ok (.dup, 1)) (hva : va.category = 1) (kk : zB D l A Γ Q (pc + 1) lv (va :: va :: st) ws kc ks) : zB D l A Γ Q pc lv (va :: st) ws kc ks :=
  fun H L ls a b c e => lv_dup K.exec K.code hd hva (kk H L ls a b c e)
theorem zb_imul (K : zBk D cI cZ A Γ cc own nL d mc ms) {x y : Int32} (hd : decode cc pc = .ok (.imul, 1)) (kk : zB D l A Γ Q (pc + 1) lv (.int (x * y) :: st) ws kc ks) : zB D l A Γ Q pc lv (.int y :: .int x :: st) ws kc ks :=
  fun H L ls a b c e => lv_imul K.exec K.code hd (kk H L ls a b c e)
theorem zb_astore (K : zBk D cI cZ A Γ cc own nL d mc ms) (lv2 : List (Option Value)) {k : Fin 4} {x : Nat} (hd : decode cc pc = .ok (.astore_n k, 1)) (hn : (k : Nat) < lv.length) (hf : zfree lv k = true) (hl : lv.set k (some (.ref x)) = lv2) (kk : zB D l A Γ Q (pc + 1) lv2 st ws kc ks) : zB D l A Γ Q pc lv (.ref x :: st) ws kc ks := by
  subst hl
  exact fun H L ls a b c e => lv_astore_n K.exec K.code hd rfl e hn rfl (fun ls' h' => kk H L ls' a b c (by rw [List.length_set]; exact zasc_store1 h' hf))
theorem zb_obj (K : zBk D cI cZ A Γ cc own nL d mc ms) {a0 idx : Nat} (hw : Cond.methodLink own idx Lib.objectInit ∈ zU) (hnL : lv.length = nL) (hst : (st.map fun v => v.category).sum ≤ 8) (hd1 : 1 ≤ d) (hd : decode cc pc = .ok (.invokespecial idx, 3)) (kk : zB D l A Γ Q (pc + 3) lv st ws kc ks) : zB D l A Γ Q pc lv (.ref a0 :: st) ws kc ks :=
  fun H L ls a b c e => W.objInit K.exec K.code K.own (K.hts _ hw) (K.hts _ (zU_in (i := 72) (by decide +kernel) rfl)) (K.hts _ (zU_in (i := 73) (by decide +kernel) rfl)) rfl (by rw [K.maxl, ← hnL]; exact e.1) rfl hd (by have := K.frames; omega) (by have := K.locals; show 2 * 0 + _ + 12 ≤ _; omega) (kk H L ls a b c e)
theorem zb_putF (K : zBk D cI cZ A Γ cc own nL d mc ms) {a ci N idx : Nat} {C : String} {T : u_T} {fs : List Value} {ws2 : va_W} (q0 : Nat) (he : ws[q0]? = some (a, .inr (ci, fs))) (hcl : zcl[ci]? = some (C, T, N)) (hin : ∀ w ∈ u_ws C T N, w ∈ zU) (ty0 : Nat → FieldType) (hty : ∀ k, k < N → parseFieldDescriptor (T k).2.2.1 = some (ty0 k)) (hnm : ∀ a, a < N → ∀ b, b < N → a ≠ b → (T a).2.1 ≠ (T b).2.1) (k : Nat) (hk : k < N) (hw : Cond.fieldLink own idx (T k).1 (T k).2.1 (T k).2.2.1 ∈ zU) (hfin : (T k).2.2.2 = true) (hin2 : (zGM Γ).name = "<init>") (hdecl : (T k).1 = own) {v : Value} (hn : narrow (ty0 k) v = v) (hfit : fits (ty0 k) v = true) (hl : k < fs.length) (he2 : ws.set q0 (a, .inr (ci, fs.set k v)) = ws2) (hd : decode cc pc = .ok (.putfield idx, 3)) (kk : zB D l A Γ Q (pc + 3) lv st ws2 kc ks) : zB D l A Γ Q pc lv (v :: .ref a :: st) ws kc ks := by
  intro H L ls x y z e
  refine va_putF (D := D) (cl := zcl) (ws := ws) K.exec K.code K.hts hin ty0 hty hnm K.own K.kn.1 x y z q0 (fs := fs) he hcl k hk (K.hts _ hw) (fun x hx => hx) hfin hin2 hdecl (hty k hk) hn hfit hl hd (fun H1 L1 hP hD hS => ?_)
  rw [he2] at hP hD
  exact kk H1 L1 ls hP hD hS e
theorem zb_put (K : zBk D cI cZ A Γ cc own nL d mc ms) {a ci N idx : Nat} {C : String} {T : u_T} {fs : List Value} {ws2 : va_W} (q0 : Nat) (he : ws[q0]? = some (a, .inr (ci, fs))) (hcl : zcl[ci]? = some (C, T, N)) (hin : ∀ w ∈ u_ws C T N, w ∈ zU) (ty0 : Nat → FieldType) (hty : ∀ k, k < N → parseFieldDescriptor (T k).2.2.1 = some (ty0 k)) (hnm : ∀ a, a < N → ∀ b, b < N → a ≠ b → (T a).2.1 ≠ (T b).2.1) (k : Nat) (hk : k < N) (hw : Cond.fieldLink own idx (T k).1 (T k).2.1 (T k).2.2.1 ∈ zU) (hfin : (T k).2.2.2 = false) {v : Value} (hn : narrow (ty0 k) v = v) (hfit : fits (ty0 k) v = true) (hl : k < fs.length) (he2 : ws.set q0 (a, .inr (ci, fs.set k v)) = ws2) (hd : decode cc pc = .ok (.putfield idx, 3)) (kk : zB D l A Γ Q (pc + 3) lv st ws2 kc ks) : zB D l A Γ Q pc lv (v :: .ref a :: st) ws kc ks := by
  intro H L ls x y z e
  refine va_put (D := D) (cl := zcl) (ws := ws) K.exec K.code K.hts hin ty0 hty hnm K.own K.kn.1 x y z q0 (fs := fs) he hcl k hk (K.hts _ hw) (fun x hx => hx) hfin (hty k hk) hn hfit hl hd (fun H1 L1 hP hD hS => ?_)
  rw [he2] at hP hD
  exact kk H1 L1 ls hP hD hS e
theorem zb_get (K : zBk D cI cZ A Γ cc own nL d mc ms) {a ci N idx : Nat} {C : String} {T : u_T} {fs : List Value} (q0 : Nat) (he : ws[q0]? = some (a, .inr (ci, fs))) (hcl : zcl[ci]? = some (C, T, N)) (hin : ∀ w ∈ u_ws C T N, w ∈ zU) (k : Nat) (hk : k < N) (hw : Cond.fieldLink own idx (T k).1 (T k).2.1 (T k).2.2.1 ∈ zU) {v : Value} (hv : fs[k]? = some v) (hd : decode cc pc = .ok (.getfield idx, 3)) (kk : zB D l A Γ Q (pc + 3) lv (v :: st) ws kc ks) : zB D l A Γ Q pc lv (.ref a :: st) ws kc ks :=
  fun H L ls x y z e => va_get (D := D) (cl := zcl) (ws := ws) K.exec K.code K.hts hin K.own K.kn.1 x q0 (fs := fs) he hcl k hk (K.hts _ hw) (fun x hx => hx) hv hd (kk H L ls x y z e)
theorem zb_mmax (K : zBk D cI cZ A Γ cc own nL d mc ms) {idx : Nat} {x y : Int32} (hw : Cond.methodLink own idx Lib.Math.max.name ∈ zU) (hnL : lv.length = nL) (hst : (st.map fun v => v.category).sum ≤ 8) (hd1 : 1 ≤ d) (hc : kc ≤ mc) (hs : ks ≤ ms) (hd : decode cc pc = .ok (.invokestatic idx, 3)) (kk : zB D l A Γ Q (pc + 3) lv (.int (if x < y then y else x) :: st) ws kc ks) : zB D l A Γ Q pc lv (.int y :: .int x :: st) ws kc ks :=
  fun H L ls a b c e => va_mmax K.exec K.code (by rw [K.maxl, e.1, hnL]) K.own (K.hts _ hw) (K.hts _ (zU_in (i := 182) (by decide +kernel) rfl)) (K.hts _ (zU_in (i := 60) (by decide +kernel) rfl)) (K.hts _ (zU_in (i := 183) (by decide +kernel) rfl)) (by have := K.frames; omega) (by have := K.locals; omega) (by have := K.cells; omega) (by have := K.slots; omega) hd (kk H L ls a b c e)
theorem zb_newi (K : zBk D cI cZ A Γ cc own nL d mc ms) {n : Int32} (N : Nat) (hn : n = nI N) (hN : N < 1000) (hc : kc + 1 ≤ mc) (hs : ks + N ≤ ms) (hd : decode cc pc = .ok (.newarray .int, 2)) (kk : ∀ q, zB D l A Γ Q (pc + 2) lv (.ref q :: st) (ws ++ [(q, .inl (cI, N, .inl (fun _ => 0)))]) (kc + 1) (ks + N)) : zB D l A Γ Q pc lv (.int n :: st) ws kc ks := by
  intro H L ls x y z e
  refine va_newa (atype := .int) (ty := .int) (a0 := (N, .inl (fun _ => 0))) (N' := N) K.exec K.code (K.hts _ (zU_in (i := 88) (by decide +kernel) rfl)) rfl K.kn.1 x y z K.free (fun cA => rfl) (by rw [hn]; exact nI_pos (by omega)) (by rw [hn]; exact zcn_nI (by omega)) (by show N * 4 ≤ _; omega) (by have := K.cells; omega) (by have := K.slots; omega) hd (fun q cA H1 hK hP hD hS => ?_)
  have e1 := (hK.2 0 (cI, .int) rfl).2
  have e2 := (hK.2 2 (cA, .int) rfl).2
  have ec : cA = cI := Option.some.inj (e2.symm.trans e1)
  subst ec
  exact kk q H1 L ls hP hD hS e
theorem zb_newz (K : zBk D cI cZ A Γ cc own nL d mc ms) {n : Int32} (N : Nat) (hn : n = nI N) (hN : N < 1000) (hc : kc + 1 ≤ mc) (hs : ks + N ≤ ms) (hd : decode cc pc = .ok (.newarray .boolean, 2)) (kk : ∀ q, zB D l A Γ Q (pc + 2) lv (.ref q :: st) (ws ++ [(q, .inl (cZ, N, .inl (fun _ => 0)))]) (kc + 1) (ks + N)) : zB D l A Γ Q pc lv (.int n :: st) ws kc ks := by
  intro H L ls x y z e
  refine va_newa (atype := .boolean) (ty := .boolean) (a0 := (N, .inl (fun _ => 0))) (N' := N) K.exec K.code (K.hts _ (zU_in (i := 850) (by decide +kernel) rfl)) rfl K.kn.1 x y z K.free (fun cA => rfl) (by rw [hn]; exact nI_pos (by omega)) (by rw [hn]; exact zcn_nI (by omega)) (by show N * 1 ≤ _; omega) (by have := K.cells; omega) (by have := K.slots; omega) hd (fun q cA H1 hK hP hD hS => ?_)
  have e1 := (hK.2 1 (cZ, .boolean) rfl).2
  have e2 := (hK.2 2 (cA, .boolean) rfl).2
  have ec : cA = cZ := Option.some.inj (e2.symm.trans e1)
  subst ec
  exact kk q H1 L ls hP hD hS e
theorem zb_new (K : zBk D cI cZ A Γ cc own nL d mc ms) {ci N idx : Nat} {C : String} {T : u_T} {fs : List Value} (hcl : zcl[ci]? = some (C, T, N)) (hin : ∀ w ∈ u_ws C T N, w ∈ zU) (ty0 : Nat → FieldType) (hty : ∀ k, k < N → parseFieldDescriptor (T k).2.2.1 = some (ty0 k)) (h1 : Cond.classLink own idx C ∈ zU) (h2 : Cond.instantiable C N ∈ zU) (h3 : Cond.initialized C ∈ zU) (hfs : ∀ j, j < N → defaultValue (ty0 j) = vp_V fs j) (hc : kc + 1 ≤ mc) (hs : ks + N ≤ ms) (hd : decode cc pc = .ok (.new idx, 3)) (kk : ∀ q, zB D l A Γ Q (pc + 3) lv (.ref q :: st) (ws ++ [(q, .inr (ci, fs))]) (kc + 1) (ks + N)) : zB D l A Γ Q pc lv st ws kc ks := by
  intro H L ls x y z e
  exact va_new K.exec K.code K.hts hin ty0 hty K.own (K.hts _ h1) (K.hts _ h2) (K.hts _ h3) K.kn.1 x y z K.free hcl hfs (by have := K.cells; omega) (by have := K.slots; omega) hd (fun q H1 hP hD hS => kk q H1 L ls hP hD hS e)
end ZN
/-- a constructor's contract: from the cells W0 come the cells W1 q, mc of them new, of ms slots -/
def zNi (l : Launch) (D : va_G) (cI cZ : ClassId) (M : zMT) (d mc ms : Nat) (av : List Value) (W0 : va_W) (W1 : (Nat → Nat) → va_W) (sz : Nat) : Prop :=
  Met l M.1 (zws M) { frames := d, cells := mc, slots := ms, locals := 64 * d } (va_Pc av (fun U => U.heap.size = sz ∧ va_P D zcl W0 U.heap ∧ zKb D cI cZ U ∧ va_D (fun _ => True) W0)) (va_Qv (fun _ : Nat → Nat => True) (fun q t => va_P D zcl (W1 q) t.heap ∧ va_D (va_A W0 sz) (W1 q)) (va_A W0 sz)) mc ms (va_A W0 sz)
def zBQ (D : va_G) (A : Nat → Prop) (Γ : zGT) (W1 : (Nat → Nat) → va_W) (mc ms : Nat) : State → Prop := MQ (zGb Γ) (va_Qv (fun _ : Nat → Nat => True) (fun q t => va_P D zcl (W1 q) t.heap ∧ va_D A (W1 q)) A) (zGa Γ) (zGs Γ) mc ms A
section ZN
variable {D : va_G} {cI cZ : ClassId} {l : Launch} {A : Nat → Prop} {Γ : zGT} {Q : State → Prop} {cc : ByteArray} {own : String} {nL d mc ms pc kc ks : Nat} {lv : List (Option Value)} {st : List Value} {ws : va_W}
theorem zb_ret (K : zBk D cI cZ A Γ cc own nL d mc ms) {W1 : (Nat → Nat) → va_W} (hr : (zGM Γ).sig.returnType = none) (q : Nat → Nat) (he : ws = W1 q) (hd : decode cc pc = .ok (.return_, 1)) : zB D l A Γ (zBQ D A Γ W1 kc ks) pc lv [] ws kc ks := by
  subst he
  exact fun H L ls a b c e => W.vret K.exec K.code hr (fun t ht _ => ⟨⟨q, rfl, trivial, by rw [ht]; exact a, b⟩, c.F ht⟩) c.2.2 hd K.locks
theorem zNi_of {M : zMT} {av : List Value} {W0 : va_W} {W1 : (Nat → Nat) → va_W} {sz : Nat} (own : String) (cc : ByteArray) (nL : Nat) (hM : M = (⟨own, "<init>", M.1.desc⟩, cc, nL, none)) (hy : plainName own = true) (lv : List (Option Value)) (hlv : lv.length = nL) (hle : ∀ q ∈ zasc 0 lv, q ∈ lv_args 0 av) (hav : (lg_sl av).length ≤ nL)
    (body : ∀ (Γ : zGT) (A : Nat → Prop), zBk D cI cZ A Γ cc own nL d mc ms → (zGM Γ).name = "<init>" → (zGM Γ).sig.returnType = none → zB D l A Γ (zBQ D A Γ W1 mc ms) 0 lv [] W0 0 0) : zNi l D cI cZ M d mc ms av W0 W1 sz := by
  obtain ⟨y, cc', nL', rt'⟩ := M
  simp only [Prod.mk.injEq] at hM
  obtain ⟨hy0, rfl, rfl, rfl⟩ := hM
  unfold zNi
  refine Met.ofW (cc := cc') (maxL := nL') (ret := none) (by rw [hy0]; exact hy) rfl ?_
  intro p e s m args below meth c s₁ B hml hv
  obtain ⟨rfl, hsz, hP, hK, hD0⟩ := hv
  have hts := atoms_spec (ws := zws (y, cc', nL', none)) B.pre
  have hown : s.vm.findClass own = some m.cls := by
    have := findClass_of_methodNamed B.named
    rw [hy0] at this
    exact this
  have hin : meth.name = "<init>" := by
    have := (name_of_methodNamed B.named B.method).1
    rw [hy0] at this
    exact this
  subst hsz
  have hD := hD0.self (sz := s.heap.size)
  have C : zBk D cI cZ (va_A W0 s.heap.size) (p, e, (headSpec (zws (y, cc', nL', none)) { frames := d, cells := mc, slots := ms, locals := 64 * d }).room, s, m, av.toArray, below, meth, c, 0, 0) cc' own nL' d mc ms := ⟨B.exec, B.bytes, hml, hown, fun w hw => hts w (List.mem_cons_of_mem _ hw), hK, Nat.le_refl _, Nat.le_refl _, Nat.le_refl _, Nat.le_refl _, B.notSynchronized, fun q h => Or.inr h⟩
  have hl := lv_entry av (n := nL') hav
  rw [lg_entry_eq]
  have hl2 : lv_has (lg_sl av ++ List.replicate (nL' - (lg_sl av).length) Slot.unset).toArray lv.length (zasc 0 lv) := ⟨by rw [hlv]; exact hl.1, hl.2.1, fun q hq => hl.2.2 q (hle q hq)⟩
  exact body _ _ C hin B.returns s.heap [] _ hP hD va_S.rf hl2
theorem zb_room (K : zBk D cI cZ A Γ cc own nL d mc ms) {dy maxL : Nat} (h1 : dy + 1 ≤ d) (h2 : maxL ≤ 40) : dy + 1 ≤ (zGR Γ).frames ∧ 8 + (maxL + 11) + 64 * dy ≤ (zGR Γ).locals := by
  have := K.frames
  have := K.locals
  omega
theorem zb_after {M : zMT} {mc1 ms1 sz : Nat} {av rest st0 : List Value} {W0 wr : va_W} {W1 : (Nat → Nat) → va_W} {H : Heap} {L : List Loc} {ls : Array Slot} (K : zBk D cI cZ A Γ cc own nL d mc ms) (hsz : H.size = sz) (hr : va_Run (zGp Γ) l (zGe Γ) (zGR Γ) (zGs Γ) (zGm Γ) (zGa Γ) (zGb Γ) (zGM Γ) (zGc Γ) H L kc ks mc1 ms1 (F0 (zGm Γ) pc ls st0) rest (va_Qv (fun _ : Nat → Nat => True) (fun q t => va_P D zcl (W1 q) t.heap ∧ va_D (va_A W0 sz) (W1 q)) (va_A W0 sz) av.toArray) (va_A W0 sz)) (x : va_P D zcl ws H) (y : va_D A ws) (z : va_S A (zGs Γ).heap H L) (e : lv_has ls lv.length (zasc 0 lv)) (isC isR : List Nat) (hC : isC.map (fun i => ws[i]?) = W0.map some) (hR : isR.map (fun i => ws[i]?) = wr.map some) (hn : va_nd isR = true) (hdis : ∀ i ∈ isR, i ∉ isC) (kk : ∀ q, zB D l A Γ Q (pc + 3) lv rest (wr ++ W1 q) (kc + mc1) (ks + ms1)) : W (zGp Γ) l (zGe Γ) (zGR Γ) (zGs Γ) (zGm Γ) (zGa Γ) (zGb Γ) (zGM Γ) (zGc Γ) H L kc ks Q (F0 (zGm Γ) pc ls st0) := by
  subst hsz
  have hFc := va_free (wc := W0) y z K.free isC hC
  refine va_callv hr z (fun q _ h => hFc q h) hFc (fun u t H1 locs ht hvm hw hB hz1 hk1 hS => ?_)
  obtain ⟨hP1, hD1⟩ := hB
  rw [ht] at hP1
  obtain ⟨hP, hD⟩ := va_join (wr := wr) (w1 := W1 u) x y isC isR hC hR hn hdis hk1 hFc hP1 hD1
  exact kk u H1 locs ls hP hD hS e
theorem zb_pre {H : Heap} (K : zBk D cI cZ A Γ cc own nL d mc ms) {av : List Value} {W0 : va_W} (x : va_P D zcl W0 H) (y : va_D A W0) : PreS (zGs Γ) H (va_Pc av (fun U => U.heap.size = H.size ∧ va_P D zcl W0 U.heap ∧ zKb D cI cZ U ∧ va_D (fun _ => True) W0)) av :=
  ⟨fun a U g mk q => ⟨q.1, q.2.1, q.2.2.1, ⟨va_K.moved (u := U) (U := U.calling g mk a) (Vm.Alike.refl U.vm) q.2.2.2.1.1, zNest_same (u := U) (U := U.calling g mk a) rfl q.2.2.2.1.2⟩, q.2.2.2.2⟩, fun U hU hW => ⟨rfl, by rw [hU], by rw [hU]; exact x, zKb_warm hW K.kn, y.weaken (fun _ _ _ _ => trivial)⟩⟩
theorem zb_call (K : zBk D cI cZ A Γ cc own nL d mc ms) {M : zMT} {dy mc1 ms1 n idx a : Nat} {As : List Value} {W0 wr : va_W} {W1 : (Nat → Nat) → va_W} (hM : ∀ sz, zNi l D cI cZ M dy mc1 ms1 (.ref a :: As) W0 W1 sz) (hm : zcall M n) (hy : M.1.name = "<init>") (hret : M.2.2.2 = none) (hl : Cond.methodLink own idx M.1 ∈ zU) (hi : Cond.instanceMethod M.1 ∈ zU) (isC isR : List Nat) (hC : isC.map (fun i => ws[i]?) = W0.map some) (hC2 : isC.filterMap (fun i => ws[i]?) = W0) (hnC : va_nd isC = true) (hR : isR.map (fun i => ws[i]?) = wr.map some) (hnR : va_nd isR = true) (hdis : ∀ i ∈ isR, i ∉ isC) (hn : As.length = n) (hdy : dy + 1 ≤ d) (hnL : lv.length = nL) (hst : (st.map fun v => v.category).sum ≤ 8) (hc : kc + mc1 ≤ mc) (hs : ks + ms1 ≤ ms) (hd : decode cc pc = .ok (.invokespecial idx, 3)) (kk : ∀ q, zB D l A Γ Q (pc + 3) lv st (wr ++ W1 q) (kc + mc1) (ks + ms1)) : zB D l A Γ Q pc lv (As.reverse ++ .ref a :: st) ws kc ks := by
  obtain ⟨yy, cc1, nL1, rt1⟩ := M
  dsimp only at hret
  subst hret
  intro H L ls x y z e
  refine zb_after (M := (yy, cc1, nL1, none)) K rfl (va_runI (As := As) (rest := st) ⟨K.exec, K.code, K.maxl, K.own, K.hts⟩ (hM H.size) (cwI n K.hts (zU_good' _ hm.1) rfl rfl rfl (K.hts _ hm.2.1) (K.hts _ hl) (K.hts _ hi) hy hm.2.2.1 (zb_room K hdy hm.2.2.2)) (zb_pre K (x.sub isC hC2) (y.sub isC hnC hC)) rfl hn (by rw [← hnL]; exact e.1) rfl (lv_room hst) hd ⟨by have := K.cells; omega, by have := K.slots; omega⟩) x y z e isC isR hC hR hnR hdis kk
theorem zb_callN (K : zBk D cI cZ A Γ cc own nL d mc ms) {M : zMT} {dy mc1 ms1 n idx a : Nat} {host : String} {As : List Value} {W0 wr : va_W} {W1 : (Nat → Nat) → va_W} (hM : ∀ sz, zNi l D cI cZ M dy mc1 ms1 (.ref a :: As) W0 W1 sz) (hm : zcall M n) (hy : M.1.name = "<init>") (hret : M.2.2.2 = none) (hl : Cond.methodLinkNest own idx M.1 host ∈ zNest) (hi : Cond.instanceMethod M.1 ∈ zU) (isC isR : List Nat) (hC : isC.map (fun i => ws[i]?) = W0.map some) (hC2 : isC.filterMap (fun i => ws[i]?) = W0) (hnC : va_nd isC = true) (hR : isR.map (fun i => ws[i]?) = wr.map some) (hnR : va_nd isR = true) (hdis : ∀ i ∈ isR, i ∉ isC) (hn : As.length = n) (hdy : dy + 1 ≤ d) (hnL : lv.length = nL) (hst : (st.map fun v => v.category).sum ≤ 8) (hc : kc + mc1 ≤ mc) (hs : ks + ms1 ≤ ms) (hd : decode cc pc = .ok (.invokespecial idx, 3)) (kk : ∀ q, zB D l A Γ Q (pc + 3) lv st (wr ++ W1 q) (kc + mc1) (ks + ms1)) : zB D l A Γ Q pc lv (As.reverse ++ .ref a :: st) ws kc ks := by
  obtain ⟨yy, cc1, nL1, rt1⟩ := M
  dsimp only at hret
  subst hret
  intro H L ls x y z e
  refine zb_after (M := (yy, cc1, nL1, none)) K rfl (va_runIN (As := As) (rest := st) ⟨K.exec, K.code, K.maxl, K.own, K.hts⟩ (hM H.size) ⟨va_cnB n K.hts (zU_good' _ hm.1) rfl rfl rfl (K.kn.2 _ hl) (K.hts _ hm.2.1) hm.2.2.1 (zb_room K hdy hm.2.2.2), hy, K.hts _ hi⟩ (zb_pre K (x.sub isC hC2) (y.sub isC hnC hC)) rfl hn (by rw [← hnL]; exact e.1) rfl (lv_room hst) hd ⟨by have := K.cells; omega, by have := K.slots; omega⟩) x y z e isC isR hC hR hnR hdis kk
end ZN
