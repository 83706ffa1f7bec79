/-! The law from its entry: the two objects, and the world made. -/
theorem zl_all (ws : va_W) : (List.range ws.length).map (fun i => ws[i]?) = ws.map some := by
  apply List.ext_getElem?
  intro i
  by_cases h : i < ws.length
  · simp [h]
  · rw [List.getElem?_eq_none (by simpa using h), List.getElem?_eq_none (by simpa using h)]
theorem zl_all2 (ws : va_W) : (List.range ws.length).filterMap (fun i => ws[i]?) = ws := by
  have e : (List.range ws.length).filterMap (fun i => ws[i]?) = ((List.range ws.length).map (fun i => ws[i]?)).filterMap id := by
    rw [List.filterMap_map]
    rfl
  rw [e, zl_all, List.filterMap_map]
  simp
theorem zl_known {s : State} {args : Array Value} (hz : ∀ w ∈ zU, w.before args s = true) : ∃ D : va_G, ∀ (k : Nat) (q : vw_C), zcl[k]? = some q → u_Kn s q.1 q.2.1 q.2.2 (D.1 k) (D.2 k) := by
  obtain ⟨c0, i0, k0⟩ := u_known (C := zN_Acts) (T := zT_Acts) (N := 3) (n := 3) hz zi_Acts (hz _ (zU_in (i := 170) (by decide +kernel) rfl))
  obtain ⟨c1, i1, k1⟩ := u_known (C := zN_Mesh) (T := zT_Mesh) (N := 14) (n := 14) hz zi_Mesh (hz _ (zU_in (i := 90) (by decide +kernel) rfl))
  obtain ⟨c2, i2, k2⟩ := u_known (C := zN_Obs) (T := zT_Obs) (N := 4) (n := 4) hz zi_Obs (hz _ (zU_in (i := 208) (by decide +kernel) rfl))
  obtain ⟨c3, i3, k3⟩ := u_known (C := zN_Planner) (T := zT_Planner) (N := 1) (n := 1) hz zi_Planner (hz _ (zU_in (i := 159) (by decide +kernel) rfl))
  obtain ⟨c4, i4, k4⟩ := u_known (C := zN_Shelf) (T := zT_Shelf) (N := 3) (n := 3) hz zi_Shelf (hz _ (zU_in (i := 176) (by decide +kernel) rfl))
  obtain ⟨c5, i5, k5⟩ := u_known (C := zN_Text) (T := zT_Text) (N := 2) (n := 2) hz zi_Text (hz _ (zU_in (i := 75) (by decide +kernel) rfl))
  obtain ⟨c6, i6, k6⟩ := u_known (C := zN_Slots) (T := zT_Slots) (N := 10) (n := 10) hz zi_Slots (hz _ (zU_in (i := 67) (by decide +kernel) rfl))
  obtain ⟨c7, i7, k7⟩ := u_known (C := zN_Model) (T := zT_Model) (N := 32) (n := 32) hz zi_Model (hz _ (zU_in (i := 745) (by decide +kernel) rfl))
  refine ⟨(fun k => [c0, c1, c2, c3, c4, c5, c6, c7].getD k c0, fun k => [i0, i1, i2, i3, i4, i5, i6, i7].getD k i0), fun k q hq => ?_⟩
  match k, hq with
  | 0, hq => cases hq; exact k0
  | 1, hq => cases hq; exact k1
  | 2, hq => cases hq; exact k2
  | 3, hq => cases hq; exact k3
  | 4, hq => cases hq; exact k4
  | 5, hq => cases hq; exact k5
  | 6, hq => cases hq; exact k6
  | 7, hq => cases hq; exact k7
  | k + 8, hq => simp at hq
theorem zl_arr {s : State} {args : Array Value} (hz : ∀ w ∈ zU, w.before args s = true) : ∃ cI cZ : ClassId, ∀ (k : Nat) (q : ClassId × FieldType), ([(cI, .int), (cZ, .boolean)] : List (ClassId × FieldType))[k]? = some q → ArrOfT s q.1 q.2 ∧ va_RA s q.1 q.2 := by
  obtain ⟨cI, kI, pI, a1, a2, a3⟩ := Cond.arrayClass_spec (hz (Cond.arrayClass .int) (zU_in (i := 88) (by decide +kernel) rfl))
  obtain ⟨cZ, kZ, pZ, b1, b2, b3⟩ := Cond.arrayClass_spec (hz (Cond.arrayClass .boolean) (zU_in (i := 850) (by decide +kernel) rfl))
  refine ⟨cI, cZ, fun k q hq => ?_⟩
  match k, hq with
  | 0, hq => cases hq; exact ⟨fun n z => ⟨fun k h => (by cases h), kI, a2, pI, a3⟩, a1⟩
  | 1, hq => cases hq; exact ⟨fun n z => ⟨fun k h => (by cases h), kZ, b2, pZ, b3⟩, b1⟩
  | k + 2, hq => simp at hq
theorem zl_nest {s : State} {args : Array Value} (hts : ∀ w ∈ lw_tbl, w.before args s = true) : ∀ w ∈ zNest, va_Nw w s := by
  intro w hw
  simp only [zNest, List.mem_cons, List.not_mem_nil, or_false] at hw
  rcases hw with rfl | rfl | rfl | rfl | rfl | rfl | rfl | rfl | rfl | rfl
  · exact va_Nw.of rfl (hts _ (List.mem_of_getElem? (i := 76) (by decide +kernel)))
  · exact va_Nw.of rfl (hts _ (List.mem_of_getElem? (i := 91) (by decide +kernel)))
  · exact va_Nw.of rfl (hts _ (List.mem_of_getElem? (i := 160) (by decide +kernel)))
  · exact va_Nw.of rfl (hts _ (List.mem_of_getElem? (i := 171) (by decide +kernel)))
  · exact va_Nw.of rfl (hts _ (List.mem_of_getElem? (i := 209) (by decide +kernel)))
  · exact va_Nw.of rfl (hts _ (List.mem_of_getElem? (i := 321) (by decide +kernel)))
  · exact va_Nw.of rfl (hts _ (List.mem_of_getElem? (i := 366) (by decide +kernel)))
  · exact va_Nw.of rfl (hts _ (List.mem_of_getElem? (i := 469) (by decide +kernel)))
  · exact va_Nw.of rfl (hts _ (List.mem_of_getElem? (i := 560) (by decide +kernel)))
  · exact va_Nw.of rfl (hts _ (List.mem_of_getElem? (i := 587) (by decide +kernel)))
theorem zl_dS : ∀ j, j < 10 → defaultValue (zY_Slots j) = vp_V [.null, .null, .null, .null, .null, .null, .null, .null, .null, .long 0] j := fun j hj => by
  match j, hj with
  | 0, _ => rfl
  | 1, _ => rfl
  | 2, _ => rfl
  | 3, _ => rfl
  | 4, _ => rfl
  | 5, _ => rfl
  | 6, _ => rfl
  | 7, _ => rfl
  | 8, _ => rfl
  | 9, _ => rfl
  | k + 10, hj => omega
theorem zl_dM : ∀ j, j < 32 → defaultValue (zY_Model j) = vp_V [.null, .int 0, .int 0, .null, .null, .null, .null, .null, .int 0, .int 0, .null, .null, .null, .null, .null, .int 0, .long 0, .int 0, .null, .null, .null, .int 0, .int 0, .int 0, .int 0, .null, .null, .null, .int 0, .int 0, .null, .null] j := fun j hj => by
  match j, hj with
  | 0, _ => rfl
  | 1, _ => rfl
  | 2, _ => rfl
  | 3, _ => rfl
  | 4, _ => rfl
  | 5, _ => rfl
  | 6, _ => rfl
  | 7, _ => rfl
  | 8, _ => rfl
  | 9, _ => rfl
  | 10, _ => rfl
  | 11, _ => rfl
  | 12, _ => rfl
  | 13, _ => rfl
  | 14, _ => rfl
  | 15, _ => rfl
  | 16, _ => rfl
  | 17, _ => rfl
  | 18, _ => rfl
  | 19, _ => rfl
  | 20, _ => rfl
  | 21, _ => rfl
  | 22, _ => rfl
  | 23, _ => rfl
  | 24, _ => rfl
  | 25, _ => rfl
  | 26, _ => rfl
  | 27, _ => rfl
  | 28, _ => rfl
  | 29, _ => rfl
  | 30, _ => rfl
  | 31, _ => rfl
  | k + 32, hj => omega
set_option maxRecDepth 20000 in
theorem zl_ctor {D : va_G} {cI cZ : ClassId} {l : Launch} {A : Nat → Prop} {Γ : zGT} {Q : State → Prop} {b : Nat} (K : zBk D cI cZ A Γ code "PeriodSlotsLaw" 4 20 71 1829) (kk : ∀ a : Nat → Nat, zB D l A Γ Q 16 [some (.ref b), some (.ref (a 0)), some (.ref (a 51)), none] [] (zw (l, D, cI, cZ, a) (o_Model_clear zH0 54) zg0) 71 1829) : zB D l A Γ Q 0 [some (.ref b), none, none, none] [] [] 0 0 := by
  refine zb_new K (ci := 6) (fs := [.null, .null, .null, .null, .null, .null, .null, .null, .null, .long 0]) rfl zi_Slots zY_Slots zY_Slots_ok (zU_in (i := 66) (by decide +kernel) rfl) (zU_in (i := 67) (by decide +kernel) rfl) (zU_in (i := 54) (by decide +kernel) rfl) zl_dS (Nat.le_of_ble_eq_true rfl) (Nat.le_of_ble_eq_true rfl) d_law_0 (fun q0 => ?_)
  refine zb_dup K d_law_3 rfl ?_
  show zB D l A Γ Q 4 [some (.ref b), none, none, none] [.ref q0, .ref q0] (w_Slots_0 q0) 1 10
  refine zb_call K (M := M_Slots_init) (As := []) (a := q0) (st := [.ref q0]) (W0 := w_Slots_0 q0) (W1 := fun q => w_Slots_1 l D cI cZ (fun c => if c = 0 then q0 else q c)) (wr := []) (fun sz => c_Slots_init l D cI cZ q0 sz) k_Slots_init rfl rfl (zU_in (i := 68) (by decide +kernel) rfl) (zU_in (i := 69) (by decide +kernel) rfl) [0] [] rfl rfl (by decide) rfl (by decide) (fun i h => absurd h List.not_mem_nil) rfl (by decide) rfl (Nat.le_of_ble_eq_true rfl) (Nat.le_of_ble_eq_true rfl) (Nat.le_of_ble_eq_true rfl) d_law_4 (fun f => ?_)
  show zB D l A Γ Q 7 [some (.ref b), none, none, none] [.ref q0] (w_Slots_1 l D cI cZ (fun c => if c = 0 then q0 else f c)) 51 872
  obtain ⟨a, ha⟩ : ∃ a : Nat → Nat, a = (fun c => if c = 0 then q0 else f c) := ⟨_, rfl⟩
  have ha0 : a 0 = q0 := by rw [ha]; rfl
  rw [← ha, ← ha0]
  refine zb_astore K [some (.ref b), some (.ref (a 0)), none, none] d_law_7 (Nat.le_of_ble_eq_true rfl) rfl rfl ?_
  refine zb_new K (ci := 7) (fs := [.null, .int 0, .int 0, .null, .null, .null, .null, .null, .int 0, .int 0, .null, .null, .null, .null, .null, .int 0, .long 0, .int 0, .null, .null, .null, .int 0, .int 0, .int 0, .int 0, .null, .null, .null, .int 0, .int 0, .null, .null]) rfl zi_Model zY_Model zY_Model_ok (zU_in (i := 744) (by decide +kernel) rfl) (zU_in (i := 745) (by decide +kernel) rfl) (zU_in (i := 62) (by decide +kernel) rfl) zl_dM (Nat.le_of_ble_eq_true rfl) (Nat.le_of_ble_eq_true rfl) d_law_8 (fun q1 => ?_)
  refine zb_dup K d_law_11 rfl ?_
  show zB D l A Γ Q 12 [some (.ref b), some (.ref (a 0)), none, none] [.ref q1, .ref q1] (w_Model_0 l D cI cZ a q1) 52 904
  have hlen : (w_Model_0 l D cI cZ a q1).length = 52 := by simp [w_Model_0, w_Slots_1]
  have hC := zl_all (w_Model_0 l D cI cZ a q1)
  have hC2 := zl_all2 (w_Model_0 l D cI cZ a q1)
  rw [hlen] at hC hC2
  refine zb_call K (M := M_Model_init) (As := []) (a := q1) (st := [.ref q1]) (W0 := w_Model_0 l D cI cZ a q1) (W1 := fun q => zw (l, D, cI, cZ, zadr a q1 q) (o_Model_clear zH0 54) zg0) (wr := []) (fun sz => c_Model_init l D cI cZ a q1 sz) k_Model_init rfl rfl (zU_in (i := 746) (by decide +kernel) rfl) (zU_in (i := 747) (by decide +kernel) rfl) (List.range 52) [] hC hC2 (by decide) rfl (by decide) (fun i h => absurd h List.not_mem_nil) rfl (by decide) rfl (Nat.le_of_ble_eq_true rfl) (Nat.le_of_ble_eq_true rfl) (Nat.le_of_ble_eq_true rfl) d_law_12 (fun f2 => ?_)
  refine zb_astore K [some (.ref b), some (.ref (a 0)), some (.ref q1), none] d_law_15 (Nat.le_of_ble_eq_true rfl) rfl rfl ?_
  exact kk (zadr a q1 f2)
/-- from the growing world into the fixed one -/
theorem zl_in {D : va_G} {cI cZ : ClassId} {l : Launch} {p : Program} {e : Env} {R : Room} {s : State} {m : MethodId} {av : Array Value} {below : List Frame} {meth : Method} {c : Code} {Q : State → Prop} {pc kc ks k0 n0 : Nat} {lv : List (Option Value)} {st : List Value} {a : Nat → Nat} {h : zHp} {g : zLg} (kk : zInj (l, D, cI, cZ, a) → (∀ q, zA (l, D, cI, cZ, a) q → s.heap.size ≤ q) → zV (l, D, cI, cZ, a) (p, e, R, s, m, av, below, meth, c, kc, ks) Q pc lv st h g) : zB D l (fun q => s.heap.size ≤ q) (p, e, R, s, m, av, below, meth, c, k0, n0) Q pc lv st (zw (l, D, cI, cZ, a) h g) kc ks := by
  intro H locs ls x y z w
  refine va_forget (fun q hq => z.2.2 q hq) ?_
  have hA : ∀ q, zA (l, D, cI, cZ, a) q → s.heap.size ≤ q := fun q hq => by
    obtain ⟨i, hi, rfl⟩ := hq
    exact y.2 i _ (zw_at (l, D, cI, cZ, a) h g hi)
  exact kk (zw_inj y) hA H [] ls x ⟨z.1, fun q h1 _ => z.2.1 q h1 (Nat.not_le.mpr h1), fun _ hq => absurd hq List.not_mem_nil⟩ w
