/-! The constructor of PeriodSlotsModel, beside the class' cells: rows. -/
section ZN
variable {D : va_G} {cI cZ : ClassId} {l : Launch} {A : Nat → Prop} {Γ : zGT} {Q : State → Prop} {cc : ByteArray} {own : String} {nL d mc ms pc kc ks : Nat} {lv : List (Option Value)} {st : List Value} {ws : va_W}
theorem zb_perm {ws2 : va_W} (isC : List Nat) (hC : isC.map (fun i => ws[i]?) = ws2.map some) (hn : va_nd isC = true) (kk : zB D l A Γ Q pc lv st ws2 kc ks) : zB D l A Γ Q pc lv st ws kc ks := by
  have hC2 : isC.filterMap (fun i => ws[i]?) = ws2 := by
    have : ∀ (is : List Nat) (w2 : va_W), is.map (fun i => ws[i]?) = w2.map some → is.filterMap (fun i => ws[i]?) = w2 := by
      intro is
      induction is with
      | nil =>
        intro w2 h
        cases w2 with
        | nil => rfl
        | cons b w2 => cases h
      | cons i is ih =>
        intro w2 h
        cases w2 with
        | nil => cases h
        | cons b w2 =>
          rw [List.map_cons, List.map_cons] at h
          injection h with h1 h2
          rw [List.filterMap_cons, h1]
          show b :: _ = b :: w2
          rw [ih w2 h2]
    exact this isC ws2 hC
  exact fun H L ls x y z e => kk H L ls (x.sub isC hC2) (y.sub isC hn hC) z e
theorem zw_inj {X : zXT} {h : zHp} {g : zLg} (y : va_D A (zw X h g)) : zInj X := fun i j hi hj e => y.1 i j _ _ (zw_at X h g hi) (zw_at X h g hj) e
theorem zb_callZ (K : zBk D cI cZ A Γ cc own nL d mc ms) {adr : Nat → Nat} {M : zMT} {dy n idx : Nat} {As : List Value} {h h2 : zHp} {g g2 : zLg} (hM : zDi (l, D, cI, cZ, adr) M dy As h g none h2 g2) (hm : zcall M n) (hl : Cond.methodLink own idx M.1 ∈ zU) (hi : Cond.static M.1 ∈ zU) (hn : As.length = n) (hdy : dy + 1 ≤ d) (hnL : lv.length = nL) (hst : (st.map fun v => v.category).sum ≤ 8) (hc : kc ≤ mc) (hs : ks ≤ ms) (hd : decode cc pc = .ok (.invokestatic idx, 3)) (kk : zB D l A Γ Q (pc + 3) lv st (zw (l, D, cI, cZ, adr) h2 g2) kc ks) : zB D l A Γ Q pc lv (As.reverse ++ st) (zw (l, D, cI, cZ, adr) h g) kc ks := by
  intro H L ls x y z e T hT Y
  have inj := zw_inj y
  have hr := va_runS (As := As) (rest := st) ⟨K.exec, K.code, K.maxl, K.own, K.hts⟩ hM ⟨callB_of n K.hts (zU_good' _ hm.1) rfl rfl rfl (K.hts _ hm.2.1) (K.hts _ hl) hm.2.2.1 (zb_room K hdy hm.2.2.2), K.hts _ hi⟩ ⟨zr_blind (l, D, cI, cZ, adr) _ h g, fun U hU hW => ⟨rfl, by unfold zSt; rw [hU]; exact x, zKn_warm hW ⟨K.kn.1, inj, K.kn.2⟩⟩⟩ (g := F0 (zGm Γ) pc ls (As.reverse ++ st)) (H := H) (locs := L) (cells := kc) (slots := ks) (p := zGp Γ) (e := zGe Γ) (below := zGb Γ) (meth := zGM Γ) (c := zGc Γ) (m := zGm Γ) rfl hn (by rw [← hnL]; exact e.1) rfl (lv_room hst) hd ⟨by have := K.cells; omega, by have := K.slots; omega⟩
  obtain ⟨v, st₀, t, T', L2, h0, Y', hL, e1, e2, ⟨⟨hv, hb⟩, hz, hk⟩, stp⟩ := hr T hT Y
  cases hv
  rw [h0] at hz hk
  have hP : va_P D zcl (zw (l, D, cI, cZ, adr) h2 g2) T'.heap := by rw [e1]; exact hb
  have hAq : ∀ q, zA (l, D, cI, cZ, adr) q → A q := fun q ⟨c, hc, hq⟩ => hq ▸ y.2 c _ (zw_at (l, D, cI, cZ, adr) h g hc)
  have hS2 : va_S A (zGs Γ).heap T'.heap (L ++ L2) := ⟨Nat.le_trans z.1 (by rw [e1]; exact hz), fun q q1 q2 => by rw [e1, hk q (Nat.lt_of_lt_of_le q1 z.1) (fun w => q2 (hAq q w))]; exact z.2.1 q q1 q2, fun q hq => by
      rcases List.mem_append.mp hq with h | h
      · exact z.2.2 q h
      · exact hAq _ (hL q h)⟩
  obtain ⟨t2, a1, b1⟩ := kk T'.heap (L ++ L2) ls hP ((zw_D inj h2 g2).weaken (fun _ q _ w => hAq q.1 w)) hS2 e T' rfl Y'
  exact ⟨t2, stp t2 a1, b1⟩
end ZN
section ZN
variable {D : va_G} {cI cZ : ClassId} {l : Launch} {A : Nat → Prop} {Γ : zGT} {Q : State → Prop} {cc : ByteArray} {own : String} {nL d mc ms pc kc ks : Nat} {lv : List (Option Value)} {st : List Value}
theorem zb_eq {ws ws2 : va_W} (e : ws = ws2) (kk : zB D l A Γ Q pc lv st ws2 kc ks) : zB D l A Γ Q pc lv st ws kc ks := e ▸ kk
theorem zb_putP (K : zBk D cI cZ A Γ cc own nL d mc ms) {pre arrs : va_W} (hp : pre.length = 51) {a idx : Nat} {fs : List Value} (k : Nat) (hk : k < 32) (hw : Cond.fieldLink own idx (zT_Model k).1 (zT_Model k).2.1 (zT_Model k).2.2.1 ∈ zU) (hfin : (zT_Model k).2.2.2 = true) (hin2 : (zGM Γ).name = "<init>") (hdecl : (zT_Model k).1 = own) {v : Value} (hn : narrow (zY_Model k) v = v) (hfit : fits (zY_Model k) v = true) (hl : k < fs.length) (hd : decode cc pc = .ok (.putfield idx, 3)) (kk : zB D l A Γ Q (pc + 3) lv st (pre ++ (a, .inr (7, fs.set k v)) :: arrs) kc ks) : zB D l A Γ Q pc lv (v :: .ref a :: st) (pre ++ (a, .inr (7, fs)) :: arrs) kc ks :=
  zb_putF K 51 (by rw [← hp, List.getElem?_append_right (Nat.le_refl _), Nat.sub_self]; rfl) rfl zi_Model zY_Model zY_Model_ok zT_Model_nm k hk hw hfin hin2 hdecl hn hfit hl (by rw [← hp, List.set_append_right _ _ (Nat.le_refl _), Nat.sub_self]; rfl) hd kk
theorem zb_newP (K : zBk D cI cZ A Γ cc own nL d mc ms) {pre arrs : va_W} {x : Nat × va_E} {n : Int32} (N : Nat) (hn : n = nI N) (hN : N < 1000) (hc : kc + 1 ≤ mc) (hs : ks + N ≤ ms) (hd : decode cc pc = .ok (.newarray .int, 2)) (kk : ∀ q, zB D l A Γ Q (pc + 2) lv (.ref q :: st) (pre ++ x :: (arrs ++ [(q, .inl (cI, N, .inl (fun _ => 0)))])) (kc + 1) (ks + N)) : zB D l A Γ Q pc lv (.int n :: st) (pre ++ x :: arrs) kc ks :=
  zb_newi K N hn hN hc hs hd (fun q => zb_eq (by rw [List.append_assoc, List.cons_append]) (kk q))
theorem zb_newQ (K : zBk D cI cZ A Γ cc own nL d mc ms) {pre arrs : va_W} {x : Nat × va_E} {n : Int32} (N : Nat) (hn : n = nI N) (hN : N < 1000) (hc : kc + 1 ≤ mc) (hs : ks + N ≤ ms) (hd : decode cc pc = .ok (.newarray .boolean, 2)) (kk : ∀ q, zB D l A Γ Q (pc + 2) lv (.ref q :: st) (pre ++ x :: (arrs ++ [(q, .inl (cZ, N, .inl (fun _ => 0)))])) (kc + 1) (ks + N)) : zB D l A Γ Q pc lv (.int n :: st) (pre ++ x :: arrs) kc ks :=
  zb_newz K N hn hN hc hs hd (fun q => zb_eq (by rw [List.append_assoc, List.cons_append]) (kk q))
end ZN
theorem zw_split (X : zXT) (h : zHp) (g : zLg) : zw X h g = (List.range 51).map (fun c => (X.2.2.2.2 c, zC X g c (h c))) ++ (List.range 20).map (fun i => (X.2.2.2.2 (51 + i), zC X g (51 + i) (h (51 + i)))) := by
  unfold zw
  rw [show List.range 71 = List.range 51 ++ (List.range 20).map (fun i => 51 + i) from by decide +kernel, List.map_append, List.map_map]
  rfl
def zadr (a : Nat → Nat) (h0 : Nat) (q : Nat → Nat) : Nat → Nat := fun c => if c < 51 then a c else if c = 51 then h0 else q (c - 52)
theorem zC_keep (l : Launch) (D : va_G) (cI cZ : ClassId) (a : Nat → Nat) (h0 : Nat) (q : Nat → Nat) : ∀ c, c < 51 → zC (l, D, cI, cZ, zadr a h0 q) zg0 c (zH0 c) = zC (l, D, cI, cZ, a) zg0 c (zH0 c) := fun c hc => by
  match c, hc with
  | 0, _ => exact rfl
  | 1, _ => exact rfl
  | 2, _ => exact rfl
  | 3, _ => exact rfl
  | 4, _ => exact rfl
  | 5, _ => exact rfl
  | 6, _ => exact rfl
  | 7, _ => exact rfl
  | 8, _ => exact rfl
  | 9, _ => exact rfl
  | 10, _ => exact rfl
  | 11, _ => exact rfl
  | 12, _ => exact rfl
  | 13, _ => exact rfl
  | 14, _ => exact rfl
  | 15, _ => exact rfl
  | 16, _ => exact rfl
  | 17, _ => exact rfl
  | 18, _ => exact rfl
  | 19, _ => exact rfl
  | 20, _ => exact rfl
  | 21, _ => exact rfl
  | 22, _ => exact rfl
  | 23, _ => exact rfl
  | 24, _ => exact rfl
  | 25, _ => exact rfl
  | 26, _ => exact rfl
  | 27, _ => exact rfl
  | 28, _ => exact rfl
  | 29, _ => exact rfl
  | 30, _ => exact rfl
  | 31, _ => exact rfl
  | 32, _ => exact rfl
  | 33, _ => exact rfl
  | 34, _ => exact rfl
  | 35, _ => exact rfl
  | 36, _ => exact rfl
  | 37, _ => exact rfl
  | 38, _ => exact rfl
  | 39, _ => exact rfl
  | 40, _ => exact rfl
  | 41, _ => exact rfl
  | 42, _ => exact rfl
  | 43, _ => exact rfl
  | 44, _ => exact rfl
  | 45, _ => exact rfl
  | 46, _ => exact rfl
  | 47, _ => exact rfl
  | 48, _ => exact rfl
  | 49, _ => exact rfl
  | 50, _ => exact rfl
  | c + 51, hc => exact absurd hc (by omega)
theorem zw_pre (l : Launch) (D : va_G) (cI cZ : ClassId) (a : Nat → Nat) (h0 : Nat) (q : Nat → Nat) : (List.range 51).map (fun c => (zadr a h0 q c, zC (l, D, cI, cZ, zadr a h0 q) zg0 c (zH0 c))) = w_Slots_1 l D cI cZ a := by
  unfold w_Slots_1
  refine List.map_congr_left (fun c hc => ?_)
  have hc := List.mem_range.mp hc
  rw [zC_keep l D cI cZ a h0 q c hc, show zadr a h0 q c = a c from if_pos hc]
