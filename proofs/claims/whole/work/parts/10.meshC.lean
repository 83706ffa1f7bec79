/-! Walks of methods, by program (wip/whole/gen). -/
theorem d_X1_unsettledSet_0 : decode prog_3_method_35_code 0 = .ok (.iconst 0, 1) := by decide +kernel
theorem d_X1_unsettledSet_1 : decode prog_3_method_35_code 1 = .ok (.istore_n 1, 1) := by decide +kernel
theorem d_X1_unsettledSet_2 : decode prog_3_method_35_code 2 = .ok (.iconst 0, 1) := by decide +kernel
theorem d_X1_unsettledSet_3 : decode prog_3_method_35_code 3 = .ok (.istore_n 2, 1) := by decide +kernel
theorem d_X1_unsettledSet_4 : decode prog_3_method_35_code 4 = .ok (.iload_n 2, 1) := by decide +kernel
theorem d_X1_unsettledSet_5 : decode prog_3_method_35_code 5 = .ok (.aload_n 0, 1) := by decide +kernel
theorem d_X1_unsettledSet_6 : decode prog_3_method_35_code 6 = .ok (.getfield 45, 3) := by decide +kernel
theorem d_X1_unsettledSet_9 : decode prog_3_method_35_code 9 = .ok (.if_icmp .ge 46, 3) := by decide +kernel
theorem d_X1_unsettledSet_12 : decode prog_3_method_35_code 12 = .ok (.aload_n 0, 1) := by decide +kernel
theorem d_X1_unsettledSet_13 : decode prog_3_method_35_code 13 = .ok (.getfield 18, 3) := by decide +kernel
theorem d_X1_unsettledSet_16 : decode prog_3_method_35_code 16 = .ok (.iload_n 2, 1) := by decide +kernel
theorem d_X1_unsettledSet_17 : decode prog_3_method_35_code 17 = .ok (.iaload, 1) := by decide +kernel
theorem d_X1_unsettledSet_18 : decode prog_3_method_35_code 18 = .ok (.bipush (-9), 2) := by decide +kernel
theorem d_X1_unsettledSet_20 : decode prog_3_method_35_code 20 = .ok (.if_icmp .eq 23, 3) := by decide +kernel
theorem d_X1_unsettledSet_23 : decode prog_3_method_35_code 23 = .ok (.aload_n 0, 1) := by decide +kernel
theorem d_X1_unsettledSet_24 : decode prog_3_method_35_code 24 = .ok (.getfield 36, 3) := by decide +kernel
theorem d_X1_unsettledSet_27 : decode prog_3_method_35_code 27 = .ok (.iload_n 2, 1) := by decide +kernel
theorem d_X1_unsettledSet_28 : decode prog_3_method_35_code 28 = .ok (.iaload, 1) := by decide +kernel
theorem d_X1_unsettledSet_29 : decode prog_3_method_35_code 29 = .ok (.aload_n 0, 1) := by decide +kernel
theorem d_X1_unsettledSet_30 : decode prog_3_method_35_code 30 = .ok (.aload_n 0, 1) := by decide +kernel
theorem d_X1_unsettledSet_31 : decode prog_3_method_35_code 31 = .ok (.getfield 33, 3) := by decide +kernel
theorem d_X1_unsettledSet_34 : decode prog_3_method_35_code 34 = .ok (.iload_n 2, 1) := by decide +kernel
theorem d_X1_unsettledSet_35 : decode prog_3_method_35_code 35 = .ok (.iaload, 1) := by decide +kernel
theorem d_X1_unsettledSet_36 : decode prog_3_method_35_code 36 = .ok (.invokevirtual 122, 3) := by decide +kernel
theorem d_X1_unsettledSet_39 : decode prog_3_method_35_code 39 = .ok (.iand, 1) := by decide +kernel
theorem d_X1_unsettledSet_40 : decode prog_3_method_35_code 40 = .ok (.ifCond .eq 9, 3) := by decide +kernel
theorem d_X1_unsettledSet_43 : decode prog_3_method_35_code 43 = .ok (.iload_n 1, 1) := by decide +kernel
theorem d_X1_unsettledSet_44 : decode prog_3_method_35_code 44 = .ok (.iconst 1, 1) := by decide +kernel
theorem d_X1_unsettledSet_45 : decode prog_3_method_35_code 45 = .ok (.iload_n 2, 1) := by decide +kernel
theorem d_X1_unsettledSet_46 : decode prog_3_method_35_code 46 = .ok (.ishl, 1) := by decide +kernel
theorem d_X1_unsettledSet_47 : decode prog_3_method_35_code 47 = .ok (.ior, 1) := by decide +kernel
theorem d_X1_unsettledSet_48 : decode prog_3_method_35_code 48 = .ok (.istore_n 1, 1) := by decide +kernel
theorem d_X1_unsettledSet_49 : decode prog_3_method_35_code 49 = .ok (.iinc 2 1, 3) := by decide +kernel
theorem d_X1_unsettledSet_52 : decode prog_3_method_35_code 52 = .ok (.goto (-48), 3) := by decide +kernel
theorem d_X1_unsettledSet_55 : decode prog_3_method_35_code 55 = .ok (.iload_n 1, 1) := by decide +kernel
theorem d_X1_unsettledSet_56 : decode prog_3_method_35_code 56 = .ok (.ireturn, 1) := by decide +kernel
abbrev M_Mesh_unsettledSet : zMT := (⟨"PeriodSlots$Mesh", "unsettledSet", "()I"⟩, prog_3_method_35_code, 3, (some .int))
theorem k_Mesh_unsettledSet : zcall M_Mesh_unsettledSet 0 := ⟨zU_in (i := 405) (by decide +kernel) rfl, m56, ⟨by decide, by decide, by decide +kernel⟩, by decide⟩
def o_Mesh_unsettledSet (h : zHp) (b : Nat) : Int32 :=
  (zrep (fun (i4_1 : Nat) (s4_1 : Int32) => (if (h (b + 3) i4_1) = (-9) then (s4_1 ||| (zshl 1 (nI i4_1))) else (if ((h (b + 9) i4_1) &&& (o_Mesh_occupiedByAny h b (h (b + 8) i4_1))) = 0 then s4_1 else (s4_1 ||| (zshl 1 (nI i4_1)))))) 0 (zcn (h b 0)))
theorem rd_Mesh_unsettledSet {h h2 : zHp} {b : Nat} (e0 : h2 (b + 10) = h (b + 10)) (e1 : h2 (b + 3) = h (b + 3)) (e2 : h2 (b + 8) = h (b + 8)) (e3 : h2 (b + 9) = h (b + 9)) (e4 : h2 b 0 = h b 0) : o_Mesh_unsettledSet h2 b = o_Mesh_unsettledSet h b := by
  unfold o_Mesh_unsettledSet
  simp only [e0, e1, e2, e3, e4, rd_Mesh_occupiedByAny e0 e4]

set_option maxHeartbeats 400000 in
set_option maxRecDepth 20000 in
theorem c_Mesh_unsettledSet (X : zXT) (h : zHp) (g : zLg) (b : Nat) (hb : b = 3 ∨ b = 15 ∨ b = 27) (hf0 : zfit h b 0 8) : zDi X M_Mesh_unsettledSet 2 [zR X b] h g (zI (o_Mesh_unsettledSet h b)) h g := by
  have hf0_1 := hf0.1
  refine zDi_of "PeriodSlots$Mesh" prog_3_method_35_code 3 (some .int) rfl (by decide) [zO X b, none, none] rfl (fun _ q => q) (Nat.le_of_ble_eq_true rfl) ?_
  intro Γ Q C hQ
  refine zr_iconst C (v := 0) d_X1_unsettledSet_0 (by decide) ?_
  refine zr_istore_n C [zO X b, zI 0, none] d_X1_unsettledSet_1 (Nat.le_of_ble_eq_true rfl) rfl rfl ?_
  refine zr_iconst C (v := 0) d_X1_unsettledSet_2 (by decide) ?_
  refine zr_istore_n C [zO X b, zI 0, zI 0] d_X1_unsettledSet_3 (Nat.le_of_ble_eq_true rfl) rfl rfl ?_
  refine zfor (f := (fun (i4_1 : Nat) (s4_1 : Int32) => (if (h (b + 3) i4_1) = (-9) then (s4_1 ||| (zshl 1 (nI i4_1))) else (if ((h (b + 9) i4_1) &&& (o_Mesh_occupiedByAny h b (h (b + 8) i4_1))) = 0 then s4_1 else (s4_1 ||| (zshl 1 (nI i4_1))))))) (a := 0) (fun i4_1 s4_1 => zV X Γ Q 4 [zO X b, zI s4_1, zI (nI i4_1)] [] h g) (fun _ _ => True) (zcn (h b 0)) trivial (fun i4_1 s4_1 hi4_1 hI4_1 => ⟨trivial, fun hk4_1 => ?_⟩) (fun r4_1 er4_1 hI4_1 => ?_)
  · refine zr_iload_n C d_X1_unsettledSet_4 rfl ?_
    refine zr_aload_n C d_X1_unsettledSet_5 rfl ?_
    refine gf_Mesh_0 C hb m95 d_X1_unsettledSet_6 ?_
    refine zr_icmp_ge C 55 d_X1_unsettledSet_9 (by decide) (fun c => absurd c (zge_no rfl (by omega))) (fun _ => ?_)
    refine zr_aload_n C d_X1_unsettledSet_12 rfl ?_
    refine gf_Mesh_5 C hb m111 d_X1_unsettledSet_13 ?_
    refine zr_iload_n C d_X1_unsettledSet_16 rfl ?_
    refine zr_iald C (za_mesh_3 hb) (i4_1) rfl (by omega) (by decide) d_X1_unsettledSet_17 ?_
    refine zr_bipush C (v := (-9)) d_X1_unsettledSet_18 (by decide) ?_
    suffices hJ20 : ∀ (y2 : Int32), (if (h (b + 3) i4_1) = (-9) then (s4_1 ||| (zshl 1 (nI i4_1))) else (if ((h (b + 9) i4_1) &&& (o_Mesh_occupiedByAny h b (h (b + 8) i4_1))) = 0 then s4_1 else (s4_1 ||| (zshl 1 (nI i4_1))))) = y2 → zV X Γ Q 49 [zO X b, zI y2, zI (nI i4_1)] [] h g by
      refine zr_icmp_eq C 43 d_X1_unsettledSet_20 (by decide) (fun c20 => ?_) (fun c20 => ?_)
      · refine zr_iload_n C d_X1_unsettledSet_43 rfl ?_
        refine zr_iconst C (v := 1) d_X1_unsettledSet_44 (by decide) ?_
        refine zr_iload_n C d_X1_unsettledSet_45 rfl ?_
        refine zr_ishl C d_X1_unsettledSet_46 ?_
        refine zr_ior C d_X1_unsettledSet_47 ?_
        refine zr_istore_n C [zO X b, zI (s4_1 ||| (zshl 1 (nI i4_1))), zI (nI i4_1)] d_X1_unsettledSet_48 (Nat.le_of_ble_eq_true rfl) rfl rfl ?_
        exact hJ20 (s4_1 ||| (zshl 1 (nI i4_1))) (((if_pos c20)))
      · refine zr_aload_n C d_X1_unsettledSet_23 rfl ?_
        refine gf_Mesh_11 C hb m124 d_X1_unsettledSet_24 ?_
        refine zr_iload_n C d_X1_unsettledSet_27 rfl ?_
        refine zr_iald C (za_mesh_9 hb) (i4_1) rfl (by omega) (by decide) d_X1_unsettledSet_28 ?_
        refine zr_aload_n C d_X1_unsettledSet_29 rfl ?_
        refine zr_aload_n C d_X1_unsettledSet_30 rfl ?_
        refine gf_Mesh_10 C hb m123 d_X1_unsettledSet_31 ?_
        refine zr_iload_n C d_X1_unsettledSet_34 rfl ?_
        refine zr_iald C (za_mesh_8 hb) (i4_1) rfl (by omega) (by decide) d_X1_unsettledSet_35 ?_
        refine zr_callVi (As := [.int (h (b + 8) i4_1)]) (st := [.int (h (b + 9) i4_1)]) (c := b) C (c_Mesh_occupiedByAny X h g b (h (b + 8) i4_1) hb hf0) k_Mesh_occupiedByAny m406 m408 m7 (by omega) (zC_Mesh hb X _ _) rfl rfl (by decide) rfl (Nat.le_of_ble_eq_true rfl) d_X1_unsettledSet_36 ?_
        refine zr_iand C d_X1_unsettledSet_39 ?_
        refine zr_if_eq C 49 d_X1_unsettledSet_40 (by decide) (fun c40 => ?_) (fun c40 => ?_)
        · exact hJ20 s4_1 (((if_neg c20).trans ((if_pos c40))))
        · refine zr_iload_n C d_X1_unsettledSet_43 rfl ?_
          refine zr_iconst C (v := 1) d_X1_unsettledSet_44 (by decide) ?_
          refine zr_iload_n C d_X1_unsettledSet_45 rfl ?_
          refine zr_ishl C d_X1_unsettledSet_46 ?_
          refine zr_ior C d_X1_unsettledSet_47 ?_
          refine zr_istore_n C [zO X b, zI (s4_1 ||| (zshl 1 (nI i4_1))), zI (nI i4_1)] d_X1_unsettledSet_48 (Nat.le_of_ble_eq_true rfl) rfl rfl ?_
          exact hJ20 (s4_1 ||| (zshl 1 (nI i4_1))) (((if_neg c20).trans ((if_neg c40))))
    intro y2 ey2
    refine zr_iinc C [zO X b, zI y2, zI (nI (i4_1 + 1))] (v := (nI (i4_1 + 1))) d_X1_unsettledSet_49 rfl (zn_add rfl rfl) (Nat.le_of_ble_eq_true rfl) rfl rfl ?_
    refine zr_goto C 4 d_X1_unsettledSet_52 (by decide) ?_
    exact hk4_1 y2 (by subst ey2; exact rfl)
  refine zr_iload_n C d_X1_unsettledSet_4 rfl ?_
  refine zr_aload_n C d_X1_unsettledSet_5 rfl ?_
  refine gf_Mesh_0 C hb m95 d_X1_unsettledSet_6 ?_
  refine zr_icmp_ge C 55 d_X1_unsettledSet_9 (by decide) (fun _ => ?_) (fun c => absurd (zge_yes rfl (by omega) (by have := zcn_small (h b 0); omega)) c)
  refine zr_iload_n C d_X1_unsettledSet_55 rfl ?_
  have eR : o_Mesh_unsettledSet h b = r4_1 := (by subst er4_1; unfold o_Mesh_unsettledSet; exact rfl)
  subst hQ
  rw [eR]
  exact zr_ireti C d_X1_unsettledSet_56
theorem d_X1_isQuiet_0 : decode prog_3_method_36_code 0 = .ok (.aload_n 0, 1) := by decide +kernel
theorem d_X1_isQuiet_1 : decode prog_3_method_36_code 1 = .ok (.invokevirtual 137, 3) := by decide +kernel
theorem d_X1_isQuiet_4 : decode prog_3_method_36_code 4 = .ok (.istore_n 1, 1) := by decide +kernel
theorem d_X1_isQuiet_5 : decode prog_3_method_36_code 5 = .ok (.iconst 0, 1) := by decide +kernel
theorem d_X1_isQuiet_6 : decode prog_3_method_36_code 6 = .ok (.istore_n 2, 1) := by decide +kernel
theorem d_X1_isQuiet_7 : decode prog_3_method_36_code 7 = .ok (.iload_n 2, 1) := by decide +kernel
theorem d_X1_isQuiet_8 : decode prog_3_method_36_code 8 = .ok (.aload_n 0, 1) := by decide +kernel
theorem d_X1_isQuiet_9 : decode prog_3_method_36_code 9 = .ok (.getfield 45, 3) := by decide +kernel
theorem d_X1_isQuiet_12 : decode prog_3_method_36_code 12 = .ok (.if_icmp .ge 59, 3) := by decide +kernel
theorem d_X1_isQuiet_15 : decode prog_3_method_36_code 15 = .ok (.aload_n 0, 1) := by decide +kernel
theorem d_X1_isQuiet_16 : decode prog_3_method_36_code 16 = .ok (.getfield 18, 3) := by decide +kernel
theorem d_X1_isQuiet_19 : decode prog_3_method_36_code 19 = .ok (.iload_n 2, 1) := by decide +kernel
theorem d_X1_isQuiet_20 : decode prog_3_method_36_code 20 = .ok (.iaload, 1) := by decide +kernel
theorem d_X1_isQuiet_21 : decode prog_3_method_36_code 21 = .ok (.bipush (-9), 2) := by decide +kernel
theorem d_X1_isQuiet_23 : decode prog_3_method_36_code 23 = .ok (.if_icmp .ne 15, 3) := by decide +kernel
theorem d_X1_isQuiet_26 : decode prog_3_method_36_code 26 = .ok (.aload_n 0, 1) := by decide +kernel
theorem d_X1_isQuiet_27 : decode prog_3_method_36_code 27 = .ok (.iload_n 2, 1) := by decide +kernel
theorem d_X1_isQuiet_28 : decode prog_3_method_36_code 28 = .ok (.invokevirtual 140, 3) := by decide +kernel
theorem d_X1_isQuiet_31 : decode prog_3_method_36_code 31 = .ok (.ifCond .ne 7, 3) := by decide +kernel
theorem d_X1_isQuiet_34 : decode prog_3_method_36_code 34 = .ok (.iconst 1, 1) := by decide +kernel
theorem d_X1_isQuiet_35 : decode prog_3_method_36_code 35 = .ok (.goto 4, 3) := by decide +kernel
theorem d_X1_isQuiet_38 : decode prog_3_method_36_code 38 = .ok (.iconst 0, 1) := by decide +kernel
theorem d_X1_isQuiet_39 : decode prog_3_method_36_code 39 = .ok (.istore_n 3, 1) := by decide +kernel
theorem d_X1_isQuiet_40 : decode prog_3_method_36_code 40 = .ok (.aload_n 0, 1) := by decide +kernel
theorem d_X1_isQuiet_41 : decode prog_3_method_36_code 41 = .ok (.getfield 21, 3) := by decide +kernel
theorem d_X1_isQuiet_44 : decode prog_3_method_36_code 44 = .ok (.iload_n 2, 1) := by decide +kernel
theorem d_X1_isQuiet_45 : decode prog_3_method_36_code 45 = .ok (.iaload, 1) := by decide +kernel
theorem d_X1_isQuiet_46 : decode prog_3_method_36_code 46 = .ok (.bipush (-9), 2) := by decide +kernel
theorem d_X1_isQuiet_48 : decode prog_3_method_36_code 48 = .ok (.if_icmp .ne 15, 3) := by decide +kernel
theorem d_X1_isQuiet_51 : decode prog_3_method_36_code 51 = .ok (.iload_n 1, 1) := by decide +kernel
theorem d_X1_isQuiet_52 : decode prog_3_method_36_code 52 = .ok (.iload_n 2, 1) := by decide +kernel
theorem d_X1_isQuiet_53 : decode prog_3_method_36_code 53 = .ok (.invokestatic 89, 3) := by decide +kernel
theorem d_X1_isQuiet_56 : decode prog_3_method_36_code 56 = .ok (.ifCond .eq 9, 3) := by decide +kernel
theorem d_X1_isQuiet_59 : decode prog_3_method_36_code 59 = .ok (.iload_n 3, 1) := by decide +kernel
theorem d_X1_isQuiet_60 : decode prog_3_method_36_code 60 = .ok (.ifCond .ne 5, 3) := by decide +kernel
theorem d_X1_isQuiet_63 : decode prog_3_method_36_code 63 = .ok (.iconst 0, 1) := by decide +kernel
theorem d_X1_isQuiet_64 : decode prog_3_method_36_code 64 = .ok (.ireturn, 1) := by decide +kernel
theorem d_X1_isQuiet_65 : decode prog_3_method_36_code 65 = .ok (.iinc 2 1, 3) := by decide +kernel
theorem d_X1_isQuiet_68 : decode prog_3_method_36_code 68 = .ok (.goto (-61), 3) := by decide +kernel
theorem d_X1_isQuiet_71 : decode prog_3_method_36_code 71 = .ok (.iconst 1, 1) := by decide +kernel
theorem d_X1_isQuiet_72 : decode prog_3_method_36_code 72 = .ok (.ireturn, 1) := by decide +kernel
abbrev M_Mesh_isQuiet : zMT := (⟨"PeriodSlots$Mesh", "isQuiet", "()Z"⟩, prog_3_method_36_code, 4, (some .boolean))
theorem k_Mesh_isQuiet : zcall M_Mesh_isQuiet 0 := ⟨zU_in (i := 417) (by decide +kernel) rfl, m56, ⟨by decide, by decide, by decide +kernel⟩, by decide⟩
def o_Mesh_isQuiet (h : zHp) (b : Nat) : Bool :=
  (Sum.elim (fun r7_1 => true) (fun q7_1 => q7_1) (zrex (fun (i7_1 : Nat) (s7_1 : Unit) => ((if (h (b + 4) i7_1) = (-9) then (if (o_Slots_has (o_Mesh_unsettledSet h b) (nI i7_1)) = true then (if ((decide ((h (b + 3) i7_1) = (-9))) && (decide ((o_Mesh_freeOffsets h b i7_1) = 0))) = true then .inl () else .inr false) else .inl ()) else .inr false) : (Unit) ⊕ (Bool))) () (zcn (h b 0))))
theorem rd_Mesh_isQuiet {h h2 : zHp} {b : Nat} (e0 : h2 (b + 1) = h (b + 1)) (e1 : h2 (b + 10) = h (b + 10)) (e2 : h2 (b + 3) = h (b + 3)) (e3 : h2 (b + 4) = h (b + 4)) (e4 : h2 (b + 5) = h (b + 5)) (e5 : h2 (b + 6) = h (b + 6)) (e6 : h2 (b + 8) = h (b + 8)) (e7 : h2 (b + 9) = h (b + 9)) (e8 : h2 b 0 = h b 0) : o_Mesh_isQuiet h2 b = o_Mesh_isQuiet h b := by
  unfold o_Mesh_isQuiet
  simp only [e0, e1, e2, e3, e4, e5, e6, e7, e8, rd_Mesh_unsettledSet e1 e2 e6 e7 e8, rd_Mesh_freeOffsets e0 e1 e4 e5 e8]

set_option maxHeartbeats 400000 in
set_option maxRecDepth 20000 in
theorem c_Mesh_isQuiet (X : zXT) (h : zHp) (g : zLg) (b : Nat) (hb : b = 3 ∨ b = 15 ∨ b = 27) (hf0 : zfit h b 0 8) : zDi X M_Mesh_isQuiet 3 [zR X b] h g (zI (zb (o_Mesh_isQuiet h b))) h g := by
  have hf0_1 := hf0.1
  refine zDi_of "PeriodSlots$Mesh" prog_3_method_36_code 4 (some .boolean) rfl (by decide) [zO X b, none, none, none] rfl (fun _ q => q) (Nat.le_of_ble_eq_true rfl) ?_
  intro Γ Q C hQ
  refine zr_aload_n C d_X1_isQuiet_0 rfl ?_
  refine zr_callVi (As := []) (st := []) (c := b) C (c_Mesh_unsettledSet X h g b hb hf0) k_Mesh_unsettledSet m418 m403 m404 (by omega) (zC_Mesh hb X _ _) rfl rfl (by decide) rfl (Nat.le_of_ble_eq_true rfl) d_X1_isQuiet_1 ?_
  refine zr_istore_n C [zO X b, zI (o_Mesh_unsettledSet h b), none, none] d_X1_isQuiet_4 (Nat.le_of_ble_eq_true rfl) rfl rfl ?_
  refine zr_iconst C (v := 0) d_X1_isQuiet_5 (by decide) ?_
  refine zr_istore_n C [zO X b, zI (o_Mesh_unsettledSet h b), zI 0, none] d_X1_isQuiet_6 (Nat.le_of_ble_eq_true rfl) rfl rfl ?_
  refine zforx (f := (fun (i7_1 : Nat) (s7_1 : Unit) => ((if (h (b + 4) i7_1) = (-9) then (if (o_Slots_has (o_Mesh_unsettledSet h b) (nI i7_1)) = true then (if ((decide ((h (b + 3) i7_1) = (-9))) && (decide ((o_Mesh_freeOffsets h b i7_1) = 0))) = true then .inl () else .inr false) else .inl ()) else .inr false) : (Unit) ⊕ (Bool)))) (a := ()) (fun i7_1 s7_1 => zV X Γ Q 7 [zO X b, zI (o_Mesh_unsettledSet h b), zI (nI i7_1), none] [] h g) (fun _ _ => True) (zcn (h b 0)) trivial (fun i7_1 s7_1 hi7_1 hI7_1 => ⟨(fun _ _ => trivial), fun hk7_1 hx7_1 => ?_⟩) (fun r7_1 er7_1 hI7_1 => ?_)
  · refine zr_iload_n C d_X1_isQuiet_7 rfl ?_
    refine zr_aload_n C d_X1_isQuiet_8 rfl ?_
    refine gf_Mesh_0 C hb m95 d_X1_isQuiet_9 ?_
    refine zr_icmp_ge C 71 d_X1_isQuiet_12 (by decide) (fun c => absurd c (zge_no rfl (by omega))) (fun _ => ?_)
    refine zr_aload_n C d_X1_isQuiet_15 rfl ?_
    refine gf_Mesh_5 C hb m111 d_X1_isQuiet_16 ?_
    refine zr_iload_n C d_X1_isQuiet_19 rfl ?_
    refine zr_iald C (za_mesh_3 hb) (i7_1) rfl (by omega) (by decide) d_X1_isQuiet_20 ?_
    refine zr_bipush C (v := (-9)) d_X1_isQuiet_21 (by decide) ?_
    suffices hJ23 : ∀ (y2 : Bool), ((decide ((h (b + 3) i7_1) = (-9))) && (decide ((o_Mesh_freeOffsets h b i7_1) = 0))) = y2 → zV X Γ Q 39 [zO X b, zI (o_Mesh_unsettledSet h b), zI (nI i7_1), none] [.int (zb y2)] h g by
      refine zr_icmp_ne C 38 d_X1_isQuiet_23 (by decide) (fun c23 => ?_) (fun c23 => ?_)
      · refine zr_iconst C (v := 0) d_X1_isQuiet_38 (by decide) ?_
        exact hJ23 false (by simp [c23])
      · refine zr_aload_n C d_X1_isQuiet_26 rfl ?_
        refine zr_iload_n C d_X1_isQuiet_27 rfl ?_
        refine zr_callVi (As := [.int (nI i7_1)]) (st := []) (c := b) C (c_Mesh_freeOffsets X h g b i7_1 rfl hb hf0 (by omega)) k_Mesh_freeOffsets m419 m420 m421 (by omega) (zC_Mesh hb X _ _) rfl rfl (by decide) rfl (Nat.le_of_ble_eq_true rfl) d_X1_isQuiet_28 ?_
        refine zr_if_ne C 38 d_X1_isQuiet_31 (by decide) (fun c31 => ?_) (fun c31 => ?_)
        · refine zr_iconst C (v := 0) d_X1_isQuiet_38 (by decide) ?_
          exact hJ23 false (by simp [c23, c31])
        · refine zr_iconst C (v := 1) d_X1_isQuiet_34 (by decide) ?_
          refine zr_goto C 39 d_X1_isQuiet_35 (by decide) ?_
          exact hJ23 true (by simp [c23, c31])
    intro y2 ey2
    refine zr_istore_n C [zO X b, zI (o_Mesh_unsettledSet h b), zI (nI i7_1), zI (zb y2)] d_X1_isQuiet_39 (Nat.le_of_ble_eq_true rfl) rfl rfl ?_
    refine zr_aload_n C d_X1_isQuiet_40 rfl ?_
    refine gf_Mesh_6 C hb m114 d_X1_isQuiet_41 ?_
    refine zr_iload_n C d_X1_isQuiet_44 rfl ?_
    refine zr_iald C (za_mesh_4 hb) (i7_1) rfl (by omega) (by decide) d_X1_isQuiet_45 ?_
    refine zr_bipush C (v := (-9)) d_X1_isQuiet_46 (by decide) ?_
    refine zr_icmp_ne C 63 d_X1_isQuiet_48 (by decide) (fun c48 => ?_) (fun c48 => ?_)
    · refine zr_iconst C (v := 0) d_X1_isQuiet_63 (by decide) ?_
      have hr7_1 := hx7_1 (false) (by subst ey2; exact ((if_neg c48)))
      have eR : o_Mesh_isQuiet h b = false := (by subst ey2; unfold o_Mesh_isQuiet; exact ((congrArg (Sum.elim _ _) hr7_1)))
      subst hQ
      rw [eR]
      exact zr_iretz C (Or.inl rfl) d_X1_isQuiet_64
    · refine zr_iload_n C d_X1_isQuiet_51 rfl ?_
      refine zr_iload_n C d_X1_isQuiet_52 rfl ?_
      refine zr_callNi (As := [.int (o_Mesh_unsettledSet h b), .int (nI i7_1)]) (st := []) C (c_Slots_has X h g (o_Mesh_unsettledSet h b) (nI i7_1)) k_Slots_has (by simp [zNest]) m322 rfl (by decide) rfl (Nat.le_of_ble_eq_true rfl) d_X1_isQuiet_53 ?_
      refine zr_ifz_eq C 65 d_X1_isQuiet_56 (by decide) (fun c56 => ?_) (fun c56 => ?_)
      · refine zr_iinc C [zO X b, zI (o_Mesh_unsettledSet h b), zI (nI (i7_1 + 1)), zI (zb y2)] (v := (nI (i7_1 + 1))) d_X1_isQuiet_65 rfl (zn_add rfl rfl) (Nat.le_of_ble_eq_true rfl) rfl rfl ?_
        refine zr_goto C 7 d_X1_isQuiet_68 (by decide) ?_
        refine zr_lv [zO X b, zI (o_Mesh_unsettledSet h b), zI (nI (i7_1 + 1)), none] (by simp [zle]) ?_
        exact hk7_1 () (by subst ey2; exact ((if_pos c48).trans ((if_neg (zbf c56)))))
      · refine zr_iload_n C d_X1_isQuiet_59 rfl ?_
        refine zr_ifz_ne C 65 d_X1_isQuiet_60 (by decide) (fun c60 => ?_) (fun c60 => ?_)
        · refine zr_iinc C [zO X b, zI (o_Mesh_unsettledSet h b), zI (nI (i7_1 + 1)), zI (zb y2)] (v := (nI (i7_1 + 1))) d_X1_isQuiet_65 rfl (zn_add rfl rfl) (Nat.le_of_ble_eq_true rfl) rfl rfl ?_
          refine zr_goto C 7 d_X1_isQuiet_68 (by decide) ?_
          refine zr_lv [zO X b, zI (o_Mesh_unsettledSet h b), zI (nI (i7_1 + 1)), none] (by simp [zle]) ?_
          exact hk7_1 () (by subst ey2; exact ((if_pos c48).trans ((if_pos c56).trans ((if_pos c60)))))
        · refine zr_iconst C (v := 0) d_X1_isQuiet_63 (by decide) ?_
          have hr7_1 := hx7_1 (false) (by subst ey2; exact ((if_pos c48).trans ((if_pos c56).trans ((if_neg (zbf c60))))))
          have eR : o_Mesh_isQuiet h b = false := (by subst ey2; unfold o_Mesh_isQuiet; exact ((congrArg (Sum.elim _ _) hr7_1)))
          subst hQ
          rw [eR]
          exact zr_iretz C (Or.inl rfl) d_X1_isQuiet_64
  refine zr_iload_n C d_X1_isQuiet_7 rfl ?_
  refine zr_aload_n C d_X1_isQuiet_8 rfl ?_
  refine gf_Mesh_0 C hb m95 d_X1_isQuiet_9 ?_
  refine zr_icmp_ge C 71 d_X1_isQuiet_12 (by decide) (fun _ => ?_) (fun c => absurd (zge_yes rfl (by omega) (by have := zcn_small (h b 0); omega)) c)
  refine zr_iconst C (v := 1) d_X1_isQuiet_71 (by decide) ?_
  have eR : o_Mesh_isQuiet h b = true := (by unfold o_Mesh_isQuiet; exact ((congrArg (Sum.elim _ _) er7_1)))
  subst hQ
  rw [eR]
  exact zr_iretz C (Or.inr rfl) d_X1_isQuiet_72
theorem d_X1_moveToNext_0 : decode prog_3_method_38_code 0 = .ok (.iconst 0, 1) := by decide +kernel
theorem d_X1_moveToNext_1 : decode prog_3_method_38_code 1 = .ok (.istore_n 2, 1) := by decide +kernel
theorem d_X1_moveToNext_2 : decode prog_3_method_38_code 2 = .ok (.iconst 0, 1) := by decide +kernel
theorem d_X1_moveToNext_3 : decode prog_3_method_38_code 3 = .ok (.istore_n 3, 1) := by decide +kernel
theorem d_X1_moveToNext_4 : decode prog_3_method_38_code 4 = .ok (.iload_n 3, 1) := by decide +kernel
theorem d_X1_moveToNext_5 : decode prog_3_method_38_code 5 = .ok (.aload_n 0, 1) := by decide +kernel
theorem d_X1_moveToNext_6 : decode prog_3_method_38_code 6 = .ok (.getfield 45, 3) := by decide +kernel
theorem d_X1_moveToNext_9 : decode prog_3_method_38_code 9 = .ok (.if_icmp .ge 86, 3) := by decide +kernel
theorem d_X1_moveToNext_12 : decode prog_3_method_38_code 12 = .ok (.aload_n 0, 1) := by decide +kernel
theorem d_X1_moveToNext_13 : decode prog_3_method_38_code 13 = .ok (.getfield 21, 3) := by decide +kernel
theorem d_X1_moveToNext_16 : decode prog_3_method_38_code 16 = .ok (.iload_n 3, 1) := by decide +kernel
theorem d_X1_moveToNext_17 : decode prog_3_method_38_code 17 = .ok (.bipush (-9), 2) := by decide +kernel
theorem d_X1_moveToNext_19 : decode prog_3_method_38_code 19 = .ok (.iastore, 1) := by decide +kernel
theorem d_X1_moveToNext_20 : decode prog_3_method_38_code 20 = .ok (.iload_n 1, 1) := by decide +kernel
theorem d_X1_moveToNext_21 : decode prog_3_method_38_code 21 = .ok (.iload_n 3, 1) := by decide +kernel
theorem d_X1_moveToNext_22 : decode prog_3_method_38_code 22 = .ok (.invokestatic 89, 3) := by decide +kernel
theorem d_X1_moveToNext_25 : decode prog_3_method_38_code 25 = .ok (.ifCond .eq 64, 3) := by decide +kernel
theorem d_X1_moveToNext_28 : decode prog_3_method_38_code 28 = .ok (.aload_n 0, 1) := by decide +kernel
theorem d_X1_moveToNext_29 : decode prog_3_method_38_code 29 = .ok (.getfield 42, 3) := by decide +kernel
theorem d_X1_moveToNext_32 : decode prog_3_method_38_code 32 = .ok (.iload_n 3, 1) := by decide +kernel
theorem d_X1_moveToNext_33 : decode prog_3_method_38_code 33 = .ok (.iaload, 1) := by decide +kernel
theorem d_X1_moveToNext_34 : decode prog_3_method_38_code 34 = .ok (.aload_n 0, 1) := by decide +kernel
theorem d_X1_moveToNext_35 : decode prog_3_method_38_code 35 = .ok (.getfield 18, 3) := by decide +kernel
theorem d_X1_moveToNext_38 : decode prog_3_method_38_code 38 = .ok (.iload_n 3, 1) := by decide +kernel
theorem d_X1_moveToNext_39 : decode prog_3_method_38_code 39 = .ok (.iaload, 1) := by decide +kernel
theorem d_X1_moveToNext_40 : decode prog_3_method_38_code 40 = .ok (.if_icmp .eq 49, 3) := by decide +kernel
theorem d_X1_moveToNext_43 : decode prog_3_method_38_code 43 = .ok (.aload_n 0, 1) := by decide +kernel
theorem d_X1_moveToNext_44 : decode prog_3_method_38_code 44 = .ok (.getfield 21, 3) := by decide +kernel
theorem d_X1_moveToNext_47 : decode prog_3_method_38_code 47 = .ok (.iload_n 3, 1) := by decide +kernel
theorem d_X1_moveToNext_48 : decode prog_3_method_38_code 48 = .ok (.aload_n 0, 1) := by decide +kernel
theorem d_X1_moveToNext_49 : decode prog_3_method_38_code 49 = .ok (.getfield 42, 3) := by decide +kernel
theorem d_X1_moveToNext_52 : decode prog_3_method_38_code 52 = .ok (.iload_n 3, 1) := by decide +kernel
theorem d_X1_moveToNext_53 : decode prog_3_method_38_code 53 = .ok (.iaload, 1) := by decide +kernel
theorem d_X1_moveToNext_54 : decode prog_3_method_38_code 54 = .ok (.bipush (-9), 2) := by decide +kernel
theorem d_X1_moveToNext_56 : decode prog_3_method_38_code 56 = .ok (.if_icmp .ne 8, 3) := by decide +kernel
theorem d_X1_moveToNext_59 : decode prog_3_method_38_code 59 = .ok (.bipush (-9), 2) := by decide +kernel
theorem d_X1_moveToNext_61 : decode prog_3_method_38_code 61 = .ok (.goto 9, 3) := by decide +kernel
theorem d_X1_moveToNext_64 : decode prog_3_method_38_code 64 = .ok (.aload_n 0, 1) := by decide +kernel
theorem d_X1_moveToNext_65 : decode prog_3_method_38_code 65 = .ok (.getfield 18, 3) := by decide +kernel
theorem d_X1_moveToNext_68 : decode prog_3_method_38_code 68 = .ok (.iload_n 3, 1) := by decide +kernel
theorem d_X1_moveToNext_69 : decode prog_3_method_38_code 69 = .ok (.iaload, 1) := by decide +kernel
theorem d_X1_moveToNext_70 : decode prog_3_method_38_code 70 = .ok (.iastore, 1) := by decide +kernel
theorem d_X1_moveToNext_71 : decode prog_3_method_38_code 71 = .ok (.aload_n 0, 1) := by decide +kernel
theorem d_X1_moveToNext_72 : decode prog_3_method_38_code 72 = .ok (.getfield 18, 3) := by decide +kernel
theorem d_X1_moveToNext_75 : decode prog_3_method_38_code 75 = .ok (.iload_n 3, 1) := by decide +kernel
theorem d_X1_moveToNext_76 : decode prog_3_method_38_code 76 = .ok (.aload_n 0, 1) := by decide +kernel
theorem d_X1_moveToNext_77 : decode prog_3_method_38_code 77 = .ok (.getfield 42, 3) := by decide +kernel
theorem d_X1_moveToNext_80 : decode prog_3_method_38_code 80 = .ok (.iload_n 3, 1) := by decide +kernel
theorem d_X1_moveToNext_81 : decode prog_3_method_38_code 81 = .ok (.iaload, 1) := by decide +kernel
theorem d_X1_moveToNext_82 : decode prog_3_method_38_code 82 = .ok (.iastore, 1) := by decide +kernel
theorem d_X1_moveToNext_83 : decode prog_3_method_38_code 83 = .ok (.iload_n 2, 1) := by decide +kernel
theorem d_X1_moveToNext_84 : decode prog_3_method_38_code 84 = .ok (.iconst 1, 1) := by decide +kernel
theorem d_X1_moveToNext_85 : decode prog_3_method_38_code 85 = .ok (.iload_n 3, 1) := by decide +kernel
theorem d_X1_moveToNext_86 : decode prog_3_method_38_code 86 = .ok (.ishl, 1) := by decide +kernel
theorem d_X1_moveToNext_87 : decode prog_3_method_38_code 87 = .ok (.ior, 1) := by decide +kernel
theorem d_X1_moveToNext_88 : decode prog_3_method_38_code 88 = .ok (.istore_n 2, 1) := by decide +kernel
theorem d_X1_moveToNext_89 : decode prog_3_method_38_code 89 = .ok (.iinc 3 1, 3) := by decide +kernel
theorem d_X1_moveToNext_92 : decode prog_3_method_38_code 92 = .ok (.goto (-88), 3) := by decide +kernel
theorem d_X1_moveToNext_95 : decode prog_3_method_38_code 95 = .ok (.aload_n 0, 1) := by decide +kernel
theorem d_X1_moveToNext_96 : decode prog_3_method_38_code 96 = .ok (.invokevirtual 134, 3) := by decide +kernel
theorem d_X1_moveToNext_99 : decode prog_3_method_38_code 99 = .ok (.iload_n 2, 1) := by decide +kernel
theorem d_X1_moveToNext_100 : decode prog_3_method_38_code 100 = .ok (.ireturn, 1) := by decide +kernel
abbrev M_Mesh_moveToNext : zMT := (⟨"PeriodSlots$Mesh", "moveToNext", "(I)I"⟩, prog_3_method_38_code, 4, (some .int))
theorem k_Mesh_moveToNext : zcall M_Mesh_moveToNext 1 := ⟨zU_in (i := 479) (by decide +kernel) rfl, m56, ⟨by decide, by decide, by decide +kernel⟩, by decide⟩
def o_Mesh_moveToNext (h : zHp) (b : Nat) (moving : Int32) : Int32 × zHp :=
  ((zrep (fun (i4_1 : Nat) (s4_1 : Int32 × zHp) => ((if (o_Slots_has moving (nI i4_1)) = true then (if (h (b + 11) i4_1) = (s4_1.2 (b + 3) i4_1) then s4_1.1 else (s4_1.1 ||| (zshl 1 (nI i4_1)))) else s4_1.1), (if (o_Slots_has moving (nI i4_1)) = true then (if (h (b + 11) i4_1) = (s4_1.2 (b + 3) i4_1) then (zup s4_1.2 (b + 4) i4_1 (-9)) else (zup (zup (zup s4_1.2 (b + 4) i4_1 (-9)) (b + 4) i4_1 (if (h (b + 11) i4_1) = (-9) then (-9) else (s4_1.2 (b + 3) i4_1))) (b + 3) i4_1 (h (b + 11) i4_1))) else (zup s4_1.2 (b + 4) i4_1 (-9))))) (0, h) (zcn (h b 0))).1, (o_Mesh_markTicks (zrep (fun (i4_1 : Nat) (s4_1 : Int32 × zHp) => ((if (o_Slots_has moving (nI i4_1)) = true then (if (h (b + 11) i4_1) = (s4_1.2 (b + 3) i4_1) then s4_1.1 else (s4_1.1 ||| (zshl 1 (nI i4_1)))) else s4_1.1), (if (o_Slots_has moving (nI i4_1)) = true then (if (h (b + 11) i4_1) = (s4_1.2 (b + 3) i4_1) then (zup s4_1.2 (b + 4) i4_1 (-9)) else (zup (zup (zup s4_1.2 (b + 4) i4_1 (-9)) (b + 4) i4_1 (if (h (b + 11) i4_1) = (-9) then (-9) else (s4_1.2 (b + 3) i4_1))) (b + 3) i4_1 (h (b + 11) i4_1))) else (zup s4_1.2 (b + 4) i4_1 (-9))))) (0, h) (zcn (h b 0))).2 b))
theorem fr_Mesh_moveToNext {h : zHp} {b : Nat} {moving : Int32} (c k : Nat) (q0 : c ≠ b + 3) (q1 : c ≠ b + 4) (q2 : c ≠ b + 9) (q3 : c ≠ b + 10) : (o_Mesh_moveToNext h b moving).2 c k = h c k := by
  unfold o_Mesh_moveToNext
  have hI4_1 := zrep_inv (f := (fun (i4_1 : Nat) (s4_1 : Int32 × zHp) => ((if (o_Slots_has moving (nI i4_1)) = true then (if (h (b + 11) i4_1) = (s4_1.2 (b + 3) i4_1) then s4_1.1 else (s4_1.1 ||| (zshl 1 (nI i4_1)))) else s4_1.1), (if (o_Slots_has moving (nI i4_1)) = true then (if (h (b + 11) i4_1) = (s4_1.2 (b + 3) i4_1) then (zup s4_1.2 (b + 4) i4_1 (-9)) else (zup (zup (zup s4_1.2 (b + 4) i4_1 (-9)) (b + 4) i4_1 (if (h (b + 11) i4_1) = (-9) then (-9) else (s4_1.2 (b + 3) i4_1))) (b + 3) i4_1 (h (b + 11) i4_1))) else (zup s4_1.2 (b + 4) i4_1 (-9)))))) (a := (0, h)) (fun _ s4_1 => ∀ c k : Nat, c ≠ b + 3 → c ≠ b + 4 → c ≠ b + 9 → c ≠ b + 10 → s4_1.2 c k = h c k) (zcn (h b 0)) (fun _ _ _ _ _ _ => (by dsimp only)) (fun i4_1 s4_1 hi4_1 hI4_1 => (fun c k q0 q1 q2 q3 => (by (try dsimp only); exact (zite_fr (fun _ => (zite_fr (fun _ => ((zup_fr (Or.inl (by assumption))).trans (hI4_1 _ _ (by assumption) (by assumption) (by assumption) (by assumption)))) (fun _ => ((zup_fr (Or.inl (by assumption))).trans ((zup_fr (Or.inl (by assumption))).trans ((zup_fr (Or.inl (by assumption))).trans (hI4_1 _ _ (by assumption) (by assumption) (by assumption) (by assumption)))))))) (fun _ => ((zup_fr (Or.inl (by assumption))).trans (hI4_1 _ _ (by assumption) (by assumption) (by assumption) (by assumption))))))))
  try dsimp only
  first | done | exact ((fr_Mesh_markTicks _ _ (by assumption) (by assumption)).trans (hI4_1 _ _ (by assumption) (by assumption) (by assumption) (by assumption)))
set_option maxHeartbeats 400000 in
set_option maxRecDepth 20000 in
theorem c_Mesh_moveToNext (X : zXT) (h : zHp) (g : zLg) (b : Nat) (moving : Int32) (hb : b = 3 ∨ b = 15 ∨ b = 27) (hf0 : zfit h b 0 8) : zDi X M_Mesh_moveToNext 2 [zR X b, .int moving] h g (zI ((o_Mesh_moveToNext h b moving).1)) ((o_Mesh_moveToNext h b moving).2) g := by
  have hf0_1 := hf0.1
  refine zDi_of "PeriodSlots$Mesh" prog_3_method_38_code 4 (some .int) rfl (by decide) [zO X b, zI moving, none, none] rfl (fun _ q => q) (Nat.le_of_ble_eq_true rfl) ?_
  intro Γ Q C hQ
  refine zr_iconst C (v := 0) d_X1_moveToNext_0 (by decide) ?_
  refine zr_istore_n C [zO X b, zI moving, zI 0, none] d_X1_moveToNext_1 (Nat.le_of_ble_eq_true rfl) rfl rfl ?_
  refine zr_iconst C (v := 0) d_X1_moveToNext_2 (by decide) ?_
  refine zr_istore_n C [zO X b, zI moving, zI 0, zI 0] d_X1_moveToNext_3 (Nat.le_of_ble_eq_true rfl) rfl rfl ?_
  refine zfor (f := (fun (i4_1 : Nat) (s4_1 : Int32 × zHp) => ((if (o_Slots_has moving (nI i4_1)) = true then (if (h (b + 11) i4_1) = (s4_1.2 (b + 3) i4_1) then s4_1.1 else (s4_1.1 ||| (zshl 1 (nI i4_1)))) else s4_1.1), (if (o_Slots_has moving (nI i4_1)) = true then (if (h (b + 11) i4_1) = (s4_1.2 (b + 3) i4_1) then (zup s4_1.2 (b + 4) i4_1 (-9)) else (zup (zup (zup s4_1.2 (b + 4) i4_1 (-9)) (b + 4) i4_1 (if (h (b + 11) i4_1) = (-9) then (-9) else (s4_1.2 (b + 3) i4_1))) (b + 3) i4_1 (h (b + 11) i4_1))) else (zup s4_1.2 (b + 4) i4_1 (-9)))))) (a := (0, h)) (fun i4_1 s4_1 => zV X Γ Q 4 [zO X b, zI moving, zI s4_1.1, zI (nI i4_1)] [] s4_1.2 g) (fun _ s4_1 => ∀ c k : Nat, c ≠ b + 3 → c ≠ b + 4 → c ≠ b + 9 → c ≠ b + 10 → s4_1.2 c k = h c k) (zcn (h b 0)) (fun _ _ _ _ _ _ => (by dsimp only)) (fun i4_1 s4_1 hi4_1 hI4_1 => ⟨(fun c k q0 q1 q2 q3 => (by (try dsimp only); exact (zite_fr (fun _ => (zite_fr (fun _ => ((zup_fr (Or.inl (by assumption))).trans (hI4_1 _ _ (by assumption) (by assumption) (by assumption) (by assumption)))) (fun _ => ((zup_fr (Or.inl (by assumption))).trans ((zup_fr (Or.inl (by assumption))).trans ((zup_fr (Or.inl (by assumption))).trans (hI4_1 _ _ (by assumption) (by assumption) (by assumption) (by assumption)))))))) (fun _ => ((zup_fr (Or.inl (by assumption))).trans (hI4_1 _ _ (by assumption) (by assumption) (by assumption) (by assumption))))))), fun hk4_1 => ?_⟩) (fun r4_1 er4_1 hI4_1 => ?_)
  · refine zr_iload_n C d_X1_moveToNext_4 rfl ?_
    refine zr_aload_n C d_X1_moveToNext_5 rfl ?_
    refine gf_Mesh_0 C hb m95 d_X1_moveToNext_6 ?_
    refine zr_top (hI4_1 _ _ (by omega) (by omega) (by omega) (by omega)) ?_
    refine zr_icmp_ge C 95 d_X1_moveToNext_9 (by decide) (fun c => absurd c (zge_no rfl (by omega))) (fun _ => ?_)
    refine zr_aload_n C d_X1_moveToNext_12 rfl ?_
    refine gf_Mesh_6 C hb m114 d_X1_moveToNext_13 ?_
    refine zr_iload_n C d_X1_moveToNext_16 rfl ?_
    refine zr_bipush C (v := (-9)) d_X1_moveToNext_17 (by decide) ?_
    refine zr_iast C (za_mesh_4 hb) (i4_1) rfl (by omega) (by decide) d_X1_moveToNext_19 ?_
    refine zr_h (fun h2 eh2 => ?_)
    refine zr_iload_n C d_X1_moveToNext_20 rfl ?_
    refine zr_iload_n C d_X1_moveToNext_21 rfl ?_
    refine zr_callNi (As := [.int moving, .int (nI i4_1)]) (st := []) C (c_Slots_has X h2 g moving (nI i4_1)) k_Slots_has (by simp [zNest]) m322 rfl (by decide) rfl (Nat.le_of_ble_eq_true rfl) d_X1_moveToNext_22 ?_
    suffices hJ25 : ∀ (y6 : Int32) (h7 : zHp), (if (o_Slots_has moving (nI i4_1)) = true then (if (h (b + 11) i4_1) = (s4_1.2 (b + 3) i4_1) then s4_1.1 else (s4_1.1 ||| (zshl 1 (nI i4_1)))) else s4_1.1) = y6 → (if (o_Slots_has moving (nI i4_1)) = true then (if (h (b + 11) i4_1) = (s4_1.2 (b + 3) i4_1) then h2 else (zup (zup h2 (b + 4) i4_1 (if (h (b + 11) i4_1) = (-9) then (-9) else (s4_1.2 (b + 3) i4_1))) (b + 3) i4_1 (h (b + 11) i4_1))) else h2) = h7 → zV X Γ Q 89 [zO X b, zI moving, zI y6, zI (nI i4_1)] [] h7 g by
      refine zr_ifz_eq C 89 d_X1_moveToNext_25 (by decide) (fun c25 => ?_) (fun c25 => ?_)
      · exact hJ25 s4_1.1 h2 (((if_neg (zbf c25)))) (((if_neg (zbf c25))))
      · refine zr_aload_n C d_X1_moveToNext_28 rfl ?_
        refine gf_Mesh_13 C hb m128 d_X1_moveToNext_29 ?_
        refine zr_iload_n C d_X1_moveToNext_32 rfl ?_
        refine zr_iald C (za_mesh_11 hb) (i4_1) rfl (by omega) (by decide) d_X1_moveToNext_33 ?_
        refine zr_top ((congrFun (congrFun eh2.symm _) _).trans ((zup_fr (by omega)).trans (hI4_1 _ _ (by omega) (by omega) (by omega) (by omega)))) ?_
        refine zr_aload_n C d_X1_moveToNext_34 rfl ?_
        refine gf_Mesh_5 C hb m111 d_X1_moveToNext_35 ?_
        refine zr_iload_n C d_X1_moveToNext_38 rfl ?_
        refine zr_iald C (za_mesh_3 hb) (i4_1) rfl (by omega) (by decide) d_X1_moveToNext_39 ?_
        refine zr_top ((congrFun (congrFun eh2.symm _) _).trans (zup_fr (by omega))) ?_
        refine zr_icmp_eq C 89 d_X1_moveToNext_40 (by decide) (fun c40 => ?_) (fun c40 => ?_)
        · exact hJ25 s4_1.1 h2 (((if_pos c25).trans ((if_pos c40)))) (((if_pos c25).trans ((if_pos c40))))
        · refine zr_aload_n C d_X1_moveToNext_43 rfl ?_
          refine gf_Mesh_6 C hb m114 d_X1_moveToNext_44 ?_
          refine zr_iload_n C d_X1_moveToNext_47 rfl ?_
          refine zr_aload_n C d_X1_moveToNext_48 rfl ?_
          refine gf_Mesh_13 C hb m128 d_X1_moveToNext_49 ?_
          refine zr_iload_n C d_X1_moveToNext_52 rfl ?_
          refine zr_iald C (za_mesh_11 hb) (i4_1) rfl (by omega) (by decide) d_X1_moveToNext_53 ?_
          refine zr_top ((congrFun (congrFun eh2.symm _) _).trans ((zup_fr (by omega)).trans (hI4_1 _ _ (by omega) (by omega) (by omega) (by omega)))) ?_
          refine zr_bipush C (v := (-9)) d_X1_moveToNext_54 (by decide) ?_
          suffices hJ56 : ∀ (y3 : Int32), (if (h (b + 11) i4_1) = (-9) then (-9) else (s4_1.2 (b + 3) i4_1)) = y3 → zV X Γ Q 70 [zO X b, zI moving, zI s4_1.1, zI (nI i4_1)] [.int y3, .int (nI i4_1), zR X (b + 4)] h2 g by
            refine zr_icmp_ne C 64 d_X1_moveToNext_56 (by decide) (fun c56 => ?_) (fun c56 => ?_)
            · refine zr_aload_n C d_X1_moveToNext_64 rfl ?_
              refine gf_Mesh_5 C hb m111 d_X1_moveToNext_65 ?_
              refine zr_iload_n C d_X1_moveToNext_68 rfl ?_
              refine zr_iald C (za_mesh_3 hb) (i4_1) rfl (by omega) (by decide) d_X1_moveToNext_69 ?_
              refine zr_top ((congrFun (congrFun eh2.symm _) _).trans (zup_fr (by omega))) ?_
              exact hJ56 (s4_1.2 (b + 3) i4_1) (((if_neg c56)))
            · refine zr_bipush C (v := (-9)) d_X1_moveToNext_59 (by decide) ?_
              refine zr_goto C 70 d_X1_moveToNext_61 (by decide) ?_
              exact hJ56 (-9) (((if_pos c56)))
          intro y3 ey3
          refine zr_iast C (za_mesh_4 hb) (i4_1) rfl (by omega) (by decide) d_X1_moveToNext_70 ?_
          refine zr_h (fun h4 eh4 => ?_)
          refine zr_aload_n C d_X1_moveToNext_71 rfl ?_
          refine gf_Mesh_5 C hb m111 d_X1_moveToNext_72 ?_
          refine zr_iload_n C d_X1_moveToNext_75 rfl ?_
          refine zr_aload_n C d_X1_moveToNext_76 rfl ?_
          refine gf_Mesh_13 C hb m128 d_X1_moveToNext_77 ?_
          refine zr_iload_n C d_X1_moveToNext_80 rfl ?_
          refine zr_iald C (za_mesh_11 hb) (i4_1) rfl (by omega) (by decide) d_X1_moveToNext_81 ?_
          refine zr_top ((congrFun (congrFun eh4.symm _) _).trans ((zup_fr (by omega)).trans ((congrFun (congrFun eh2.symm _) _).trans ((zup_fr (by omega)).trans (hI4_1 _ _ (by omega) (by omega) (by omega) (by omega)))))) ?_
          refine zr_iast C (za_mesh_3 hb) (i4_1) rfl (by omega) (by decide) d_X1_moveToNext_82 ?_
          refine zr_h (fun h5 eh5 => ?_)
          refine zr_iload_n C d_X1_moveToNext_83 rfl ?_
          refine zr_iconst C (v := 1) d_X1_moveToNext_84 (by decide) ?_
          refine zr_iload_n C d_X1_moveToNext_85 rfl ?_
          refine zr_ishl C d_X1_moveToNext_86 ?_
          refine zr_ior C d_X1_moveToNext_87 ?_
          refine zr_istore_n C [zO X b, zI moving, zI (s4_1.1 ||| (zshl 1 (nI i4_1))), zI (nI i4_1)] d_X1_moveToNext_88 (Nat.le_of_ble_eq_true rfl) rfl rfl ?_
          exact hJ25 (s4_1.1 ||| (zshl 1 (nI i4_1))) h5 (by subst eh5 eh4 ey3; exact ((if_pos c25).trans ((if_neg c40)))) (by subst eh5 eh4 ey3; exact ((if_pos c25).trans ((if_neg c40))))
    intro y6 h7 ey6 eh7
    refine zr_iinc C [zO X b, zI moving, zI y6, zI (nI (i4_1 + 1))] (v := (nI (i4_1 + 1))) d_X1_moveToNext_89 rfl (zn_add rfl rfl) (Nat.le_of_ble_eq_true rfl) rfl rfl ?_
    refine zr_goto C 4 d_X1_moveToNext_92 (by decide) ?_
    exact hk4_1 (y6, h7) (by subst eh7 ey6 eh2; exact rfl)
  refine zr_iload_n C d_X1_moveToNext_4 rfl ?_
  refine zr_aload_n C d_X1_moveToNext_5 rfl ?_
  refine gf_Mesh_0 C hb m95 d_X1_moveToNext_6 ?_
  refine zr_top (hI4_1 _ _ (by omega) (by omega) (by omega) (by omega)) ?_
  refine zr_icmp_ge C 95 d_X1_moveToNext_9 (by decide) (fun _ => ?_) (fun c => absurd (zge_yes rfl (by omega) (by have := zcn_small (h b 0); omega)) c)
  refine zr_aload_n C d_X1_moveToNext_95 rfl ?_
  refine zr_callVv (As := []) (st := []) (c := b) C (c_Mesh_markTicks X r4_1.2 g b hb (zfit_fr (hI4_1 _ _ (by omega) (by omega) (by omega) (by omega)) hf0)) k_Mesh_markTicks m305 m306 m307 (by omega) (zC_Mesh hb X _ _) rfl rfl (by decide) rfl (Nat.le_of_ble_eq_true rfl) d_X1_moveToNext_96 ?_
  refine zr_h (fun h8 eh8 => ?_)
  refine zr_iload_n C d_X1_moveToNext_99 rfl ?_
  have eR : o_Mesh_moveToNext h b moving = (r4_1.1, h8) := (by subst eh8 er4_1; unfold o_Mesh_moveToNext; exact rfl)
  subst hQ
  exact zTQ_Ih eR (zr_ireti C d_X1_moveToNext_100)
theorem d_X1_advance_0 : decode prog_3_method_37_code 0 = .ok (.aload_n 0, 1) := by decide +kernel
theorem d_X1_advance_1 : decode prog_3_method_37_code 1 = .ok (.invokevirtual 137, 3) := by decide +kernel
theorem d_X1_advance_4 : decode prog_3_method_37_code 4 = .ok (.istore_n 1, 1) := by decide +kernel
theorem d_X1_advance_5 : decode prog_3_method_37_code 5 = .ok (.iconst 0, 1) := by decide +kernel
theorem d_X1_advance_6 : decode prog_3_method_37_code 6 = .ok (.istore_n 2, 1) := by decide +kernel
theorem d_X1_advance_7 : decode prog_3_method_37_code 7 = .ok (.iconst 0, 1) := by decide +kernel
theorem d_X1_advance_8 : decode prog_3_method_37_code 8 = .ok (.istore_n 3, 1) := by decide +kernel
theorem d_X1_advance_9 : decode prog_3_method_37_code 9 = .ok (.iload_n 3, 1) := by decide +kernel
theorem d_X1_advance_10 : decode prog_3_method_37_code 10 = .ok (.aload_n 0, 1) := by decide +kernel
theorem d_X1_advance_11 : decode prog_3_method_37_code 11 = .ok (.getfield 45, 3) := by decide +kernel
theorem d_X1_advance_14 : decode prog_3_method_37_code 14 = .ok (.if_icmp .ge 48, 3) := by decide +kernel
theorem d_X1_advance_17 : decode prog_3_method_37_code 17 = .ok (.iload_n 1, 1) := by decide +kernel
theorem d_X1_advance_18 : decode prog_3_method_37_code 18 = .ok (.iload_n 3, 1) := by decide +kernel
theorem d_X1_advance_19 : decode prog_3_method_37_code 19 = .ok (.invokestatic 89, 3) := by decide +kernel
theorem d_X1_advance_22 : decode prog_3_method_37_code 22 = .ok (.ifCond .eq 34, 3) := by decide +kernel
theorem d_X1_advance_25 : decode prog_3_method_37_code 25 = .ok (.aload_n 0, 1) := by decide +kernel
theorem d_X1_advance_26 : decode prog_3_method_37_code 26 = .ok (.getfield 33, 3) := by decide +kernel
theorem d_X1_advance_29 : decode prog_3_method_37_code 29 = .ok (.iload_n 3, 1) := by decide +kernel
theorem d_X1_advance_30 : decode prog_3_method_37_code 30 = .ok (.iaload, 1) := by decide +kernel
theorem d_X1_advance_31 : decode prog_3_method_37_code 31 = .ok (.iload_n 1, 1) := by decide +kernel
theorem d_X1_advance_32 : decode prog_3_method_37_code 32 = .ok (.iand, 1) := by decide +kernel
theorem d_X1_advance_33 : decode prog_3_method_37_code 33 = .ok (.ifCond .ne 23, 3) := by decide +kernel
theorem d_X1_advance_36 : decode prog_3_method_37_code 36 = .ok (.iload_n 2, 1) := by decide +kernel
theorem d_X1_advance_37 : decode prog_3_method_37_code 37 = .ok (.iconst 1, 1) := by decide +kernel
theorem d_X1_advance_38 : decode prog_3_method_37_code 38 = .ok (.iload_n 3, 1) := by decide +kernel
theorem d_X1_advance_39 : decode prog_3_method_37_code 39 = .ok (.ishl, 1) := by decide +kernel
theorem d_X1_advance_40 : decode prog_3_method_37_code 40 = .ok (.ior, 1) := by decide +kernel
theorem d_X1_advance_41 : decode prog_3_method_37_code 41 = .ok (.istore_n 2, 1) := by decide +kernel
theorem d_X1_advance_42 : decode prog_3_method_37_code 42 = .ok (.aload_n 0, 1) := by decide +kernel
theorem d_X1_advance_43 : decode prog_3_method_37_code 43 = .ok (.getfield 42, 3) := by decide +kernel
theorem d_X1_advance_46 : decode prog_3_method_37_code 46 = .ok (.iload_n 3, 1) := by decide +kernel
theorem d_X1_advance_47 : decode prog_3_method_37_code 47 = .ok (.aload_n 0, 1) := by decide +kernel
theorem d_X1_advance_48 : decode prog_3_method_37_code 48 = .ok (.iload_n 3, 1) := by decide +kernel
theorem d_X1_advance_49 : decode prog_3_method_37_code 49 = .ok (.invokevirtual 140, 3) := by decide +kernel
theorem d_X1_advance_52 : decode prog_3_method_37_code 52 = .ok (.invokestatic 143, 3) := by decide +kernel
theorem d_X1_advance_55 : decode prog_3_method_37_code 55 = .ok (.iastore, 1) := by decide +kernel
theorem d_X1_advance_56 : decode prog_3_method_37_code 56 = .ok (.iinc 3 1, 3) := by decide +kernel
theorem d_X1_advance_59 : decode prog_3_method_37_code 59 = .ok (.goto (-50), 3) := by decide +kernel
theorem d_X1_advance_62 : decode prog_3_method_37_code 62 = .ok (.aload_n 0, 1) := by decide +kernel
theorem d_X1_advance_63 : decode prog_3_method_37_code 63 = .ok (.iload_n 2, 1) := by decide +kernel
theorem d_X1_advance_64 : decode prog_3_method_37_code 64 = .ok (.invokevirtual 146, 3) := by decide +kernel
theorem d_X1_advance_67 : decode prog_3_method_37_code 67 = .ok (.istore_n 3, 1) := by decide +kernel
theorem d_X1_advance_68 : decode prog_3_method_37_code 68 = .ok (.aload_n 0, 1) := by decide +kernel
theorem d_X1_advance_69 : decode prog_3_method_37_code 69 = .ok (.dup, 1) := by decide +kernel
theorem d_X1_advance_70 : decode prog_3_method_37_code 70 = .ok (.getfield 49, 3) := by decide +kernel
theorem d_X1_advance_73 : decode prog_3_method_37_code 73 = .ok (.iconst 1, 1) := by decide +kernel
theorem d_X1_advance_74 : decode prog_3_method_37_code 74 = .ok (.iadd, 1) := by decide +kernel
theorem d_X1_advance_75 : decode prog_3_method_37_code 75 = .ok (.putfield 49, 3) := by decide +kernel
theorem d_X1_advance_78 : decode prog_3_method_37_code 78 = .ok (.aload_n 0, 1) := by decide +kernel
theorem d_X1_advance_79 : decode prog_3_method_37_code 79 = .ok (.invokevirtual 102, 3) := by decide +kernel
theorem d_X1_advance_82 : decode prog_3_method_37_code 82 = .ok (.iload_n 3, 1) := by decide +kernel
theorem d_X1_advance_83 : decode prog_3_method_37_code 83 = .ok (.ireturn, 1) := by decide +kernel
abbrev M_Mesh_advance : zMT := (⟨"PeriodSlots$Mesh", "advance", "()I"⟩, prog_3_method_37_code, 4, (some .int))
theorem k_Mesh_advance : zcall M_Mesh_advance 0 := ⟨zU_in (i := 468) (by decide +kernel) rfl, m56, ⟨by decide, by decide, by decide +kernel⟩, by decide⟩
def o_Mesh_advance (h : zHp) (b : Nat) : Int32 × zHp :=
  (((o_Mesh_moveToNext (zrep (fun (i9_1 : Nat) (s9_1 : Int32 × zHp) => ((if (o_Slots_has (o_Mesh_unsettledSet h b) (nI i9_1)) = true then (if ((s9_1.2 (b + 8) i9_1) &&& (o_Mesh_unsettledSet h b)) = 0 then (s9_1.1 ||| (zshl 1 (nI i9_1))) else s9_1.1) else s9_1.1), (if (o_Slots_has (o_Mesh_unsettledSet h b) (nI i9_1)) = true then (if ((s9_1.2 (b + 8) i9_1) &&& (o_Mesh_unsettledSet h b)) = 0 then (zup s9_1.2 (b + 11) i9_1 (o_Slots_lowestOrNone (o_Mesh_freeOffsets s9_1.2 b i9_1))) else s9_1.2) else s9_1.2))) (0, h) (zcn (h b 0))).2 b (zrep (fun (i9_1 : Nat) (s9_1 : Int32 × zHp) => ((if (o_Slots_has (o_Mesh_unsettledSet h b) (nI i9_1)) = true then (if ((s9_1.2 (b + 8) i9_1) &&& (o_Mesh_unsettledSet h b)) = 0 then (s9_1.1 ||| (zshl 1 (nI i9_1))) else s9_1.1) else s9_1.1), (if (o_Slots_has (o_Mesh_unsettledSet h b) (nI i9_1)) = true then (if ((s9_1.2 (b + 8) i9_1) &&& (o_Mesh_unsettledSet h b)) = 0 then (zup s9_1.2 (b + 11) i9_1 (o_Slots_lowestOrNone (o_Mesh_freeOffsets s9_1.2 b i9_1))) else s9_1.2) else s9_1.2))) (0, h) (zcn (h b 0))).1).1), (o_Mesh_rank (zup ((o_Mesh_moveToNext (zrep (fun (i9_1 : Nat) (s9_1 : Int32 × zHp) => ((if (o_Slots_has (o_Mesh_unsettledSet h b) (nI i9_1)) = true then (if ((s9_1.2 (b + 8) i9_1) &&& (o_Mesh_unsettledSet h b)) = 0 then (s9_1.1 ||| (zshl 1 (nI i9_1))) else s9_1.1) else s9_1.1), (if (o_Slots_has (o_Mesh_unsettledSet h b) (nI i9_1)) = true then (if ((s9_1.2 (b + 8) i9_1) &&& (o_Mesh_unsettledSet h b)) = 0 then (zup s9_1.2 (b + 11) i9_1 (o_Slots_lowestOrNone (o_Mesh_freeOffsets s9_1.2 b i9_1))) else s9_1.2) else s9_1.2))) (0, h) (zcn (h b 0))).2 b (zrep (fun (i9_1 : Nat) (s9_1 : Int32 × zHp) => ((if (o_Slots_has (o_Mesh_unsettledSet h b) (nI i9_1)) = true then (if ((s9_1.2 (b + 8) i9_1) &&& (o_Mesh_unsettledSet h b)) = 0 then (s9_1.1 ||| (zshl 1 (nI i9_1))) else s9_1.1) else s9_1.1), (if (o_Slots_has (o_Mesh_unsettledSet h b) (nI i9_1)) = true then (if ((s9_1.2 (b + 8) i9_1) &&& (o_Mesh_unsettledSet h b)) = 0 then (zup s9_1.2 (b + 11) i9_1 (o_Slots_lowestOrNone (o_Mesh_freeOffsets s9_1.2 b i9_1))) else s9_1.2) else s9_1.2))) (0, h) (zcn (h b 0))).1).2) b 1 (((zrep (fun (i9_1 : Nat) (s9_1 : Int32 × zHp) => ((if (o_Slots_has (o_Mesh_unsettledSet h b) (nI i9_1)) = true then (if ((s9_1.2 (b + 8) i9_1) &&& (o_Mesh_unsettledSet h b)) = 0 then (s9_1.1 ||| (zshl 1 (nI i9_1))) else s9_1.1) else s9_1.1), (if (o_Slots_has (o_Mesh_unsettledSet h b) (nI i9_1)) = true then (if ((s9_1.2 (b + 8) i9_1) &&& (o_Mesh_unsettledSet h b)) = 0 then (zup s9_1.2 (b + 11) i9_1 (o_Slots_lowestOrNone (o_Mesh_freeOffsets s9_1.2 b i9_1))) else s9_1.2) else s9_1.2))) (0, h) (zcn (h b 0))).2 b 1) + 1)) b))
theorem fr_Mesh_advance {h : zHp} {b : Nat} (c k : Nat) (q0 : ¬ (c = b ∧ k = 1)) (q1 : c ≠ b + 3) (q2 : c ≠ b + 4) (q3 : c ≠ b + 7) (q4 : c ≠ b + 8) (q5 : c ≠ b + 9) (q6 : c ≠ b + 10) (q7 : c ≠ b + 11) : (o_Mesh_advance h b).2 c k = h c k := by
  unfold o_Mesh_advance
  have hI9_1 := zrep_inv (f := (fun (i9_1 : Nat) (s9_1 : Int32 × zHp) => ((if (o_Slots_has (o_Mesh_unsettledSet h b) (nI i9_1)) = true then (if ((s9_1.2 (b + 8) i9_1) &&& (o_Mesh_unsettledSet h b)) = 0 then (s9_1.1 ||| (zshl 1 (nI i9_1))) else s9_1.1) else s9_1.1), (if (o_Slots_has (o_Mesh_unsettledSet h b) (nI i9_1)) = true then (if ((s9_1.2 (b + 8) i9_1) &&& (o_Mesh_unsettledSet h b)) = 0 then (zup s9_1.2 (b + 11) i9_1 (o_Slots_lowestOrNone (o_Mesh_freeOffsets s9_1.2 b i9_1))) else s9_1.2) else s9_1.2)))) (a := (0, h)) (fun _ s9_1 => ∀ c k : Nat, ¬ (c = b ∧ k = 1) → c ≠ b + 3 → c ≠ b + 4 → c ≠ b + 7 → c ≠ b + 8 → c ≠ b + 9 → c ≠ b + 10 → c ≠ b + 11 → s9_1.2 c k = h c k) (zcn (h b 0)) (fun _ _ _ _ _ _ _ _ _ _ => (by dsimp only)) (fun i9_1 s9_1 hi9_1 hI9_1 => (fun c k q0 q1 q2 q3 q4 q5 q6 q7 => (by (try dsimp only); exact (zite_fr (fun _ => (zite_fr (fun _ => ((zup_fr (Or.inl (by assumption))).trans (hI9_1 _ _ (by assumption) (by assumption) (by assumption) (by assumption) (by assumption) (by assumption) (by assumption) (by assumption)))) (fun _ => (hI9_1 _ _ (by assumption) (by assumption) (by assumption) (by assumption) (by assumption) (by assumption) (by assumption) (by assumption))))) (fun _ => (hI9_1 _ _ (by assumption) (by assumption) (by assumption) (by assumption) (by assumption) (by assumption) (by assumption) (by assumption)))))))
  try dsimp only
  first | done | exact ((fr_Mesh_rank _ _ (by assumption) (by assumption)).trans ((zup_fr (by omega)).trans ((fr_Mesh_moveToNext _ _ (by assumption) (by assumption) (by assumption) (by assumption)).trans (hI9_1 _ _ (by assumption) (by assumption) (by assumption) (by assumption) (by assumption) (by assumption) (by assumption) (by assumption)))))
set_option maxHeartbeats 400000 in
set_option maxRecDepth 20000 in
theorem c_Mesh_advance (X : zXT) (h : zHp) (g : zLg) (b : Nat) (hb : b = 3 ∨ b = 15 ∨ b = 27) (hf0 : zfit h b 0 8) : zDi X M_Mesh_advance 3 [zR X b] h g (zI ((o_Mesh_advance h b).1)) ((o_Mesh_advance h b).2) g := by
  have hf0_1 := hf0.1
  refine zDi_of "PeriodSlots$Mesh" prog_3_method_37_code 4 (some .int) rfl (by decide) [zO X b, none, none, none] rfl (fun _ q => q) (Nat.le_of_ble_eq_true rfl) ?_
  intro Γ Q C hQ
  refine zr_aload_n C d_X1_advance_0 rfl ?_
  refine zr_callVi (As := []) (st := []) (c := b) C (c_Mesh_unsettledSet X h g b hb hf0) k_Mesh_unsettledSet m418 m403 m404 (by omega) (zC_Mesh hb X _ _) rfl rfl (by decide) rfl (Nat.le_of_ble_eq_true rfl) d_X1_advance_1 ?_
  refine zr_istore_n C [zO X b, zI (o_Mesh_unsettledSet h b), none, none] d_X1_advance_4 (Nat.le_of_ble_eq_true rfl) rfl rfl ?_
  refine zr_iconst C (v := 0) d_X1_advance_5 (by decide) ?_
  refine zr_istore_n C [zO X b, zI (o_Mesh_unsettledSet h b), zI 0, none] d_X1_advance_6 (Nat.le_of_ble_eq_true rfl) rfl rfl ?_
  refine zr_iconst C (v := 0) d_X1_advance_7 (by decide) ?_
  refine zr_istore_n C [zO X b, zI (o_Mesh_unsettledSet h b), zI 0, zI 0] d_X1_advance_8 (Nat.le_of_ble_eq_true rfl) rfl rfl ?_
  refine zfor (f := (fun (i9_1 : Nat) (s9_1 : Int32 × zHp) => ((if (o_Slots_has (o_Mesh_unsettledSet h b) (nI i9_1)) = true then (if ((s9_1.2 (b + 8) i9_1) &&& (o_Mesh_unsettledSet h b)) = 0 then (s9_1.1 ||| (zshl 1 (nI i9_1))) else s9_1.1) else s9_1.1), (if (o_Slots_has (o_Mesh_unsettledSet h b) (nI i9_1)) = true then (if ((s9_1.2 (b + 8) i9_1) &&& (o_Mesh_unsettledSet h b)) = 0 then (zup s9_1.2 (b + 11) i9_1 (o_Slots_lowestOrNone (o_Mesh_freeOffsets s9_1.2 b i9_1))) else s9_1.2) else s9_1.2)))) (a := (0, h)) (fun i9_1 s9_1 => zV X Γ Q 9 [zO X b, zI (o_Mesh_unsettledSet h b), zI s9_1.1, zI (nI i9_1)] [] s9_1.2 g) (fun _ s9_1 => ∀ c k : Nat, ¬ (c = b ∧ k = 1) → c ≠ b + 3 → c ≠ b + 4 → c ≠ b + 7 → c ≠ b + 8 → c ≠ b + 9 → c ≠ b + 10 → c ≠ b + 11 → s9_1.2 c k = h c k) (zcn (h b 0)) (fun _ _ _ _ _ _ _ _ _ _ => (by dsimp only)) (fun i9_1 s9_1 hi9_1 hI9_1 => ⟨(fun c k q0 q1 q2 q3 q4 q5 q6 q7 => (by (try dsimp only); exact (zite_fr (fun _ => (zite_fr (fun _ => ((zup_fr (Or.inl (by assumption))).trans (hI9_1 _ _ (by assumption) (by assumption) (by assumption) (by assumption) (by assumption) (by assumption) (by assumption) (by assumption)))) (fun _ => (hI9_1 _ _ (by assumption) (by assumption) (by assumption) (by assumption) (by assumption) (by assumption) (by assumption) (by assumption))))) (fun _ => (hI9_1 _ _ (by assumption) (by assumption) (by assumption) (by assumption) (by assumption) (by assumption) (by assumption) (by assumption)))))), fun hk9_1 => ?_⟩) (fun r9_1 er9_1 hI9_1 => ?_)
  · refine zr_iload_n C d_X1_advance_9 rfl ?_
    refine zr_aload_n C d_X1_advance_10 rfl ?_
    refine gf_Mesh_0 C hb m95 d_X1_advance_11 ?_
    refine zr_top (hI9_1 _ _ (by omega) (by omega) (by omega) (by omega) (by omega) (by omega) (by omega) (by omega)) ?_
    refine zr_icmp_ge C 62 d_X1_advance_14 (by decide) (fun c => absurd c (zge_no rfl (by omega))) (fun _ => ?_)
    refine zr_iload_n C d_X1_advance_17 rfl ?_
    refine zr_iload_n C d_X1_advance_18 rfl ?_
    refine zr_callNi (As := [.int (o_Mesh_unsettledSet h b), .int (nI i9_1)]) (st := []) C (c_Slots_has X s9_1.2 g (o_Mesh_unsettledSet h b) (nI i9_1)) k_Slots_has (by simp [zNest]) m322 rfl (by decide) rfl (Nat.le_of_ble_eq_true rfl) d_X1_advance_19 ?_
    suffices hJ22 : ∀ (y3 : Int32) (h4 : zHp), (if (o_Slots_has (o_Mesh_unsettledSet h b) (nI i9_1)) = true then (if ((s9_1.2 (b + 8) i9_1) &&& (o_Mesh_unsettledSet h b)) = 0 then (s9_1.1 ||| (zshl 1 (nI i9_1))) else s9_1.1) else s9_1.1) = y3 → (if (o_Slots_has (o_Mesh_unsettledSet h b) (nI i9_1)) = true then (if ((s9_1.2 (b + 8) i9_1) &&& (o_Mesh_unsettledSet h b)) = 0 then (zup s9_1.2 (b + 11) i9_1 (o_Slots_lowestOrNone (o_Mesh_freeOffsets s9_1.2 b i9_1))) else s9_1.2) else s9_1.2) = h4 → zV X Γ Q 56 [zO X b, zI (o_Mesh_unsettledSet h b), zI y3, zI (nI i9_1)] [] h4 g by
      refine zr_ifz_eq C 56 d_X1_advance_22 (by decide) (fun c22 => ?_) (fun c22 => ?_)
      · exact hJ22 s9_1.1 s9_1.2 (((if_neg (zbf c22)))) (((if_neg (zbf c22))))
      · refine zr_aload_n C d_X1_advance_25 rfl ?_
        refine gf_Mesh_10 C hb m123 d_X1_advance_26 ?_
        refine zr_iload_n C d_X1_advance_29 rfl ?_
        refine zr_iald C (za_mesh_8 hb) (i9_1) rfl (by omega) (by decide) d_X1_advance_30 ?_
        refine zr_iload_n C d_X1_advance_31 rfl ?_
        refine zr_iand C d_X1_advance_32 ?_
        refine zr_if_ne C 56 d_X1_advance_33 (by decide) (fun c33 => ?_) (fun c33 => ?_)
        · exact hJ22 s9_1.1 s9_1.2 (((if_pos c22).trans ((if_neg c33)))) (((if_pos c22).trans ((if_neg c33))))
        · refine zr_iload_n C d_X1_advance_36 rfl ?_
          refine zr_iconst C (v := 1) d_X1_advance_37 (by decide) ?_
          refine zr_iload_n C d_X1_advance_38 rfl ?_
          refine zr_ishl C d_X1_advance_39 ?_
          refine zr_ior C d_X1_advance_40 ?_
          refine zr_istore_n C [zO X b, zI (o_Mesh_unsettledSet h b), zI (s9_1.1 ||| (zshl 1 (nI i9_1))), zI (nI i9_1)] d_X1_advance_41 (Nat.le_of_ble_eq_true rfl) rfl rfl ?_
          refine zr_aload_n C d_X1_advance_42 rfl ?_
          refine gf_Mesh_13 C hb m128 d_X1_advance_43 ?_
          refine zr_iload_n C d_X1_advance_46 rfl ?_
          refine zr_aload_n C d_X1_advance_47 rfl ?_
          refine zr_iload_n C d_X1_advance_48 rfl ?_
          refine zr_callVi (As := [.int (nI i9_1)]) (st := [.int (nI i9_1), zR X (b + 11)]) (c := b) C (c_Mesh_freeOffsets X s9_1.2 g b i9_1 rfl hb (zfit_fr (hI9_1 _ _ (by omega) (by omega) (by omega) (by omega) (by omega) (by omega) (by omega) (by omega)) hf0) (by omega)) k_Mesh_freeOffsets m419 m420 m421 (by omega) (zC_Mesh hb X _ _) rfl rfl (by decide) rfl (Nat.le_of_ble_eq_true rfl) d_X1_advance_49 ?_
          refine zr_callNi (As := [.int (o_Mesh_freeOffsets s9_1.2 b i9_1)]) (st := [.int (nI i9_1), zR X (b + 11)]) C (c_Slots_lowestOrNone X s9_1.2 g (o_Mesh_freeOffsets s9_1.2 b i9_1)) k_Slots_lowestOrNone (by simp [zNest]) m470 rfl (by decide) rfl (Nat.le_of_ble_eq_true rfl) d_X1_advance_52 ?_
          refine zr_iast C (za_mesh_11 hb) (i9_1) rfl (by omega) (by decide) d_X1_advance_55 ?_
          refine zr_h (fun h2 eh2 => ?_)
          exact hJ22 (s9_1.1 ||| (zshl 1 (nI i9_1))) h2 (by subst eh2; exact ((if_pos c22).trans ((if_pos c33)))) (by subst eh2; exact ((if_pos c22).trans ((if_pos c33))))
    intro y3 h4 ey3 eh4
    refine zr_iinc C [zO X b, zI (o_Mesh_unsettledSet h b), zI y3, zI (nI (i9_1 + 1))] (v := (nI (i9_1 + 1))) d_X1_advance_56 rfl (zn_add rfl rfl) (Nat.le_of_ble_eq_true rfl) rfl rfl ?_
    refine zr_goto C 9 d_X1_advance_59 (by decide) ?_
    exact hk9_1 (y3, h4) (by subst eh4 ey3; exact rfl)
  refine zr_iload_n C d_X1_advance_9 rfl ?_
  refine zr_aload_n C d_X1_advance_10 rfl ?_
  refine gf_Mesh_0 C hb m95 d_X1_advance_11 ?_
  refine zr_top (hI9_1 _ _ (by omega) (by omega) (by omega) (by omega) (by omega) (by omega) (by omega) (by omega)) ?_
  refine zr_icmp_ge C 62 d_X1_advance_14 (by decide) (fun _ => ?_) (fun c => absurd (zge_yes rfl (by omega) (by have := zcn_small (h b 0); omega)) c)
  refine zr_aload_n C d_X1_advance_62 rfl ?_
  refine zr_iload_n C d_X1_advance_63 rfl ?_
  refine zr_callVi (As := [.int r9_1.1]) (st := []) (c := b) C (c_Mesh_moveToNext X r9_1.2 g b r9_1.1 hb (zfit_fr (hI9_1 _ _ (by omega) (by omega) (by omega) (by omega) (by omega) (by omega) (by omega) (by omega)) hf0)) k_Mesh_moveToNext m476 m478 m8 (by omega) (zC_Mesh hb X _ _) rfl rfl (by decide) rfl (Nat.le_of_ble_eq_true rfl) d_X1_advance_64 ?_
  refine zr_vi (fun y5 ey5 => ?_)
  refine zr_h (fun h6 eh6 => ?_)
  refine zr_istore_n C [zO X b, zI (o_Mesh_unsettledSet h b), zI r9_1.1, zI y5] d_X1_advance_67 (Nat.le_of_ble_eq_true rfl) rfl rfl ?_
  refine zr_aload_n C d_X1_advance_68 rfl ?_
  refine zr_dup C d_X1_advance_69 rfl ?_
  refine gf_Mesh_1 C hb m99 d_X1_advance_70 ?_
  refine zr_top ((congrFun (congrFun eh6.symm _) _).trans (fr_Mesh_moveToNext _ _ (by omega) (by omega) (by omega) (by omega))) ?_
  refine zr_iconst C (v := 1) d_X1_advance_73 (by decide) ?_
  refine zr_iadd C d_X1_advance_74 ?_
  refine pf_Mesh_1 C hb m99 d_X1_advance_75 ?_
  refine zr_h (fun h7 eh7 => ?_)
  refine zr_aload_n C d_X1_advance_78 rfl ?_
  refine zr_callVv (As := []) (st := []) (c := b) C (c_Mesh_rank X h7 g b hb (zfit_fr ((congrFun (congrFun eh7.symm _) _).trans ((zup_fr (by omega)).trans ((congrFun (congrFun eh6.symm _) _).trans ((fr_Mesh_moveToNext _ _ (by omega) (by omega) (by omega) (by omega)).trans (hI9_1 _ _ (by omega) (by omega) (by omega) (by omega) (by omega) (by omega) (by omega) (by omega)))))) hf0)) k_Mesh_rank m324 m326 m3 (by omega) (zC_Mesh hb X _ _) rfl rfl (by decide) rfl (Nat.le_of_ble_eq_true rfl) d_X1_advance_79 ?_
  refine zr_h (fun h8 eh8 => ?_)
  refine zr_iload_n C d_X1_advance_82 rfl ?_
  have eR : o_Mesh_advance h b = (y5, h8) := (by subst eh8 eh7 eh6 ey5 er9_1; unfold o_Mesh_advance; exact rfl)
  subst hQ
  exact zTQ_Ih eR (zr_ireti C d_X1_advance_83)
theorem d_X1_settle_0 : decode prog_3_method_39_code 0 = .ok (.aload_n 0, 1) := by decide +kernel
theorem d_X1_settle_1 : decode prog_3_method_39_code 1 = .ok (.iconst 0, 1) := by decide +kernel
theorem d_X1_settle_2 : decode prog_3_method_39_code 2 = .ok (.putfield 149, 3) := by decide +kernel
theorem d_X1_settle_5 : decode prog_3_method_39_code 5 = .ok (.iconst 0, 1) := by decide +kernel
theorem d_X1_settle_6 : decode prog_3_method_39_code 6 = .ok (.istore_n 1, 1) := by decide +kernel
theorem d_X1_settle_7 : decode prog_3_method_39_code 7 = .ok (.iload_n 1, 1) := by decide +kernel
theorem d_X1_settle_8 : decode prog_3_method_39_code 8 = .ok (.bipush 40, 2) := by decide +kernel
theorem d_X1_settle_10 : decode prog_3_method_39_code 10 = .ok (.if_icmp .ge 40, 3) := by decide +kernel
theorem d_X1_settle_13 : decode prog_3_method_39_code 13 = .ok (.aload_n 0, 1) := by decide +kernel
theorem d_X1_settle_14 : decode prog_3_method_39_code 14 = .ok (.invokevirtual 152, 3) := by decide +kernel
theorem d_X1_settle_17 : decode prog_3_method_39_code 17 = .ok (.ifCond .eq 5, 3) := by decide +kernel
theorem d_X1_settle_20 : decode prog_3_method_39_code 20 = .ok (.iload_n 1, 1) := by decide +kernel
theorem d_X1_settle_21 : decode prog_3_method_39_code 21 = .ok (.ireturn, 1) := by decide +kernel
theorem d_X1_settle_22 : decode prog_3_method_39_code 22 = .ok (.aload_n 0, 1) := by decide +kernel
theorem d_X1_settle_23 : decode prog_3_method_39_code 23 = .ok (.invokevirtual 156, 3) := by decide +kernel
theorem d_X1_settle_26 : decode prog_3_method_39_code 26 = .ok (.aload_n 0, 1) := by decide +kernel
theorem d_X1_settle_27 : decode prog_3_method_39_code 27 = .ok (.invokevirtual 159, 3) := by decide +kernel
theorem d_X1_settle_30 : decode prog_3_method_39_code 30 = .ok (.iand, 1) := by decide +kernel
theorem d_X1_settle_31 : decode prog_3_method_39_code 31 = .ok (.ifCond .eq 13, 3) := by decide +kernel
theorem d_X1_settle_34 : decode prog_3_method_39_code 34 = .ok (.aload_n 0, 1) := by decide +kernel
theorem d_X1_settle_35 : decode prog_3_method_39_code 35 = .ok (.dup, 1) := by decide +kernel
theorem d_X1_settle_36 : decode prog_3_method_39_code 36 = .ok (.getfield 149, 3) := by decide +kernel
theorem d_X1_settle_39 : decode prog_3_method_39_code 39 = .ok (.iconst 1, 1) := by decide +kernel
theorem d_X1_settle_40 : decode prog_3_method_39_code 40 = .ok (.iadd, 1) := by decide +kernel
theorem d_X1_settle_41 : decode prog_3_method_39_code 41 = .ok (.putfield 149, 3) := by decide +kernel
theorem d_X1_settle_44 : decode prog_3_method_39_code 44 = .ok (.iinc 1 1, 3) := by decide +kernel
theorem d_X1_settle_47 : decode prog_3_method_39_code 47 = .ok (.goto (-40), 3) := by decide +kernel
theorem d_X1_settle_50 : decode prog_3_method_39_code 50 = .ok (.aload_n 0, 1) := by decide +kernel
theorem d_X1_settle_51 : decode prog_3_method_39_code 51 = .ok (.invokevirtual 152, 3) := by decide +kernel
theorem d_X1_settle_54 : decode prog_3_method_39_code 54 = .ok (.ifCond .eq 8, 3) := by decide +kernel
theorem d_X1_settle_57 : decode prog_3_method_39_code 57 = .ok (.bipush 40, 2) := by decide +kernel
theorem d_X1_settle_59 : decode prog_3_method_39_code 59 = .ok (.goto 5, 3) := by decide +kernel
theorem d_X1_settle_62 : decode prog_3_method_39_code 62 = .ok (.bipush (-9), 2) := by decide +kernel
theorem d_X1_settle_64 : decode prog_3_method_39_code 64 = .ok (.ireturn, 1) := by decide +kernel
abbrev M_Mesh_settle : zMT := (⟨"PeriodSlots$Mesh", "settle", "()I"⟩, prog_3_method_39_code, 2, (some .int))
theorem k_Mesh_settle : zcall M_Mesh_settle 0 := ⟨zU_in (i := 539) (by decide +kernel) rfl, m56, ⟨by decide, by decide, by decide +kernel⟩, by decide⟩
def o_Mesh_settle (h : zHp) (b : Nat) : Int32 × zHp :=
  (Sum.elim (fun r7_2 => ((if (o_Mesh_isQuiet r7_2 b) = true then 40 else (-9)), r7_2)) (fun q7_2 => q7_2) (zrex (fun (i7_2 : Nat) (s7_2 : zHp) => ((if (o_Mesh_isQuiet s7_2 b) = true then .inr ((nI i7_2), s7_2) else .inl (if (((o_Mesh_advance s7_2 b).1) &&& (o_Mesh_placedSet ((o_Mesh_advance s7_2 b).2) b)) = 0 then ((o_Mesh_advance s7_2 b).2) else (zup ((o_Mesh_advance s7_2 b).2) b 2 ((s7_2 b 2) + 1)))) : (zHp) ⊕ (Int32 × zHp))) (zup h b 2 0) 40))
theorem fr_Mesh_settle {h : zHp} {b : Nat} (c k : Nat) (q0 : ¬ (c = b ∧ k = 1)) (q1 : ¬ (c = b ∧ k = 2)) (q2 : c ≠ b + 3) (q3 : c ≠ b + 4) (q4 : c ≠ b + 7) (q5 : c ≠ b + 8) (q6 : c ≠ b + 9) (q7 : c ≠ b + 10) (q8 : c ≠ b + 11) : (o_Mesh_settle h b).2 c k = h c k := by
  unfold o_Mesh_settle
  have hX := zrex_inv (f := (fun (i7_2 : Nat) (s7_2 : zHp) => ((if (o_Mesh_isQuiet s7_2 b) = true then .inr ((nI i7_2), s7_2) else .inl (if (((o_Mesh_advance s7_2 b).1) &&& (o_Mesh_placedSet ((o_Mesh_advance s7_2 b).2) b)) = 0 then ((o_Mesh_advance s7_2 b).2) else (zup ((o_Mesh_advance s7_2 b).2) b 2 ((s7_2 b 2) + 1)))) : (zHp) ⊕ (Int32 × zHp)))) (a := (zup h b 2 0)) (fun _ s7_2 => ∀ c k : Nat, ¬ (c = b ∧ k = 1) → ¬ (c = b ∧ k = 2) → c ≠ b + 3 → c ≠ b + 4 → c ≠ b + 7 → c ≠ b + 8 → c ≠ b + 9 → c ≠ b + 10 → c ≠ b + 11 → s7_2 c k = (zup h b 2 0) c k) (fun q7_2 => ∀ c k : Nat, ¬ (c = b ∧ k = 1) → ¬ (c = b ∧ k = 2) → c ≠ b + 3 → c ≠ b + 4 → c ≠ b + 7 → c ≠ b + 8 → c ≠ b + 9 → c ≠ b + 10 → c ≠ b + 11 → q7_2.2 c k = (zup h b 2 0) c k) (40) (fun _ _ _ _ _ _ _ _ _ _ _ => rfl) (fun i7_2 s7_2 hi7_2 hI7_2 => ⟨(by intro s2 hs; (try dsimp only at hs); by_cases cc : (o_Mesh_isQuiet s7_2 b) = true; (rw [if_pos cc] at hs; cases hs); (rw [if_neg cc] at hs; cases hs; exact fun c k q0 q1 q2 q3 q4 q5 q6 q7 q8 => (by (try dsimp only); exact (zite_fr (fun _ => ((fr_Mesh_advance _ _ (by assumption) (by assumption) (by assumption) (by assumption) (by assumption) (by assumption) (by assumption) (by assumption)).trans (hI7_2 _ _ (by assumption) (by assumption) (by assumption) (by assumption) (by assumption) (by assumption) (by assumption) (by assumption) (by assumption)))) (fun _ => ((zup_fr (by omega)).trans ((fr_Mesh_advance _ _ (by assumption) (by assumption) (by assumption) (by assumption) (by assumption) (by assumption) (by assumption) (by assumption)).trans (hI7_2 _ _ (by assumption) (by assumption) (by assumption) (by assumption) (by assumption) (by assumption) (by assumption) (by assumption) (by assumption))))))))), (by intro r hs; (try dsimp only at hs); by_cases cc : (o_Mesh_isQuiet s7_2 b) = true; (rw [if_pos cc] at hs; cases hs; exact fun c k q0 q1 q2 q3 q4 q5 q6 q7 q8 => (by (try dsimp only); exact (hI7_2 _ _ (by assumption) (by assumption) (by assumption) (by assumption) (by assumption) (by assumption) (by assumption) (by assumption) (by assumption)))); (rw [if_neg cc] at hs; cases hs))⟩)
  cases hz : (zrex (fun (i7_2 : Nat) (s7_2 : zHp) => ((if (o_Mesh_isQuiet s7_2 b) = true then .inr ((nI i7_2), s7_2) else .inl (if (((o_Mesh_advance s7_2 b).1) &&& (o_Mesh_placedSet ((o_Mesh_advance s7_2 b).2) b)) = 0 then ((o_Mesh_advance s7_2 b).2) else (zup ((o_Mesh_advance s7_2 b).2) b 2 ((s7_2 b 2) + 1)))) : (zHp) ⊕ (Int32 × zHp))) (zup h b 2 0) 40) with
  | inl r7_2 =>
    have hI7_2 := hX.1 r7_2 hz
    simp only [Sum.elim_inl]
    try dsimp only
    first | done | exact ((hI7_2 _ _ (by assumption) (by assumption) (by assumption) (by assumption) (by assumption) (by assumption) (by assumption) (by assumption) (by assumption)).trans (zup_fr (by omega)))
  | inr q7_2 =>
    exact (hX.2 q7_2 hz c k (by assumption) (by assumption) (by assumption) (by assumption) (by assumption) (by assumption) (by assumption) (by assumption) (by assumption)).trans (zup_fr (by omega))
set_option maxHeartbeats 400000 in
set_option maxRecDepth 20000 in
theorem c_Mesh_settle (X : zXT) (h : zHp) (g : zLg) (b : Nat) (hb : b = 3 ∨ b = 15 ∨ b = 27) (hf0 : zfit h b 0 8) : zDi X M_Mesh_settle 4 [zR X b] h g (zI ((o_Mesh_settle h b).1)) ((o_Mesh_settle h b).2) g := by
  have hf0_1 := hf0.1
  refine zDi_of "PeriodSlots$Mesh" prog_3_method_39_code 2 (some .int) rfl (by decide) [zO X b, none] rfl (fun _ q => q) (Nat.le_of_ble_eq_true rfl) ?_
  intro Γ Q C hQ
  refine zr_aload_n C d_X1_settle_0 rfl ?_
  refine zr_iconst C (v := 0) d_X1_settle_1 (by decide) ?_
  refine pf_Mesh_2 C hb m103 d_X1_settle_2 ?_
  refine zr_h (fun h1 eh1 => ?_)
  refine zr_iconst C (v := 0) d_X1_settle_5 (by decide) ?_
  refine zr_istore_n C [zO X b, zI 0] d_X1_settle_6 (Nat.le_of_ble_eq_true rfl) rfl rfl ?_
  refine zforx (f := (fun (i7_2 : Nat) (s7_2 : zHp) => ((if (o_Mesh_isQuiet s7_2 b) = true then .inr ((nI i7_2), s7_2) else .inl (if (((o_Mesh_advance s7_2 b).1) &&& (o_Mesh_placedSet ((o_Mesh_advance s7_2 b).2) b)) = 0 then ((o_Mesh_advance s7_2 b).2) else (zup ((o_Mesh_advance s7_2 b).2) b 2 ((s7_2 b 2) + 1)))) : (zHp) ⊕ (Int32 × zHp)))) (a := h1) (fun i7_2 s7_2 => zV X Γ Q 7 [zO X b, zI (nI i7_2)] [] s7_2 g) (fun _ s7_2 => ∀ c k : Nat, ¬ (c = b ∧ k = 1) → ¬ (c = b ∧ k = 2) → c ≠ b + 3 → c ≠ b + 4 → c ≠ b + 7 → c ≠ b + 8 → c ≠ b + 9 → c ≠ b + 10 → c ≠ b + 11 → s7_2 c k = h1 c k) (40) (fun _ _ _ _ _ _ _ _ _ _ _ => rfl) (fun i7_2 s7_2 hi7_2 hI7_2 => ⟨(by intro s2 hs; (try dsimp only at hs); by_cases cc : (o_Mesh_isQuiet s7_2 b) = true; (rw [if_pos cc] at hs; cases hs); (rw [if_neg cc] at hs; cases hs; exact fun c k q0 q1 q2 q3 q4 q5 q6 q7 q8 => (by (try dsimp only); exact (zite_fr (fun _ => ((fr_Mesh_advance _ _ (by assumption) (by assumption) (by assumption) (by assumption) (by assumption) (by assumption) (by assumption) (by assumption)).trans (hI7_2 _ _ (by assumption) (by assumption) (by assumption) (by assumption) (by assumption) (by assumption) (by assumption) (by assumption) (by assumption)))) (fun _ => ((zup_fr (by omega)).trans ((fr_Mesh_advance _ _ (by assumption) (by assumption) (by assumption) (by assumption) (by assumption) (by assumption) (by assumption) (by assumption)).trans (hI7_2 _ _ (by assumption) (by assumption) (by assumption) (by assumption) (by assumption) (by assumption) (by assumption) (by assumption) (by assumption))))))))), fun hk7_2 hx7_2 => ?_⟩) (fun r7_2 er7_2 hI7_2 => ?_)
  · refine zr_iload_n C d_X1_settle_7 rfl ?_
    refine zr_bipush C (v := 40) d_X1_settle_8 (by decide) ?_
    refine zr_icmp_ge C 50 d_X1_settle_10 (by decide) (fun c => absurd c (zge_noN (B := 40) rfl (by omega) (by omega))) (fun _ => ?_)
    refine zr_aload_n C d_X1_settle_13 rfl ?_
    refine zr_callVi (As := []) (st := []) (c := b) C (c_Mesh_isQuiet X s7_2 g b hb (zfit_fr ((hI7_2 _ _ (by omega) (by omega) (by omega) (by omega) (by omega) (by omega) (by omega) (by omega) (by omega)).trans ((congrFun (congrFun eh1.symm _) _).trans (zup_fr (by omega)))) hf0)) k_Mesh_isQuiet m540 m415 m416 (by omega) (zC_Mesh hb X _ _) rfl rfl (by decide) rfl (Nat.le_of_ble_eq_true rfl) d_X1_settle_14 ?_
    refine zr_ifz_eq C 22 d_X1_settle_17 (by decide) (fun c17 => ?_) (fun c17 => ?_)
    · refine zr_aload_n C d_X1_settle_22 rfl ?_
      refine zr_callVi (As := []) (st := []) (c := b) C (c_Mesh_advance X s7_2 g b hb (zfit_fr ((hI7_2 _ _ (by omega) (by omega) (by omega) (by omega) (by omega) (by omega) (by omega) (by omega) (by omega)).trans ((congrFun (congrFun eh1.symm _) _).trans (zup_fr (by omega)))) hf0)) k_Mesh_advance m541 m466 m467 (by omega) (zC_Mesh hb X _ _) rfl rfl (by decide) rfl (Nat.le_of_ble_eq_true rfl) d_X1_settle_23 ?_
      refine zr_vi (fun y3 ey3 => ?_)
      refine zr_h (fun h4 eh4 => ?_)
      refine zr_aload_n C d_X1_settle_26 rfl ?_
      refine zr_callVi (As := []) (st := [.int y3]) (c := b) C (c_Mesh_placedSet X h4 g b hb (zfit_fr ((congrFun (congrFun eh4.symm _) _).trans ((fr_Mesh_advance _ _ (by omega) (by omega) (by omega) (by omega) (by omega) (by omega) (by omega) (by omega)).trans ((hI7_2 _ _ (by omega) (by omega) (by omega) (by omega) (by omega) (by omega) (by omega) (by omega) (by omega)).trans ((congrFun (congrFun eh1.symm _) _).trans (zup_fr (by omega)))))) hf0)) k_Mesh_placedSet m542 m411 m412 (by omega) (zC_Mesh hb X _ _) rfl rfl (by decide) rfl (Nat.le_of_ble_eq_true rfl) d_X1_settle_27 ?_
      refine zr_iand C d_X1_settle_30 ?_
      suffices hJ31 : ∀ (h6 : zHp), (if (y3 &&& (o_Mesh_placedSet h4 b)) = 0 then h4 else (zup h4 b 2 ((s7_2 b 2) + 1))) = h6 → zV X Γ Q 44 [zO X b, zI (nI i7_2)] [] h6 g by
        refine zr_if_eq C 44 d_X1_settle_31 (by decide) (fun c31 => ?_) (fun c31 => ?_)
        · exact hJ31 h4 (((if_pos c31)))
        · refine zr_aload_n C d_X1_settle_34 rfl ?_
          refine zr_dup C d_X1_settle_35 rfl ?_
          refine gf_Mesh_2 C hb m103 d_X1_settle_36 ?_
          refine zr_top ((congrFun (congrFun eh4.symm _) _).trans (fr_Mesh_advance _ _ (by omega) (by omega) (by omega) (by omega) (by omega) (by omega) (by omega) (by omega))) ?_
          refine zr_iconst C (v := 1) d_X1_settle_39 (by decide) ?_
          refine zr_iadd C d_X1_settle_40 ?_
          refine pf_Mesh_2 C hb m103 d_X1_settle_41 ?_
          refine zr_h (fun h5 eh5 => ?_)
          exact hJ31 h5 (by subst eh5; exact ((if_neg c31)))
      intro h6 eh6
      refine zr_iinc C [zO X b, zI (nI (i7_2 + 1))] (v := (nI (i7_2 + 1))) d_X1_settle_44 rfl (zn_add rfl rfl) (Nat.le_of_ble_eq_true rfl) rfl rfl ?_
      refine zr_goto C 7 d_X1_settle_47 (by decide) ?_
      exact hk7_2 h6 (by subst eh6 eh4 ey3; exact ((if_neg (zbf c17))))
    · refine zr_iload_n C d_X1_settle_20 rfl ?_
      have hr7_2 := hx7_2 (((nI i7_2), s7_2)) (((if_pos c17)))
      have eR : o_Mesh_settle h b = ((nI i7_2), s7_2) := (by subst eh1; unfold o_Mesh_settle; exact ((congrArg (Sum.elim _ _) hr7_2)))
      subst hQ
      exact zTQ_Ih eR (zr_ireti C d_X1_settle_21)
  refine zr_iload_n C d_X1_settle_7 rfl ?_
  refine zr_bipush C (v := 40) d_X1_settle_8 (by decide) ?_
  refine zr_icmp_ge C 50 d_X1_settle_10 (by decide) (fun _ => ?_) (fun c => absurd (zge_yesN (B := 40) rfl (by omega) (by omega)) c)
  refine zr_aload_n C d_X1_settle_50 rfl ?_
  refine zr_callVi (As := []) (st := []) (c := b) C (c_Mesh_isQuiet X r7_2 g b hb (zfit_fr ((hI7_2 _ _ (by omega) (by omega) (by omega) (by omega) (by omega) (by omega) (by omega) (by omega) (by omega)).trans ((congrFun (congrFun eh1.symm _) _).trans (zup_fr (by omega)))) hf0)) k_Mesh_isQuiet m540 m415 m416 (by omega) (zC_Mesh hb X _ _) rfl rfl (by decide) rfl (Nat.le_of_ble_eq_true rfl) d_X1_settle_51 ?_
  suffices hJ54 : ∀ (y7 : Int32), (if (o_Mesh_isQuiet r7_2 b) = true then 40 else (-9)) = y7 → zV X Γ Q 64 [none, none] [.int y7] r7_2 g by
    refine zr_ifz_eq C 62 d_X1_settle_54 (by decide) (fun c54 => ?_) (fun c54 => ?_)
    · refine zr_bipush C (v := (-9)) d_X1_settle_62 (by decide) ?_
      refine zr_lv [none, none] (by simp [zle]) ?_
      exact hJ54 (-9) (((if_neg (zbf c54))))
    · refine zr_bipush C (v := 40) d_X1_settle_57 (by decide) ?_
      refine zr_goto C 64 d_X1_settle_59 (by decide) ?_
      refine zr_lv [none, none] (by simp [zle]) ?_
      exact hJ54 40 (((if_pos c54)))
  intro y7 ey7
  have eR : o_Mesh_settle h b = (y7, r7_2) := (by subst ey7 eh1; unfold o_Mesh_settle; exact ((congrArg (Sum.elim _ _) er7_2)))
  subst hQ
  exact zTQ_Ih eR (zr_ireti C d_X1_settle_64)
theorem d_X1_neighboursAt_0 : decode prog_3_method_40_code 0 = .ok (.iconst 0, 1) := by decide +kernel
theorem d_X1_neighboursAt_1 : decode prog_3_method_40_code 1 = .ok (.istore_n 3, 1) := by decide +kernel
theorem d_X1_neighboursAt_2 : decode prog_3_method_40_code 2 = .ok (.iconst 0, 1) := by decide +kernel
theorem d_X1_neighboursAt_3 : decode prog_3_method_40_code 3 = .ok (.istore 4, 2) := by decide +kernel
theorem d_X1_neighboursAt_5 : decode prog_3_method_40_code 5 = .ok (.iload 4, 2) := by decide +kernel
theorem d_X1_neighboursAt_7 : decode prog_3_method_40_code 7 = .ok (.aload_n 0, 1) := by decide +kernel
theorem d_X1_neighboursAt_8 : decode prog_3_method_40_code 8 = .ok (.getfield 45, 3) := by decide +kernel
theorem d_X1_neighboursAt_11 : decode prog_3_method_40_code 11 = .ok (.if_icmp .ge 44, 3) := by decide +kernel
theorem d_X1_neighboursAt_14 : decode prog_3_method_40_code 14 = .ok (.aload_n 0, 1) := by decide +kernel
theorem d_X1_neighboursAt_15 : decode prog_3_method_40_code 15 = .ok (.getfield 15, 3) := by decide +kernel
theorem d_X1_neighboursAt_18 : decode prog_3_method_40_code 18 = .ok (.iload_n 1, 1) := by decide +kernel
theorem d_X1_neighboursAt_19 : decode prog_3_method_40_code 19 = .ok (.iaload, 1) := by decide +kernel
theorem d_X1_neighboursAt_20 : decode prog_3_method_40_code 20 = .ok (.iload 4, 2) := by decide +kernel
theorem d_X1_neighboursAt_22 : decode prog_3_method_40_code 22 = .ok (.invokestatic 89, 3) := by decide +kernel
theorem d_X1_neighboursAt_25 : decode prog_3_method_40_code 25 = .ok (.ifCond .eq 24, 3) := by decide +kernel
theorem d_X1_neighboursAt_28 : decode prog_3_method_40_code 28 = .ok (.aload_n 0, 1) := by decide +kernel
theorem d_X1_neighboursAt_29 : decode prog_3_method_40_code 29 = .ok (.getfield 36, 3) := by decide +kernel
theorem d_X1_neighboursAt_32 : decode prog_3_method_40_code 32 = .ok (.iload 4, 2) := by decide +kernel
theorem d_X1_neighboursAt_34 : decode prog_3_method_40_code 34 = .ok (.iaload, 1) := by decide +kernel
theorem d_X1_neighboursAt_35 : decode prog_3_method_40_code 35 = .ok (.iload_n 2, 1) := by decide +kernel
theorem d_X1_neighboursAt_36 : decode prog_3_method_40_code 36 = .ok (.invokestatic 89, 3) := by decide +kernel
theorem d_X1_neighboursAt_39 : decode prog_3_method_40_code 39 = .ok (.ifCond .eq 10, 3) := by decide +kernel
theorem d_X1_neighboursAt_42 : decode prog_3_method_40_code 42 = .ok (.iload_n 3, 1) := by decide +kernel
theorem d_X1_neighboursAt_43 : decode prog_3_method_40_code 43 = .ok (.iconst 1, 1) := by decide +kernel
theorem d_X1_neighboursAt_44 : decode prog_3_method_40_code 44 = .ok (.iload 4, 2) := by decide +kernel
theorem d_X1_neighboursAt_46 : decode prog_3_method_40_code 46 = .ok (.ishl, 1) := by decide +kernel
theorem d_X1_neighboursAt_47 : decode prog_3_method_40_code 47 = .ok (.ior, 1) := by decide +kernel
theorem d_X1_neighboursAt_48 : decode prog_3_method_40_code 48 = .ok (.istore_n 3, 1) := by decide +kernel
theorem d_X1_neighboursAt_49 : decode prog_3_method_40_code 49 = .ok (.iinc 4 1, 3) := by decide +kernel
theorem d_X1_neighboursAt_52 : decode prog_3_method_40_code 52 = .ok (.goto (-47), 3) := by decide +kernel
theorem d_X1_neighboursAt_55 : decode prog_3_method_40_code 55 = .ok (.iload_n 3, 1) := by decide +kernel
theorem d_X1_neighboursAt_56 : decode prog_3_method_40_code 56 = .ok (.ireturn, 1) := by decide +kernel
abbrev M_Mesh_neighboursAt : zMT := (⟨"PeriodSlots$Mesh", "neighboursAt", "(II)I"⟩, prog_3_method_40_code, 5, (some .int))
theorem k_Mesh_neighboursAt : zcall M_Mesh_neighboursAt 2 := ⟨zU_in (i := 622) (by decide +kernel) rfl, m56, ⟨by decide, by decide, by decide +kernel⟩, by decide⟩
def o_Mesh_neighboursAt (h : zHp) (b : Nat) (v : Nat) (tick : Int32) : Int32 :=
  (zrep (fun (i5_1 : Nat) (s5_1 : Int32) => (if (o_Slots_has (h (b + 2) v) (nI i5_1)) = true then (if (o_Slots_has (h (b + 9) i5_1) tick) = true then (s5_1 ||| (zshl 1 (nI i5_1))) else s5_1) else s5_1)) 0 (zcn (h b 0)))
theorem rd_Mesh_neighboursAt {h h2 : zHp} {b : Nat} {v : Nat} {tick : Int32} (e0 : h2 (b + 2) = h (b + 2)) (e1 : h2 (b + 9) = h (b + 9)) (e2 : h2 b 0 = h b 0) : o_Mesh_neighboursAt h2 b v tick = o_Mesh_neighboursAt h b v tick := by
  unfold o_Mesh_neighboursAt
  simp only [e0, e1, e2]

set_option maxHeartbeats 400000 in
set_option maxRecDepth 20000 in
theorem c_Mesh_neighboursAt (X : zXT) (h : zHp) (g : zLg) (b : Nat) (v : Nat) (tick : Int32) {x_v : Int32} (e_v : x_v = nI v) (hb : b = 3 ∨ b = 15 ∨ b = 27) (hf0 : zfit h b 0 8) (hl1 : v < 8) : zDi X M_Mesh_neighboursAt 1 [zR X b, .int x_v, .int tick] h g (zI (o_Mesh_neighboursAt h b v tick)) h g := by
  subst e_v
  have hf0_1 := hf0.1
  refine zDi_of "PeriodSlots$Mesh" prog_3_method_40_code 5 (some .int) rfl (by decide) [zO X b, zI (nI v), zI tick, none, none] rfl (fun _ q => q) (Nat.le_of_ble_eq_true rfl) ?_
  intro Γ Q C hQ
  refine zr_iconst C (v := 0) d_X1_neighboursAt_0 (by decide) ?_
  refine zr_istore_n C [zO X b, zI (nI v), zI tick, zI 0, none] d_X1_neighboursAt_1 (Nat.le_of_ble_eq_true rfl) rfl rfl ?_
  refine zr_iconst C (v := 0) d_X1_neighboursAt_2 (by decide) ?_
  refine zr_istore C [zO X b, zI (nI v), zI tick, zI 0, zI 0] d_X1_neighboursAt_3 (Nat.le_of_ble_eq_true rfl) rfl rfl ?_
  refine zfor (f := (fun (i5_1 : Nat) (s5_1 : Int32) => (if (o_Slots_has (h (b + 2) v) (nI i5_1)) = true then (if (o_Slots_has (h (b + 9) i5_1) tick) = true then (s5_1 ||| (zshl 1 (nI i5_1))) else s5_1) else s5_1))) (a := 0) (fun i5_1 s5_1 => zV X Γ Q 5 [zO X b, zI (nI v), zI tick, zI s5_1, zI (nI i5_1)] [] h g) (fun _ _ => True) (zcn (h b 0)) trivial (fun i5_1 s5_1 hi5_1 hI5_1 => ⟨trivial, fun hk5_1 => ?_⟩) (fun r5_1 er5_1 hI5_1 => ?_)
  · refine zr_iload C d_X1_neighboursAt_5 rfl ?_
    refine zr_aload_n C d_X1_neighboursAt_7 rfl ?_
    refine gf_Mesh_0 C hb m95 d_X1_neighboursAt_8 ?_
    refine zr_icmp_ge C 55 d_X1_neighboursAt_11 (by decide) (fun c => absurd c (zge_no rfl (by omega))) (fun _ => ?_)
    refine zr_aload_n C d_X1_neighboursAt_14 rfl ?_
    refine gf_Mesh_4 C hb m107 d_X1_neighboursAt_15 ?_
    refine zr_iload_n C d_X1_neighboursAt_18 rfl ?_
    refine zr_iald C (za_mesh_2 hb) (v) rfl (by omega) (by decide) d_X1_neighboursAt_19 ?_
    refine zr_iload C d_X1_neighboursAt_20 rfl ?_
    refine zr_callNi (As := [.int (h (b + 2) v), .int (nI i5_1)]) (st := []) C (c_Slots_has X h g (h (b + 2) v) (nI i5_1)) k_Slots_has (by simp [zNest]) m322 rfl (by decide) rfl (Nat.le_of_ble_eq_true rfl) d_X1_neighboursAt_22 ?_
    suffices hJ25 : ∀ (y2 : Int32), (if (o_Slots_has (h (b + 2) v) (nI i5_1)) = true then (if (o_Slots_has (h (b + 9) i5_1) tick) = true then (s5_1 ||| (zshl 1 (nI i5_1))) else s5_1) else s5_1) = y2 → zV X Γ Q 49 [zO X b, zI (nI v), zI tick, zI y2, zI (nI i5_1)] [] h g by
      refine zr_ifz_eq C 49 d_X1_neighboursAt_25 (by decide) (fun c25 => ?_) (fun c25 => ?_)
      · exact hJ25 s5_1 (((if_neg (zbf c25))))
      · refine zr_aload_n C d_X1_neighboursAt_28 rfl ?_
        refine gf_Mesh_11 C hb m124 d_X1_neighboursAt_29 ?_
        refine zr_iload C d_X1_neighboursAt_32 rfl ?_
        refine zr_iald C (za_mesh_9 hb) (i5_1) rfl (by omega) (by decide) d_X1_neighboursAt_34 ?_
        refine zr_iload_n C d_X1_neighboursAt_35 rfl ?_
        refine zr_callNi (As := [.int (h (b + 9) i5_1), .int tick]) (st := []) C (c_Slots_has X h g (h (b + 9) i5_1) tick) k_Slots_has (by simp [zNest]) m322 rfl (by decide) rfl (Nat.le_of_ble_eq_true rfl) d_X1_neighboursAt_36 ?_
        refine zr_ifz_eq C 49 d_X1_neighboursAt_39 (by decide) (fun c39 => ?_) (fun c39 => ?_)
        · exact hJ25 s5_1 (((if_pos c25).trans ((if_neg (zbf c39)))))
        · refine zr_iload_n C d_X1_neighboursAt_42 rfl ?_
          refine zr_iconst C (v := 1) d_X1_neighboursAt_43 (by decide) ?_
          refine zr_iload C d_X1_neighboursAt_44 rfl ?_
          refine zr_ishl C d_X1_neighboursAt_46 ?_
          refine zr_ior C d_X1_neighboursAt_47 ?_
          refine zr_istore_n C [zO X b, zI (nI v), zI tick, zI (s5_1 ||| (zshl 1 (nI i5_1))), zI (nI i5_1)] d_X1_neighboursAt_48 (Nat.le_of_ble_eq_true rfl) rfl rfl ?_
          exact hJ25 (s5_1 ||| (zshl 1 (nI i5_1))) (((if_pos c25).trans ((if_pos c39))))
    intro y2 ey2
    refine zr_iinc C [zO X b, zI (nI v), zI tick, zI y2, zI (nI (i5_1 + 1))] (v := (nI (i5_1 + 1))) d_X1_neighboursAt_49 rfl (zn_add rfl rfl) (Nat.le_of_ble_eq_true rfl) rfl rfl ?_
    refine zr_goto C 5 d_X1_neighboursAt_52 (by decide) ?_
    exact hk5_1 y2 (by subst ey2; exact rfl)
  refine zr_iload C d_X1_neighboursAt_5 rfl ?_
  refine zr_aload_n C d_X1_neighboursAt_7 rfl ?_
  refine gf_Mesh_0 C hb m95 d_X1_neighboursAt_8 ?_
  refine zr_icmp_ge C 55 d_X1_neighboursAt_11 (by decide) (fun _ => ?_) (fun c => absurd (zge_yes rfl (by omega) (by have := zcn_small (h b 0); omega)) c)
  refine zr_iload_n C d_X1_neighboursAt_55 rfl ?_
  have eR : o_Mesh_neighboursAt h b v tick = r5_1 := (by subst er5_1; unfold o_Mesh_neighboursAt; exact rfl)
  subst hQ
  rw [eR]
  exact zr_ireti C d_X1_neighboursAt_56
theorem d_X1_heardBy_0 : decode prog_3_method_41_code 0 = .ok (.aload_n 0, 1) := by decide +kernel
theorem d_X1_heardBy_1 : decode prog_3_method_41_code 1 = .ok (.iload_n 1, 1) := by decide +kernel
theorem d_X1_heardBy_2 : decode prog_3_method_41_code 2 = .ok (.iload_n 2, 1) := by decide +kernel
theorem d_X1_heardBy_3 : decode prog_3_method_41_code 3 = .ok (.invokevirtual 162, 3) := by decide +kernel
theorem d_X1_heardBy_6 : decode prog_3_method_41_code 6 = .ok (.istore_n 3, 1) := by decide +kernel
theorem d_X1_heardBy_7 : decode prog_3_method_41_code 7 = .ok (.aload_n 0, 1) := by decide +kernel
theorem d_X1_heardBy_8 : decode prog_3_method_41_code 8 = .ok (.getfield 36, 3) := by decide +kernel
theorem d_X1_heardBy_11 : decode prog_3_method_41_code 11 = .ok (.iload_n 1, 1) := by decide +kernel
theorem d_X1_heardBy_12 : decode prog_3_method_41_code 12 = .ok (.iaload, 1) := by decide +kernel
theorem d_X1_heardBy_13 : decode prog_3_method_41_code 13 = .ok (.iload_n 2, 1) := by decide +kernel
theorem d_X1_heardBy_14 : decode prog_3_method_41_code 14 = .ok (.invokestatic 89, 3) := by decide +kernel
theorem d_X1_heardBy_17 : decode prog_3_method_41_code 17 = .ok (.ifCond .ne 11, 3) := by decide +kernel
theorem d_X1_heardBy_20 : decode prog_3_method_41_code 20 = .ok (.iload_n 3, 1) := by decide +kernel
theorem d_X1_heardBy_21 : decode prog_3_method_41_code 21 = .ok (.invokestatic 76, 3) := by decide +kernel
theorem d_X1_heardBy_24 : decode prog_3_method_41_code 24 = .ok (.iconst 1, 1) := by decide +kernel
theorem d_X1_heardBy_25 : decode prog_3_method_41_code 25 = .ok (.if_icmp .eq 7, 3) := by decide +kernel
theorem d_X1_heardBy_28 : decode prog_3_method_41_code 28 = .ok (.iconst 0, 1) := by decide +kernel
theorem d_X1_heardBy_29 : decode prog_3_method_41_code 29 = .ok (.goto 4, 3) := by decide +kernel
theorem d_X1_heardBy_32 : decode prog_3_method_41_code 32 = .ok (.iload_n 3, 1) := by decide +kernel
theorem d_X1_heardBy_33 : decode prog_3_method_41_code 33 = .ok (.ireturn, 1) := by decide +kernel
abbrev M_Mesh_heardBy : zMT := (⟨"PeriodSlots$Mesh", "heardBy", "(II)I"⟩, prog_3_method_41_code, 4, (some .int))
theorem k_Mesh_heardBy : zcall M_Mesh_heardBy 2 := ⟨zU_in (i := 618) (by decide +kernel) rfl, m56, ⟨by decide, by decide, by decide +kernel⟩, by decide⟩
def o_Mesh_heardBy (h : zHp) (b : Nat) (v : Nat) (tick : Int32) : Int32 :=
  (if (o_Slots_has (h (b + 9) v) tick) = true then 0 else (if (o_Int_bitCount (o_Mesh_neighboursAt h b v tick)) = 1 then (o_Mesh_neighboursAt h b v tick) else 0))
theorem rd_Mesh_heardBy {h h2 : zHp} {b : Nat} {v : Nat} {tick : Int32} (e0 : h2 (b + 2) = h (b + 2)) (e1 : h2 (b + 9) = h (b + 9)) (e2 : h2 b 0 = h b 0) : o_Mesh_heardBy h2 b v tick = o_Mesh_heardBy h b v tick := by
  unfold o_Mesh_heardBy
  simp only [e0, e1, e2, rd_Mesh_neighboursAt e0 e1 e2]

set_option maxHeartbeats 400000 in
set_option maxRecDepth 20000 in
theorem c_Mesh_heardBy (X : zXT) (h : zHp) (g : zLg) (b : Nat) (v : Nat) (tick : Int32) {x_v : Int32} (e_v : x_v = nI v) (hb : b = 3 ∨ b = 15 ∨ b = 27) (hf0 : zfit h b 0 8) (hl1 : v < 8) : zDi X M_Mesh_heardBy 2 [zR X b, .int x_v, .int tick] h g (zI (o_Mesh_heardBy h b v tick)) h g := by
  subst e_v
  have hf0_1 := hf0.1
  refine zDi_of "PeriodSlots$Mesh" prog_3_method_41_code 4 (some .int) rfl (by decide) [zO X b, zI (nI v), zI tick, none] rfl (fun _ q => q) (Nat.le_of_ble_eq_true rfl) ?_
  intro Γ Q C hQ
  refine zr_aload_n C d_X1_heardBy_0 rfl ?_
  refine zr_iload_n C d_X1_heardBy_1 rfl ?_
  refine zr_iload_n C d_X1_heardBy_2 rfl ?_
  refine zr_callVi (As := [.int (nI v), .int tick]) (st := []) (c := b) C (c_Mesh_neighboursAt X h g b v tick rfl hb hf0 (by omega)) k_Mesh_neighboursAt m619 m620 m621 (by omega) (zC_Mesh hb X _ _) rfl rfl (by decide) rfl (Nat.le_of_ble_eq_true rfl) d_X1_heardBy_3 ?_
  refine zr_istore_n C [zO X b, zI (nI v), zI tick, zI (o_Mesh_neighboursAt h b v tick)] d_X1_heardBy_6 (Nat.le_of_ble_eq_true rfl) rfl rfl ?_
  refine zr_aload_n C d_X1_heardBy_7 rfl ?_
  refine gf_Mesh_11 C hb m124 d_X1_heardBy_8 ?_
  refine zr_iload_n C d_X1_heardBy_11 rfl ?_
  refine zr_iald C (za_mesh_9 hb) (v) rfl (by omega) (by decide) d_X1_heardBy_12 ?_
  refine zr_iload_n C d_X1_heardBy_13 rfl ?_
  refine zr_callNi (As := [.int (h (b + 9) v), .int tick]) (st := []) C (c_Slots_has X h g (h (b + 9) v) tick) k_Slots_has (by simp [zNest]) m322 rfl (by decide) rfl (Nat.le_of_ble_eq_true rfl) d_X1_heardBy_14 ?_
  suffices hJ17 : ∀ (y1 : Int32), (if (o_Slots_has (h (b + 9) v) tick) = true then 0 else (if (o_Int_bitCount (o_Mesh_neighboursAt h b v tick)) = 1 then (o_Mesh_neighboursAt h b v tick) else 0)) = y1 → zV X Γ Q 33 [none, none, none, none] [.int y1] h g by
    refine zr_ifz_ne C 28 d_X1_heardBy_17 (by decide) (fun c17 => ?_) (fun c17 => ?_)
    · refine zr_iconst C (v := 0) d_X1_heardBy_28 (by decide) ?_
      refine zr_goto C 33 d_X1_heardBy_29 (by decide) ?_
      refine zr_lv [none, none, none, none] (by simp [zle]) ?_
      exact hJ17 0 (((if_pos c17)))
    · refine zr_iload_n C d_X1_heardBy_20 rfl ?_
      refine zr_callSi (As := [.int (o_Mesh_neighboursAt h b v tick)]) (st := []) C (c_Int_bitCount X h g (o_Mesh_neighboursAt h b v tick)) k_Int_bitCount m348 m349 rfl (by decide) rfl (Nat.le_of_ble_eq_true rfl) d_X1_heardBy_21 ?_
      refine zr_iconst C (v := 1) d_X1_heardBy_24 (by decide) ?_
      refine zr_icmp_eq C 32 d_X1_heardBy_25 (by decide) (fun c25 => ?_) (fun c25 => ?_)
      · refine zr_iload_n C d_X1_heardBy_32 rfl ?_
        refine zr_lv [none, none, none, none] (by simp [zle]) ?_
        exact hJ17 (o_Mesh_neighboursAt h b v tick) (((if_neg (zbf c17)).trans ((if_pos c25))))
      · refine zr_iconst C (v := 0) d_X1_heardBy_28 (by decide) ?_
        refine zr_goto C 33 d_X1_heardBy_29 (by decide) ?_
        refine zr_lv [none, none, none, none] (by simp [zle]) ?_
        exact hJ17 0 (((if_neg (zbf c17)).trans ((if_neg c25))))
  intro y1 ey1
  have eR : o_Mesh_heardBy h b v tick = y1 := (by subst ey1; unfold o_Mesh_heardBy; exact rfl)
  subst hQ
  rw [eR]
  exact zr_ireti C d_X1_heardBy_33
theorem d_X1_hearersOf_0 : decode prog_3_method_42_code 0 = .ok (.iconst 0, 1) := by decide +kernel
theorem d_X1_hearersOf_1 : decode prog_3_method_42_code 1 = .ok (.istore_n 3, 1) := by decide +kernel
theorem d_X1_hearersOf_2 : decode prog_3_method_42_code 2 = .ok (.iconst 0, 1) := by decide +kernel
theorem d_X1_hearersOf_3 : decode prog_3_method_42_code 3 = .ok (.istore 4, 2) := by decide +kernel
theorem d_X1_hearersOf_5 : decode prog_3_method_42_code 5 = .ok (.iload 4, 2) := by decide +kernel
theorem d_X1_hearersOf_7 : decode prog_3_method_42_code 7 = .ok (.aload_n 0, 1) := by decide +kernel
theorem d_X1_hearersOf_8 : decode prog_3_method_42_code 8 = .ok (.getfield 45, 3) := by decide +kernel
theorem d_X1_hearersOf_11 : decode prog_3_method_42_code 11 = .ok (.if_icmp .ge 28, 3) := by decide +kernel
theorem d_X1_hearersOf_14 : decode prog_3_method_42_code 14 = .ok (.aload_n 0, 1) := by decide +kernel
theorem d_X1_hearersOf_15 : decode prog_3_method_42_code 15 = .ok (.iload 4, 2) := by decide +kernel
theorem d_X1_hearersOf_17 : decode prog_3_method_42_code 17 = .ok (.iload_n 2, 1) := by decide +kernel
theorem d_X1_hearersOf_18 : decode prog_3_method_42_code 18 = .ok (.invokevirtual 165, 3) := by decide +kernel
theorem d_X1_hearersOf_21 : decode prog_3_method_42_code 21 = .ok (.iload_n 1, 1) := by decide +kernel
theorem d_X1_hearersOf_22 : decode prog_3_method_42_code 22 = .ok (.iand, 1) := by decide +kernel
theorem d_X1_hearersOf_23 : decode prog_3_method_42_code 23 = .ok (.ifCond .eq 10, 3) := by decide +kernel
theorem d_X1_hearersOf_26 : decode prog_3_method_42_code 26 = .ok (.iload_n 3, 1) := by decide +kernel
theorem d_X1_hearersOf_27 : decode prog_3_method_42_code 27 = .ok (.iconst 1, 1) := by decide +kernel
theorem d_X1_hearersOf_28 : decode prog_3_method_42_code 28 = .ok (.iload 4, 2) := by decide +kernel
theorem d_X1_hearersOf_30 : decode prog_3_method_42_code 30 = .ok (.ishl, 1) := by decide +kernel
theorem d_X1_hearersOf_31 : decode prog_3_method_42_code 31 = .ok (.ior, 1) := by decide +kernel
theorem d_X1_hearersOf_32 : decode prog_3_method_42_code 32 = .ok (.istore_n 3, 1) := by decide +kernel
theorem d_X1_hearersOf_33 : decode prog_3_method_42_code 33 = .ok (.iinc 4 1, 3) := by decide +kernel
theorem d_X1_hearersOf_36 : decode prog_3_method_42_code 36 = .ok (.goto (-31), 3) := by decide +kernel
theorem d_X1_hearersOf_39 : decode prog_3_method_42_code 39 = .ok (.iload_n 3, 1) := by decide +kernel
theorem d_X1_hearersOf_40 : decode prog_3_method_42_code 40 = .ok (.ireturn, 1) := by decide +kernel
abbrev M_Mesh_hearersOf : zMT := (⟨"PeriodSlots$Mesh", "hearersOf", "(II)I"⟩, prog_3_method_42_code, 5, (some .int))
theorem k_Mesh_hearersOf : zcall M_Mesh_hearersOf 2 := ⟨zU_in (i := 630) (by decide +kernel) rfl, m56, ⟨by decide, by decide, by decide +kernel⟩, by decide⟩
def o_Mesh_hearersOf (h : zHp) (b : Nat) (senders : Int32) (tick : Int32) : Int32 :=
  (zrep (fun (i5_1 : Nat) (s5_1 : Int32) => (if ((o_Mesh_heardBy h b i5_1 tick) &&& senders) = 0 then s5_1 else (s5_1 ||| (zshl 1 (nI i5_1))))) 0 (zcn (h b 0)))
theorem rd_Mesh_hearersOf {h h2 : zHp} {b : Nat} {senders : Int32} {tick : Int32} (e0 : h2 (b + 2) = h (b + 2)) (e1 : h2 (b + 9) = h (b + 9)) (e2 : h2 b 0 = h b 0) : o_Mesh_hearersOf h2 b senders tick = o_Mesh_hearersOf h b senders tick := by
  unfold o_Mesh_hearersOf
  simp only [e0, e1, e2, rd_Mesh_heardBy e0 e1 e2]

set_option maxHeartbeats 400000 in
set_option maxRecDepth 20000 in
theorem c_Mesh_hearersOf (X : zXT) (h : zHp) (g : zLg) (b : Nat) (senders : Int32) (tick : Int32) (hb : b = 3 ∨ b = 15 ∨ b = 27) (hf0 : zfit h b 0 8) : zDi X M_Mesh_hearersOf 3 [zR X b, .int senders, .int tick] h g (zI (o_Mesh_hearersOf h b senders tick)) h g := by
  have hf0_1 := hf0.1
  refine zDi_of "PeriodSlots$Mesh" prog_3_method_42_code 5 (some .int) rfl (by decide) [zO X b, zI senders, zI tick, none, none] rfl (fun _ q => q) (Nat.le_of_ble_eq_true rfl) ?_
  intro Γ Q C hQ
  refine zr_iconst C (v := 0) d_X1_hearersOf_0 (by decide) ?_
  refine zr_istore_n C [zO X b, zI senders, zI tick, zI 0, none] d_X1_hearersOf_1 (Nat.le_of_ble_eq_true rfl) rfl rfl ?_
  refine zr_iconst C (v := 0) d_X1_hearersOf_2 (by decide) ?_
  refine zr_istore C [zO X b, zI senders, zI tick, zI 0, zI 0] d_X1_hearersOf_3 (Nat.le_of_ble_eq_true rfl) rfl rfl ?_
  refine zfor (f := (fun (i5_1 : Nat) (s5_1 : Int32) => (if ((o_Mesh_heardBy h b i5_1 tick) &&& senders) = 0 then s5_1 else (s5_1 ||| (zshl 1 (nI i5_1)))))) (a := 0) (fun i5_1 s5_1 => zV X Γ Q 5 [zO X b, zI senders, zI tick, zI s5_1, zI (nI i5_1)] [] h g) (fun _ _ => True) (zcn (h b 0)) trivial (fun i5_1 s5_1 hi5_1 hI5_1 => ⟨trivial, fun hk5_1 => ?_⟩) (fun r5_1 er5_1 hI5_1 => ?_)
  · refine zr_iload C d_X1_hearersOf_5 rfl ?_
    refine zr_aload_n C d_X1_hearersOf_7 rfl ?_
    refine gf_Mesh_0 C hb m95 d_X1_hearersOf_8 ?_
    refine zr_icmp_ge C 39 d_X1_hearersOf_11 (by decide) (fun c => absurd c (zge_no rfl (by omega))) (fun _ => ?_)
    refine zr_aload_n C d_X1_hearersOf_14 rfl ?_
    refine zr_iload C d_X1_hearersOf_15 rfl ?_
    refine zr_iload_n C d_X1_hearersOf_17 rfl ?_
    refine zr_callVi (As := [.int (nI i5_1), .int tick]) (st := []) (c := b) C (c_Mesh_heardBy X h g b i5_1 tick rfl hb hf0 (by omega)) k_Mesh_heardBy m615 m617 m11 (by omega) (zC_Mesh hb X _ _) rfl rfl (by decide) rfl (Nat.le_of_ble_eq_true rfl) d_X1_hearersOf_18 ?_
    refine zr_iload_n C d_X1_hearersOf_21 rfl ?_
    refine zr_iand C d_X1_hearersOf_22 ?_
    suffices hJ23 : ∀ (y2 : Int32), (if ((o_Mesh_heardBy h b i5_1 tick) &&& senders) = 0 then s5_1 else (s5_1 ||| (zshl 1 (nI i5_1)))) = y2 → zV X Γ Q 33 [zO X b, zI senders, zI tick, zI y2, zI (nI i5_1)] [] h g by
      refine zr_if_eq C 33 d_X1_hearersOf_23 (by decide) (fun c23 => ?_) (fun c23 => ?_)
      · exact hJ23 s5_1 (((if_pos c23)))
      · refine zr_iload_n C d_X1_hearersOf_26 rfl ?_
        refine zr_iconst C (v := 1) d_X1_hearersOf_27 (by decide) ?_
        refine zr_iload C d_X1_hearersOf_28 rfl ?_
        refine zr_ishl C d_X1_hearersOf_30 ?_
        refine zr_ior C d_X1_hearersOf_31 ?_
        refine zr_istore_n C [zO X b, zI senders, zI tick, zI (s5_1 ||| (zshl 1 (nI i5_1))), zI (nI i5_1)] d_X1_hearersOf_32 (Nat.le_of_ble_eq_true rfl) rfl rfl ?_
        exact hJ23 (s5_1 ||| (zshl 1 (nI i5_1))) (((if_neg c23)))
    intro y2 ey2
    refine zr_iinc C [zO X b, zI senders, zI tick, zI y2, zI (nI (i5_1 + 1))] (v := (nI (i5_1 + 1))) d_X1_hearersOf_33 rfl (zn_add rfl rfl) (Nat.le_of_ble_eq_true rfl) rfl rfl ?_
    refine zr_goto C 5 d_X1_hearersOf_36 (by decide) ?_
    exact hk5_1 y2 (by subst ey2; exact rfl)
  refine zr_iload C d_X1_hearersOf_5 rfl ?_
  refine zr_aload_n C d_X1_hearersOf_7 rfl ?_
  refine gf_Mesh_0 C hb m95 d_X1_hearersOf_8 ?_
  refine zr_icmp_ge C 39 d_X1_hearersOf_11 (by decide) (fun _ => ?_) (fun c => absurd (zge_yes rfl (by omega) (by have := zcn_small (h b 0); omega)) c)
  refine zr_iload_n C d_X1_hearersOf_39 rfl ?_
  have eR : o_Mesh_hearersOf h b senders tick = r5_1 := (by subst er5_1; unfold o_Mesh_hearersOf; exact rfl)
  subst hQ
  rw [eR]
  exact zr_ireti C d_X1_hearersOf_40
theorem d_X1_hearingTicks_0 : decode prog_3_method_43_code 0 = .ok (.iconst 0, 1) := by decide +kernel
theorem d_X1_hearingTicks_1 : decode prog_3_method_43_code 1 = .ok (.istore_n 2, 1) := by decide +kernel
theorem d_X1_hearingTicks_2 : decode prog_3_method_43_code 2 = .ok (.iconst 0, 1) := by decide +kernel
theorem d_X1_hearingTicks_3 : decode prog_3_method_43_code 3 = .ok (.istore_n 3, 1) := by decide +kernel
theorem d_X1_hearingTicks_4 : decode prog_3_method_43_code 4 = .ok (.iload_n 3, 1) := by decide +kernel
theorem d_X1_hearingTicks_5 : decode prog_3_method_43_code 5 = .ok (.bipush 8, 2) := by decide +kernel
theorem d_X1_hearingTicks_7 : decode prog_3_method_43_code 7 = .ok (.if_icmp .ge 24, 3) := by decide +kernel
theorem d_X1_hearingTicks_10 : decode prog_3_method_43_code 10 = .ok (.aload_n 0, 1) := by decide +kernel
theorem d_X1_hearingTicks_11 : decode prog_3_method_43_code 11 = .ok (.iload_n 1, 1) := by decide +kernel
theorem d_X1_hearingTicks_12 : decode prog_3_method_43_code 12 = .ok (.iload_n 3, 1) := by decide +kernel
theorem d_X1_hearingTicks_13 : decode prog_3_method_43_code 13 = .ok (.invokevirtual 165, 3) := by decide +kernel
theorem d_X1_hearingTicks_16 : decode prog_3_method_43_code 16 = .ok (.ifCond .eq 9, 3) := by decide +kernel
theorem d_X1_hearingTicks_19 : decode prog_3_method_43_code 19 = .ok (.iload_n 2, 1) := by decide +kernel
theorem d_X1_hearingTicks_20 : decode prog_3_method_43_code 20 = .ok (.iconst 1, 1) := by decide +kernel
theorem d_X1_hearingTicks_21 : decode prog_3_method_43_code 21 = .ok (.iload_n 3, 1) := by decide +kernel
theorem d_X1_hearingTicks_22 : decode prog_3_method_43_code 22 = .ok (.ishl, 1) := by decide +kernel
theorem d_X1_hearingTicks_23 : decode prog_3_method_43_code 23 = .ok (.ior, 1) := by decide +kernel
theorem d_X1_hearingTicks_24 : decode prog_3_method_43_code 24 = .ok (.istore_n 2, 1) := by decide +kernel
theorem d_X1_hearingTicks_25 : decode prog_3_method_43_code 25 = .ok (.iinc 3 1, 3) := by decide +kernel
theorem d_X1_hearingTicks_28 : decode prog_3_method_43_code 28 = .ok (.goto (-24), 3) := by decide +kernel
theorem d_X1_hearingTicks_31 : decode prog_3_method_43_code 31 = .ok (.iload_n 2, 1) := by decide +kernel
theorem d_X1_hearingTicks_32 : decode prog_3_method_43_code 32 = .ok (.ireturn, 1) := by decide +kernel
abbrev M_Mesh_hearingTicks : zMT := (⟨"PeriodSlots$Mesh", "hearingTicks", "(I)I"⟩, prog_3_method_43_code, 4, (some .int))
theorem k_Mesh_hearingTicks : zcall M_Mesh_hearingTicks 1 := ⟨zU_in (i := 614) (by decide +kernel) rfl, m56, ⟨by decide, by decide, by decide +kernel⟩, by decide⟩
def o_Mesh_hearingTicks (h : zHp) (b : Nat) (v : Nat) : Int32 :=
  (zrep (fun (i4_1 : Nat) (s4_1 : Int32) => (if (o_Mesh_heardBy h b v (nI i4_1)) = 0 then s4_1 else (s4_1 ||| (zshl 1 (nI i4_1))))) 0 8)
theorem rd_Mesh_hearingTicks {h h2 : zHp} {b : Nat} {v : Nat} (e0 : h2 (b + 2) = h (b + 2)) (e1 : h2 (b + 9) = h (b + 9)) (e2 : h2 b 0 = h b 0) : o_Mesh_hearingTicks h2 b v = o_Mesh_hearingTicks h b v := by
  unfold o_Mesh_hearingTicks
  simp only [e0, e1, e2, rd_Mesh_heardBy e0 e1 e2]

set_option maxHeartbeats 400000 in
set_option maxRecDepth 20000 in
theorem c_Mesh_hearingTicks (X : zXT) (h : zHp) (g : zLg) (b : Nat) (v : Nat) {x_v : Int32} (e_v : x_v = nI v) (hb : b = 3 ∨ b = 15 ∨ b = 27) (hf0 : zfit h b 0 8) (hl1 : v < 8) : zDi X M_Mesh_hearingTicks 3 [zR X b, .int x_v] h g (zI (o_Mesh_hearingTicks h b v)) h g := by
  subst e_v
  have hf0_1 := hf0.1
  refine zDi_of "PeriodSlots$Mesh" prog_3_method_43_code 4 (some .int) rfl (by decide) [zO X b, zI (nI v), none, none] rfl (fun _ q => q) (Nat.le_of_ble_eq_true rfl) ?_
  intro Γ Q C hQ
  refine zr_iconst C (v := 0) d_X1_hearingTicks_0 (by decide) ?_
  refine zr_istore_n C [zO X b, zI (nI v), zI 0, none] d_X1_hearingTicks_1 (Nat.le_of_ble_eq_true rfl) rfl rfl ?_
  refine zr_iconst C (v := 0) d_X1_hearingTicks_2 (by decide) ?_
  refine zr_istore_n C [zO X b, zI (nI v), zI 0, zI 0] d_X1_hearingTicks_3 (Nat.le_of_ble_eq_true rfl) rfl rfl ?_
  refine zfor (f := (fun (i4_1 : Nat) (s4_1 : Int32) => (if (o_Mesh_heardBy h b v (nI i4_1)) = 0 then s4_1 else (s4_1 ||| (zshl 1 (nI i4_1)))))) (a := 0) (fun i4_1 s4_1 => zV X Γ Q 4 [zO X b, zI (nI v), zI s4_1, zI (nI i4_1)] [] h g) (fun _ _ => True) (8) trivial (fun i4_1 s4_1 hi4_1 hI4_1 => ⟨trivial, fun hk4_1 => ?_⟩) (fun r4_1 er4_1 hI4_1 => ?_)
  · refine zr_iload_n C d_X1_hearingTicks_4 rfl ?_
    refine zr_bipush C (v := 8) d_X1_hearingTicks_5 (by decide) ?_
    refine zr_icmp_ge C 31 d_X1_hearingTicks_7 (by decide) (fun c => absurd c (zge_noN (B := 8) rfl (by omega) (by omega))) (fun _ => ?_)
    refine zr_aload_n C d_X1_hearingTicks_10 rfl ?_
    refine zr_iload_n C d_X1_hearingTicks_11 rfl ?_
    refine zr_iload_n C d_X1_hearingTicks_12 rfl ?_
    refine zr_callVi (As := [.int (nI v), .int (nI i4_1)]) (st := []) (c := b) C (c_Mesh_heardBy X h g b v (nI i4_1) rfl hb hf0 (by omega)) k_Mesh_heardBy m615 m617 m11 (by omega) (zC_Mesh hb X _ _) rfl rfl (by decide) rfl (Nat.le_of_ble_eq_true rfl) d_X1_hearingTicks_13 ?_
    suffices hJ16 : ∀ (y2 : Int32), (if (o_Mesh_heardBy h b v (nI i4_1)) = 0 then s4_1 else (s4_1 ||| (zshl 1 (nI i4_1)))) = y2 → zV X Γ Q 25 [zO X b, zI (nI v), zI y2, zI (nI i4_1)] [] h g by
      refine zr_if_eq C 25 d_X1_hearingTicks_16 (by decide) (fun c16 => ?_) (fun c16 => ?_)
      · exact hJ16 s4_1 (((if_pos c16)))
      · refine zr_iload_n C d_X1_hearingTicks_19 rfl ?_
        refine zr_iconst C (v := 1) d_X1_hearingTicks_20 (by decide) ?_
        refine zr_iload_n C d_X1_hearingTicks_21 rfl ?_
        refine zr_ishl C d_X1_hearingTicks_22 ?_
        refine zr_ior C d_X1_hearingTicks_23 ?_
        refine zr_istore_n C [zO X b, zI (nI v), zI (s4_1 ||| (zshl 1 (nI i4_1))), zI (nI i4_1)] d_X1_hearingTicks_24 (Nat.le_of_ble_eq_true rfl) rfl rfl ?_
        exact hJ16 (s4_1 ||| (zshl 1 (nI i4_1))) (((if_neg c16)))
    intro y2 ey2
    refine zr_iinc C [zO X b, zI (nI v), zI y2, zI (nI (i4_1 + 1))] (v := (nI (i4_1 + 1))) d_X1_hearingTicks_25 rfl (zn_add rfl rfl) (Nat.le_of_ble_eq_true rfl) rfl rfl ?_
    refine zr_goto C 4 d_X1_hearingTicks_28 (by decide) ?_
    exact hk4_1 y2 (by subst ey2; exact rfl)
  refine zr_iload_n C d_X1_hearingTicks_4 rfl ?_
  refine zr_bipush C (v := 8) d_X1_hearingTicks_5 (by decide) ?_
  refine zr_icmp_ge C 31 d_X1_hearingTicks_7 (by decide) (fun _ => ?_) (fun c => absurd (zge_yesN (B := 8) rfl (by omega) (by omega)) c)
  refine zr_iload_n C d_X1_hearingTicks_31 rfl ?_
  have eR : o_Mesh_hearingTicks h b v = r4_1 := (by subst er4_1; unfold o_Mesh_hearingTicks; exact rfl)
  subst hQ
  rw [eR]
  exact zr_ireti C d_X1_hearingTicks_32
theorem d_X1_awakeTicks_0 : decode prog_3_method_44_code 0 = .ok (.aload_n 0, 1) := by decide +kernel
theorem d_X1_awakeTicks_1 : decode prog_3_method_44_code 1 = .ok (.getfield 36, 3) := by decide +kernel
theorem d_X1_awakeTicks_4 : decode prog_3_method_44_code 4 = .ok (.iload_n 1, 1) := by decide +kernel
theorem d_X1_awakeTicks_5 : decode prog_3_method_44_code 5 = .ok (.iaload, 1) := by decide +kernel
theorem d_X1_awakeTicks_6 : decode prog_3_method_44_code 6 = .ok (.istore_n 2, 1) := by decide +kernel
theorem d_X1_awakeTicks_7 : decode prog_3_method_44_code 7 = .ok (.iconst 0, 1) := by decide +kernel
theorem d_X1_awakeTicks_8 : decode prog_3_method_44_code 8 = .ok (.istore_n 3, 1) := by decide +kernel
theorem d_X1_awakeTicks_9 : decode prog_3_method_44_code 9 = .ok (.iload_n 3, 1) := by decide +kernel
theorem d_X1_awakeTicks_10 : decode prog_3_method_44_code 10 = .ok (.aload_n 0, 1) := by decide +kernel
theorem d_X1_awakeTicks_11 : decode prog_3_method_44_code 11 = .ok (.getfield 45, 3) := by decide +kernel
theorem d_X1_awakeTicks_14 : decode prog_3_method_44_code 14 = .ok (.if_icmp .ge 31, 3) := by decide +kernel
theorem d_X1_awakeTicks_17 : decode prog_3_method_44_code 17 = .ok (.aload_n 0, 1) := by decide +kernel
theorem d_X1_awakeTicks_18 : decode prog_3_method_44_code 18 = .ok (.getfield 15, 3) := by decide +kernel
theorem d_X1_awakeTicks_21 : decode prog_3_method_44_code 21 = .ok (.iload_n 1, 1) := by decide +kernel
theorem d_X1_awakeTicks_22 : decode prog_3_method_44_code 22 = .ok (.iaload, 1) := by decide +kernel
theorem d_X1_awakeTicks_23 : decode prog_3_method_44_code 23 = .ok (.iload_n 3, 1) := by decide +kernel
theorem d_X1_awakeTicks_24 : decode prog_3_method_44_code 24 = .ok (.invokestatic 89, 3) := by decide +kernel
theorem d_X1_awakeTicks_27 : decode prog_3_method_44_code 27 = .ok (.ifCond .eq 12, 3) := by decide +kernel
theorem d_X1_awakeTicks_30 : decode prog_3_method_44_code 30 = .ok (.iload_n 2, 1) := by decide +kernel
theorem d_X1_awakeTicks_31 : decode prog_3_method_44_code 31 = .ok (.aload_n 0, 1) := by decide +kernel
theorem d_X1_awakeTicks_32 : decode prog_3_method_44_code 32 = .ok (.getfield 36, 3) := by decide +kernel
theorem d_X1_awakeTicks_35 : decode prog_3_method_44_code 35 = .ok (.iload_n 3, 1) := by decide +kernel
theorem d_X1_awakeTicks_36 : decode prog_3_method_44_code 36 = .ok (.iaload, 1) := by decide +kernel
theorem d_X1_awakeTicks_37 : decode prog_3_method_44_code 37 = .ok (.ior, 1) := by decide +kernel
theorem d_X1_awakeTicks_38 : decode prog_3_method_44_code 38 = .ok (.istore_n 2, 1) := by decide +kernel
theorem d_X1_awakeTicks_39 : decode prog_3_method_44_code 39 = .ok (.iinc 3 1, 3) := by decide +kernel
theorem d_X1_awakeTicks_42 : decode prog_3_method_44_code 42 = .ok (.goto (-33), 3) := by decide +kernel
theorem d_X1_awakeTicks_45 : decode prog_3_method_44_code 45 = .ok (.iload_n 2, 1) := by decide +kernel
theorem d_X1_awakeTicks_46 : decode prog_3_method_44_code 46 = .ok (.ireturn, 1) := by decide +kernel
abbrev M_Mesh_awakeTicks : zMT := (⟨"PeriodSlots$Mesh", "awakeTicks", "(I)I"⟩, prog_3_method_44_code, 4, (some .int))
theorem k_Mesh_awakeTicks : zcall M_Mesh_awakeTicks 1 := ⟨zU_in (i := 607) (by decide +kernel) rfl, m56, ⟨by decide, by decide, by decide +kernel⟩, by decide⟩
def o_Mesh_awakeTicks (h : zHp) (b : Nat) (v : Nat) : Int32 :=
  (zrep (fun (i9_1 : Nat) (s9_1 : Int32) => (if (o_Slots_has (h (b + 2) v) (nI i9_1)) = true then (s9_1 ||| (h (b + 9) i9_1)) else s9_1)) (h (b + 9) v) (zcn (h b 0)))
theorem rd_Mesh_awakeTicks {h h2 : zHp} {b : Nat} {v : Nat} (e0 : h2 (b + 2) = h (b + 2)) (e1 : h2 (b + 9) = h (b + 9)) (e2 : h2 b 0 = h b 0) : o_Mesh_awakeTicks h2 b v = o_Mesh_awakeTicks h b v := by
  unfold o_Mesh_awakeTicks
  simp only [e0, e1, e2]

set_option maxHeartbeats 400000 in
set_option maxRecDepth 20000 in
theorem c_Mesh_awakeTicks (X : zXT) (h : zHp) (g : zLg) (b : Nat) (v : Nat) {x_v : Int32} (e_v : x_v = nI v) (hb : b = 3 ∨ b = 15 ∨ b = 27) (hf0 : zfit h b 0 8) (hl1 : v < 8) : zDi X M_Mesh_awakeTicks 1 [zR X b, .int x_v] h g (zI (o_Mesh_awakeTicks h b v)) h g := by
  subst e_v
  have hf0_1 := hf0.1
  refine zDi_of "PeriodSlots$Mesh" prog_3_method_44_code 4 (some .int) rfl (by decide) [zO X b, zI (nI v), none, none] rfl (fun _ q => q) (Nat.le_of_ble_eq_true rfl) ?_
  intro Γ Q C hQ
  refine zr_aload_n C d_X1_awakeTicks_0 rfl ?_
  refine gf_Mesh_11 C hb m124 d_X1_awakeTicks_1 ?_
  refine zr_iload_n C d_X1_awakeTicks_4 rfl ?_
  refine zr_iald C (za_mesh_9 hb) (v) rfl (by omega) (by decide) d_X1_awakeTicks_5 ?_
  refine zr_istore_n C [zO X b, zI (nI v), zI (h (b + 9) v), none] d_X1_awakeTicks_6 (Nat.le_of_ble_eq_true rfl) rfl rfl ?_
  refine zr_iconst C (v := 0) d_X1_awakeTicks_7 (by decide) ?_
  refine zr_istore_n C [zO X b, zI (nI v), zI (h (b + 9) v), zI 0] d_X1_awakeTicks_8 (Nat.le_of_ble_eq_true rfl) rfl rfl ?_
  refine zfor (f := (fun (i9_1 : Nat) (s9_1 : Int32) => (if (o_Slots_has (h (b + 2) v) (nI i9_1)) = true then (s9_1 ||| (h (b + 9) i9_1)) else s9_1))) (a := (h (b + 9) v)) (fun i9_1 s9_1 => zV X Γ Q 9 [zO X b, zI (nI v), zI s9_1, zI (nI i9_1)] [] h g) (fun _ _ => True) (zcn (h b 0)) trivial (fun i9_1 s9_1 hi9_1 hI9_1 => ⟨trivial, fun hk9_1 => ?_⟩) (fun r9_1 er9_1 hI9_1 => ?_)
  · refine zr_iload_n C d_X1_awakeTicks_9 rfl ?_
    refine zr_aload_n C d_X1_awakeTicks_10 rfl ?_
    refine gf_Mesh_0 C hb m95 d_X1_awakeTicks_11 ?_
    refine zr_icmp_ge C 45 d_X1_awakeTicks_14 (by decide) (fun c => absurd c (zge_no rfl (by omega))) (fun _ => ?_)
    refine zr_aload_n C d_X1_awakeTicks_17 rfl ?_
    refine gf_Mesh_4 C hb m107 d_X1_awakeTicks_18 ?_
    refine zr_iload_n C d_X1_awakeTicks_21 rfl ?_
    refine zr_iald C (za_mesh_2 hb) (v) rfl (by omega) (by decide) d_X1_awakeTicks_22 ?_
    refine zr_iload_n C d_X1_awakeTicks_23 rfl ?_
    refine zr_callNi (As := [.int (h (b + 2) v), .int (nI i9_1)]) (st := []) C (c_Slots_has X h g (h (b + 2) v) (nI i9_1)) k_Slots_has (by simp [zNest]) m322 rfl (by decide) rfl (Nat.le_of_ble_eq_true rfl) d_X1_awakeTicks_24 ?_
    suffices hJ27 : ∀ (y2 : Int32), (if (o_Slots_has (h (b + 2) v) (nI i9_1)) = true then (s9_1 ||| (h (b + 9) i9_1)) else s9_1) = y2 → zV X Γ Q 39 [zO X b, zI (nI v), zI y2, zI (nI i9_1)] [] h g by
      refine zr_ifz_eq C 39 d_X1_awakeTicks_27 (by decide) (fun c27 => ?_) (fun c27 => ?_)
      · exact hJ27 s9_1 (((if_neg (zbf c27))))
      · refine zr_iload_n C d_X1_awakeTicks_30 rfl ?_
        refine zr_aload_n C d_X1_awakeTicks_31 rfl ?_
        refine gf_Mesh_11 C hb m124 d_X1_awakeTicks_32 ?_
        refine zr_iload_n C d_X1_awakeTicks_35 rfl ?_
        refine zr_iald C (za_mesh_9 hb) (i9_1) rfl (by omega) (by decide) d_X1_awakeTicks_36 ?_
        refine zr_ior C d_X1_awakeTicks_37 ?_
        refine zr_istore_n C [zO X b, zI (nI v), zI (s9_1 ||| (h (b + 9) i9_1)), zI (nI i9_1)] d_X1_awakeTicks_38 (Nat.le_of_ble_eq_true rfl) rfl rfl ?_
        exact hJ27 (s9_1 ||| (h (b + 9) i9_1)) (((if_pos c27)))
    intro y2 ey2
    refine zr_iinc C [zO X b, zI (nI v), zI y2, zI (nI (i9_1 + 1))] (v := (nI (i9_1 + 1))) d_X1_awakeTicks_39 rfl (zn_add rfl rfl) (Nat.le_of_ble_eq_true rfl) rfl rfl ?_
    refine zr_goto C 9 d_X1_awakeTicks_42 (by decide) ?_
    exact hk9_1 y2 (by subst ey2; exact rfl)
  refine zr_iload_n C d_X1_awakeTicks_9 rfl ?_
  refine zr_aload_n C d_X1_awakeTicks_10 rfl ?_
  refine gf_Mesh_0 C hb m95 d_X1_awakeTicks_11 ?_
  refine zr_icmp_ge C 45 d_X1_awakeTicks_14 (by decide) (fun _ => ?_) (fun c => absurd (zge_yes rfl (by omega) (by have := zcn_small (h b 0); omega)) c)
  refine zr_iload_n C d_X1_awakeTicks_45 rfl ?_
  have eR : o_Mesh_awakeTicks h b v = r9_1 := (by subst er9_1; unfold o_Mesh_awakeTicks; exact rfl)
  subst hQ
  rw [eR]
  exact zr_ireti C d_X1_awakeTicks_46
