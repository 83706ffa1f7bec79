/-! Walks of methods, by program (wip/whole/gen). -/
theorem d_X7_senders_0 : decode prog_9_method_61_code 0 = .ok (.iconst 0, 1) := by decide +kernel
theorem d_X7_senders_1 : decode prog_9_method_61_code 1 = .ok (.istore 4, 2) := by decide +kernel
theorem d_X7_senders_3 : decode prog_9_method_61_code 3 = .ok (.iconst 0, 1) := by decide +kernel
theorem d_X7_senders_4 : decode prog_9_method_61_code 4 = .ok (.istore 5, 2) := by decide +kernel
theorem d_X7_senders_6 : decode prog_9_method_61_code 6 = .ok (.iload 5, 2) := by decide +kernel
theorem d_X7_senders_8 : decode prog_9_method_61_code 8 = .ok (.aload_n 0, 1) := by decide +kernel
theorem d_X7_senders_9 : decode prog_9_method_61_code 9 = .ok (.getfield 72, 3) := by decide +kernel
theorem d_X7_senders_12 : decode prog_9_method_61_code 12 = .ok (.if_icmp .ge 47, 3) := by decide +kernel
theorem d_X7_senders_15 : decode prog_9_method_61_code 15 = .ok (.iload 4, 2) := by decide +kernel
theorem d_X7_senders_17 : decode prog_9_method_61_code 17 = .ok (.aload_n 1, 1) := by decide +kernel
theorem d_X7_senders_18 : decode prog_9_method_61_code 18 = .ok (.bipush 16, 2) := by decide +kernel
theorem d_X7_senders_20 : decode prog_9_method_61_code 20 = .ok (.iload_n 2, 1) := by decide +kernel
theorem d_X7_senders_21 : decode prog_9_method_61_code 21 = .ok (.iadd, 1) := by decide +kernel
theorem d_X7_senders_22 : decode prog_9_method_61_code 22 = .ok (.iaload, 1) := by decide +kernel
theorem d_X7_senders_23 : decode prog_9_method_61_code 23 = .ok (.iload 5, 2) := by decide +kernel
theorem d_X7_senders_25 : decode prog_9_method_61_code 25 = .ok (.invokestatic 107, 3) := by decide +kernel
theorem d_X7_senders_28 : decode prog_9_method_61_code 28 = .ok (.ifCond .eq 21, 3) := by decide +kernel
theorem d_X7_senders_31 : decode prog_9_method_61_code 31 = .ok (.aload_n 0, 1) := by decide +kernel
theorem d_X7_senders_32 : decode prog_9_method_61_code 32 = .ok (.aload_n 1, 1) := by decide +kernel
theorem d_X7_senders_33 : decode prog_9_method_61_code 33 = .ok (.iload 5, 2) := by decide +kernel
theorem d_X7_senders_35 : decode prog_9_method_61_code 35 = .ok (.invokevirtual 131, 3) := by decide +kernel
theorem d_X7_senders_38 : decode prog_9_method_61_code 38 = .ok (.iload_n 3, 1) := by decide +kernel
theorem d_X7_senders_39 : decode prog_9_method_61_code 39 = .ok (.invokestatic 107, 3) := by decide +kernel
theorem d_X7_senders_42 : decode prog_9_method_61_code 42 = .ok (.ifCond .eq 7, 3) := by decide +kernel
theorem d_X7_senders_45 : decode prog_9_method_61_code 45 = .ok (.iconst 1, 1) := by decide +kernel
theorem d_X7_senders_46 : decode prog_9_method_61_code 46 = .ok (.goto 4, 3) := by decide +kernel
theorem d_X7_senders_49 : decode prog_9_method_61_code 49 = .ok (.iconst 0, 1) := by decide +kernel
theorem d_X7_senders_50 : decode prog_9_method_61_code 50 = .ok (.iadd, 1) := by decide +kernel
theorem d_X7_senders_51 : decode prog_9_method_61_code 51 = .ok (.istore 4, 2) := by decide +kernel
theorem d_X7_senders_53 : decode prog_9_method_61_code 53 = .ok (.iinc 5 1, 3) := by decide +kernel
theorem d_X7_senders_56 : decode prog_9_method_61_code 56 = .ok (.goto (-50), 3) := by decide +kernel
theorem d_X7_senders_59 : decode prog_9_method_61_code 59 = .ok (.iload 4, 2) := by decide +kernel
theorem d_X7_senders_61 : decode prog_9_method_61_code 61 = .ok (.ireturn, 1) := by decide +kernel
abbrev M_Model_senders : zMT := (⟨"PeriodSlotsModel", "senders", "([III)I"⟩, prog_9_method_61_code, 6, (some .int))
theorem k_Model_senders : zcall M_Model_senders 3 := ⟨zU_in (i := 1078) (by decide +kernel) rfl, m62, ⟨by decide, by decide, by decide +kernel⟩, by decide⟩
def o_Model_senders (h : zHp) (r : Nat) (s : Nat) (t : Int32) : Int32 :=
  (zrep (fun (i6_1 : Nat) (s6_1 : Int32) => (s6_1 + (zb ((o_Model_has (h r (16 + s)) (nI i6_1)) && (o_Model_has (o_Model_ticks h r i6_1) t))))) 0 (zcn (h 51 1)))
theorem rd_Model_senders {h h2 : zHp} {r : Nat} {s : Nat} {t : Int32} (e0 : h2 51 1 = h 51 1) (e1 : h2 53 = h 53) (e2 : h2 r = h r) : o_Model_senders h2 r s t = o_Model_senders h r s t := by
  unfold o_Model_senders
  simp only [e0, e1, e2, rd_Model_ticks e1 e2]

set_option maxHeartbeats 400000 in
set_option maxRecDepth 20000 in
theorem c_Model_senders (X : zXT) (h : zHp) (g : zLg) (r : Nat) (s : Nat) (t : Int32) {x_s : Int32} (e_s : x_s = nI s) (hr : r = 54 ∨ r = 55 ∨ r = 56) (hf0 : zfit h 51 1 8) (hper : zper h) (hl2 : s < 8) : zDi X M_Model_senders 2 [zR X 51, zR X r, .int x_s, .int t] h g (zI (o_Model_senders h r s t)) h g := by
  subst e_s
  have hf0_1 := hf0.1
  refine zDi_of "PeriodSlotsModel" prog_9_method_61_code 6 (some .int) rfl (by decide) [zO X 51, zO X r, zI (nI s), zI t, none, none] rfl (fun _ q => q) (Nat.le_of_ble_eq_true rfl) ?_
  intro Γ Q C hQ
  refine zr_iconst C (v := 0) d_X7_senders_0 (by decide) ?_
  refine zr_istore C [zO X 51, zO X r, zI (nI s), zI t, zI 0, none] d_X7_senders_1 (Nat.le_of_ble_eq_true rfl) rfl rfl ?_
  refine zr_iconst C (v := 0) d_X7_senders_3 (by decide) ?_
  refine zr_istore C [zO X 51, zO X r, zI (nI s), zI t, zI 0, zI 0] d_X7_senders_4 (Nat.le_of_ble_eq_true rfl) rfl rfl ?_
  refine zfor (f := (fun (i6_1 : Nat) (s6_1 : Int32) => (s6_1 + (zb ((o_Model_has (h r (16 + s)) (nI i6_1)) && (o_Model_has (o_Model_ticks h r i6_1) t)))))) (a := 0) (fun i6_1 s6_1 => zV X Γ Q 6 [zO X 51, zO X r, zI (nI s), zI t, zI s6_1, zI (nI i6_1)] [] h g) (fun _ _ => True) (zcn (h 51 1)) trivial (fun i6_1 s6_1 hi6_1 hI6_1 => ⟨trivial, fun hk6_1 => ?_⟩) (fun r6_1 er6_1 hI6_1 => ?_)
  · refine zr_iload C d_X7_senders_6 rfl ?_
    refine zr_aload_n C d_X7_senders_8 rfl ?_
    refine gf_Model_2 C m755 d_X7_senders_9 ?_
    refine zr_icmp_ge C 59 d_X7_senders_12 (by decide) (fun c => absurd c (zge_no rfl (by omega))) (fun _ => ?_)
    refine zr_iload C d_X7_senders_15 rfl ?_
    refine zr_aload_n C d_X7_senders_17 rfl ?_
    refine zr_bipush C (v := 16) d_X7_senders_18 (by decide) ?_
    refine zr_iload_n C d_X7_senders_20 rfl ?_
    refine zr_iadd C d_X7_senders_21 ?_
    refine zr_iald C (za_row hr) (16 + s) (zn_add rfl rfl) (by omega) (by decide) d_X7_senders_22 ?_
    refine zr_iload C d_X7_senders_23 rfl ?_
    refine zr_callSi (As := [.int (h r (16 + s)), .int (nI i6_1)]) (st := [.int s6_1]) C (c_Model_has X h g (h r (16 + s)) (nI i6_1)) k_Model_has m890 m891 rfl (by decide) rfl (Nat.le_of_ble_eq_true rfl) d_X7_senders_25 ?_
    suffices hJ28 : ∀ (y2 : Bool), ((o_Model_has (h r (16 + s)) (nI i6_1)) && (o_Model_has (o_Model_ticks h r i6_1) t)) = y2 → zV X Γ Q 50 [zO X 51, zO X r, zI (nI s), zI t, none, zI (nI i6_1)] [.int (zb y2), .int s6_1] h g by
      refine zr_ifz_eq C 49 d_X7_senders_28 (by decide) (fun c28 => ?_) (fun c28 => ?_)
      · refine zr_iconst C (v := 0) d_X7_senders_49 (by decide) ?_
        refine zr_lv [zO X 51, zO X r, zI (nI s), zI t, none, zI (nI i6_1)] (by simp [zle]) ?_
        exact hJ28 false (by simp [c28])
      · refine zr_aload_n C d_X7_senders_31 rfl ?_
        refine zr_aload_n C d_X7_senders_32 rfl ?_
        refine zr_iload C d_X7_senders_33 rfl ?_
        refine zr_callVi (As := [zR X r, .int (nI i6_1)]) (st := [.int s6_1]) (c := 51) C (c_Model_ticks X h g r i6_1 rfl hr (by omega) (hper i6_1 (by omega))) k_Model_ticks m924 m926 m30 (by decide) (zC_Model X _ _) rfl rfl (by decide) rfl (Nat.le_of_ble_eq_true rfl) d_X7_senders_35 ?_
        refine zr_iload_n C d_X7_senders_38 rfl ?_
        refine zr_callSi (As := [.int (o_Model_ticks h r i6_1), .int t]) (st := [.int s6_1]) C (c_Model_has X h g (o_Model_ticks h r i6_1) t) k_Model_has m890 m891 rfl (by decide) rfl (Nat.le_of_ble_eq_true rfl) d_X7_senders_39 ?_
        refine zr_ifz_eq C 49 d_X7_senders_42 (by decide) (fun c42 => ?_) (fun c42 => ?_)
        · refine zr_iconst C (v := 0) d_X7_senders_49 (by decide) ?_
          refine zr_lv [zO X 51, zO X r, zI (nI s), zI t, none, zI (nI i6_1)] (by simp [zle]) ?_
          exact hJ28 false (by simp [c28, c42])
        · refine zr_iconst C (v := 1) d_X7_senders_45 (by decide) ?_
          refine zr_goto C 50 d_X7_senders_46 (by decide) ?_
          refine zr_lv [zO X 51, zO X r, zI (nI s), zI t, none, zI (nI i6_1)] (by simp [zle]) ?_
          exact hJ28 true (by simp [c28, c42])
    intro y2 ey2
    refine zr_iadd C d_X7_senders_50 ?_
    refine zr_istore C [zO X 51, zO X r, zI (nI s), zI t, zI (s6_1 + (zb y2)), zI (nI i6_1)] d_X7_senders_51 (Nat.le_of_ble_eq_true rfl) rfl rfl ?_
    refine zr_iinc C [zO X 51, zO X r, zI (nI s), zI t, zI (s6_1 + (zb y2)), zI (nI (i6_1 + 1))] (v := (nI (i6_1 + 1))) d_X7_senders_53 rfl (zn_add rfl rfl) (Nat.le_of_ble_eq_true rfl) rfl rfl ?_
    refine zr_goto C 6 d_X7_senders_56 (by decide) ?_
    exact hk6_1 (s6_1 + (zb y2)) (by subst ey2; exact rfl)
  refine zr_iload C d_X7_senders_6 rfl ?_
  refine zr_aload_n C d_X7_senders_8 rfl ?_
  refine gf_Model_2 C m755 d_X7_senders_9 ?_
  refine zr_icmp_ge C 59 d_X7_senders_12 (by decide) (fun _ => ?_) (fun c => absurd (zge_yes rfl (by omega) (by have := zcn_small (h 51 1); omega)) c)
  refine zr_iload C d_X7_senders_59 rfl ?_
  have eR : o_Model_senders h r s t = r6_1 := (by subst er6_1; unfold o_Model_senders; exact rfl)
  subst hQ
  rw [eR]
  exact zr_ireti C d_X7_senders_61
theorem d_X7_heardAt_0 : decode prog_9_method_62_code 0 = .ok (.aload_n 0, 1) := by decide +kernel
theorem d_X7_heardAt_1 : decode prog_9_method_62_code 1 = .ok (.aload_n 0, 1) := by decide +kernel
theorem d_X7_heardAt_2 : decode prog_9_method_62_code 2 = .ok (.getfield 16, 3) := by decide +kernel
theorem d_X7_heardAt_5 : decode prog_9_method_62_code 5 = .ok (.iload_n 1, 1) := by decide +kernel
theorem d_X7_heardAt_6 : decode prog_9_method_62_code 6 = .ok (.iload_n 2, 1) := by decide +kernel
theorem d_X7_heardAt_7 : decode prog_9_method_62_code 7 = .ok (.invokevirtual 252, 3) := by decide +kernel
theorem d_X7_heardAt_10 : decode prog_9_method_62_code 10 = .ok (.iconst 1, 1) := by decide +kernel
theorem d_X7_heardAt_11 : decode prog_9_method_62_code 11 = .ok (.if_icmp .ne 19, 3) := by decide +kernel
theorem d_X7_heardAt_14 : decode prog_9_method_62_code 14 = .ok (.aload_n 0, 1) := by decide +kernel
theorem d_X7_heardAt_15 : decode prog_9_method_62_code 15 = .ok (.aload_n 0, 1) := by decide +kernel
theorem d_X7_heardAt_16 : decode prog_9_method_62_code 16 = .ok (.getfield 16, 3) := by decide +kernel
theorem d_X7_heardAt_19 : decode prog_9_method_62_code 19 = .ok (.iload_n 1, 1) := by decide +kernel
theorem d_X7_heardAt_20 : decode prog_9_method_62_code 20 = .ok (.invokevirtual 131, 3) := by decide +kernel
theorem d_X7_heardAt_23 : decode prog_9_method_62_code 23 = .ok (.iload_n 2, 1) := by decide +kernel
theorem d_X7_heardAt_24 : decode prog_9_method_62_code 24 = .ok (.invokestatic 107, 3) := by decide +kernel
theorem d_X7_heardAt_27 : decode prog_9_method_62_code 27 = .ok (.ifCond .eq 6, 3) := by decide +kernel
theorem d_X7_heardAt_30 : decode prog_9_method_62_code 30 = .ok (.bipush (-9), 2) := by decide +kernel
theorem d_X7_heardAt_32 : decode prog_9_method_62_code 32 = .ok (.ireturn, 1) := by decide +kernel
theorem d_X7_heardAt_33 : decode prog_9_method_62_code 33 = .ok (.bipush (-9), 2) := by decide +kernel
theorem d_X7_heardAt_35 : decode prog_9_method_62_code 35 = .ok (.istore_n 3, 1) := by decide +kernel
theorem d_X7_heardAt_36 : decode prog_9_method_62_code 36 = .ok (.iconst 0, 1) := by decide +kernel
theorem d_X7_heardAt_37 : decode prog_9_method_62_code 37 = .ok (.istore 4, 2) := by decide +kernel
theorem d_X7_heardAt_39 : decode prog_9_method_62_code 39 = .ok (.iload 4, 2) := by decide +kernel
theorem d_X7_heardAt_41 : decode prog_9_method_62_code 41 = .ok (.aload_n 0, 1) := by decide +kernel
theorem d_X7_heardAt_42 : decode prog_9_method_62_code 42 = .ok (.getfield 72, 3) := by decide +kernel
theorem d_X7_heardAt_45 : decode prog_9_method_62_code 45 = .ok (.if_icmp .ge 50, 3) := by decide +kernel
theorem d_X7_heardAt_48 : decode prog_9_method_62_code 48 = .ok (.aload_n 0, 1) := by decide +kernel
theorem d_X7_heardAt_49 : decode prog_9_method_62_code 49 = .ok (.getfield 16, 3) := by decide +kernel
theorem d_X7_heardAt_52 : decode prog_9_method_62_code 52 = .ok (.bipush 16, 2) := by decide +kernel
theorem d_X7_heardAt_54 : decode prog_9_method_62_code 54 = .ok (.iload_n 1, 1) := by decide +kernel
theorem d_X7_heardAt_55 : decode prog_9_method_62_code 55 = .ok (.iadd, 1) := by decide +kernel
theorem d_X7_heardAt_56 : decode prog_9_method_62_code 56 = .ok (.iaload, 1) := by decide +kernel
theorem d_X7_heardAt_57 : decode prog_9_method_62_code 57 = .ok (.iload 4, 2) := by decide +kernel
theorem d_X7_heardAt_59 : decode prog_9_method_62_code 59 = .ok (.invokestatic 107, 3) := by decide +kernel
theorem d_X7_heardAt_62 : decode prog_9_method_62_code 62 = .ok (.ifCond .eq 25, 3) := by decide +kernel
theorem d_X7_heardAt_65 : decode prog_9_method_62_code 65 = .ok (.aload_n 0, 1) := by decide +kernel
theorem d_X7_heardAt_66 : decode prog_9_method_62_code 66 = .ok (.aload_n 0, 1) := by decide +kernel
theorem d_X7_heardAt_67 : decode prog_9_method_62_code 67 = .ok (.getfield 16, 3) := by decide +kernel
theorem d_X7_heardAt_70 : decode prog_9_method_62_code 70 = .ok (.iload 4, 2) := by decide +kernel
theorem d_X7_heardAt_72 : decode prog_9_method_62_code 72 = .ok (.invokevirtual 131, 3) := by decide +kernel
theorem d_X7_heardAt_75 : decode prog_9_method_62_code 75 = .ok (.iload_n 2, 1) := by decide +kernel
theorem d_X7_heardAt_76 : decode prog_9_method_62_code 76 = .ok (.invokestatic 107, 3) := by decide +kernel
theorem d_X7_heardAt_79 : decode prog_9_method_62_code 79 = .ok (.ifCond .eq 8, 3) := by decide +kernel
theorem d_X7_heardAt_82 : decode prog_9_method_62_code 82 = .ok (.iload 4, 2) := by decide +kernel
theorem d_X7_heardAt_84 : decode prog_9_method_62_code 84 = .ok (.goto 4, 3) := by decide +kernel
theorem d_X7_heardAt_87 : decode prog_9_method_62_code 87 = .ok (.iload_n 3, 1) := by decide +kernel
theorem d_X7_heardAt_88 : decode prog_9_method_62_code 88 = .ok (.istore_n 3, 1) := by decide +kernel
theorem d_X7_heardAt_89 : decode prog_9_method_62_code 89 = .ok (.iinc 4 1, 3) := by decide +kernel
theorem d_X7_heardAt_92 : decode prog_9_method_62_code 92 = .ok (.goto (-53), 3) := by decide +kernel
theorem d_X7_heardAt_95 : decode prog_9_method_62_code 95 = .ok (.iload_n 3, 1) := by decide +kernel
theorem d_X7_heardAt_96 : decode prog_9_method_62_code 96 = .ok (.ireturn, 1) := by decide +kernel
abbrev M_Model_heardAt : zMT := (⟨"PeriodSlotsModel", "heardAt", "(II)I"⟩, prog_9_method_62_code, 5, (some .int))
theorem k_Model_heardAt : zcall M_Model_heardAt 2 := ⟨zU_in (i := 1074) (by decide +kernel) rfl, m62, ⟨by decide, by decide, by decide +kernel⟩, by decide⟩
def o_Model_heardAt (h : zHp) (s : Nat) (t : Int32) : Int32 :=
  (if (o_Model_senders h 54 s t) = 1 then (if (o_Model_has (o_Model_ticks h 54 s) t) = true then (-9) else (zrep (fun (i39_1 : Nat) (s39_1 : Int32) => (if (o_Model_has (h 54 (16 + s)) (nI i39_1)) = true then (if (o_Model_has (o_Model_ticks h 54 i39_1) t) = true then (nI i39_1) else s39_1) else s39_1)) (-9) (zcn (h 51 1)))) else (-9))
theorem rd_Model_heardAt {h h2 : zHp} {s : Nat} {t : Int32} (e0 : h2 51 1 = h 51 1) (e1 : h2 53 = h 53) (e2 : h2 54 = h 54) : o_Model_heardAt h2 s t = o_Model_heardAt h s t := by
  unfold o_Model_heardAt
  simp only [e0, e1, e2, rd_Model_senders e0 e1 e2, rd_Model_ticks e1 e2]

set_option maxHeartbeats 400000 in
set_option maxRecDepth 20000 in
theorem c_Model_heardAt (X : zXT) (h : zHp) (g : zLg) (s : Nat) (t : Int32) {x_s : Int32} (e_s : x_s = nI s) (hf0 : zfit h 51 1 8) (hper : zper h) (hl2 : s < 8) (hsn : s < zcn (h 51 1)) : zDi X M_Model_heardAt 3 [zR X 51, .int x_s, .int t] h g (zI (o_Model_heardAt h s t)) h g := by
  subst e_s
  have hf0_1 := hf0.1
  refine zDi_of "PeriodSlotsModel" prog_9_method_62_code 5 (some .int) rfl (by decide) [zO X 51, zI (nI s), zI t, none, none] rfl (fun _ q => q) (Nat.le_of_ble_eq_true rfl) ?_
  intro Γ Q C hQ
  refine zr_aload_n C d_X7_heardAt_0 rfl ?_
  refine zr_aload_n C d_X7_heardAt_1 rfl ?_
  refine gf_Model_4 C m757 d_X7_heardAt_2 ?_
  refine zr_iload_n C d_X7_heardAt_5 rfl ?_
  refine zr_iload_n C d_X7_heardAt_6 rfl ?_
  refine zr_callVi (As := [zR X 54, .int (nI s), .int t]) (st := []) (c := 51) C (c_Model_senders X h g 54 s t rfl (by decide) hf0 hper (by omega)) k_Model_senders m1075 m1077 m50 (by decide) (zC_Model X _ _) rfl rfl (by decide) rfl (Nat.le_of_ble_eq_true rfl) d_X7_heardAt_7 ?_
  refine zr_iconst C (v := 1) d_X7_heardAt_10 (by decide) ?_
  refine zr_icmp_ne C 30 d_X7_heardAt_11 (by decide) (fun c11 => ?_) (fun c11 => ?_)
  · refine zr_bipush C (v := (-9)) d_X7_heardAt_30 (by decide) ?_
    have eR : o_Model_heardAt h s t = (-9) := (by unfold o_Model_heardAt; rw [if_neg c11])
    subst hQ
    rw [eR]
    exact zr_ireti C d_X7_heardAt_32
  · refine zr_aload_n C d_X7_heardAt_14 rfl ?_
    refine zr_aload_n C d_X7_heardAt_15 rfl ?_
    refine gf_Model_4 C m757 d_X7_heardAt_16 ?_
    refine zr_iload_n C d_X7_heardAt_19 rfl ?_
    refine zr_callVi (As := [zR X 54, .int (nI s)]) (st := []) (c := 51) C (c_Model_ticks X h g 54 s rfl (by decide) (by omega) (hper s (by omega))) k_Model_ticks m924 m926 m30 (by decide) (zC_Model X _ _) rfl rfl (by decide) rfl (Nat.le_of_ble_eq_true rfl) d_X7_heardAt_20 ?_
    refine zr_iload_n C d_X7_heardAt_23 rfl ?_
    refine zr_callSi (As := [.int (o_Model_ticks h 54 s), .int t]) (st := []) C (c_Model_has X h g (o_Model_ticks h 54 s) t) k_Model_has m890 m891 rfl (by decide) rfl (Nat.le_of_ble_eq_true rfl) d_X7_heardAt_24 ?_
    refine zr_ifz_eq C 33 d_X7_heardAt_27 (by decide) (fun c27 => ?_) (fun c27 => ?_)
    · refine zr_bipush C (v := (-9)) d_X7_heardAt_33 (by decide) ?_
      refine zr_istore_n C [zO X 51, zI (nI s), zI t, zI (-9), none] d_X7_heardAt_35 (Nat.le_of_ble_eq_true rfl) rfl rfl ?_
      refine zr_iconst C (v := 0) d_X7_heardAt_36 (by decide) ?_
      refine zr_istore C [zO X 51, zI (nI s), zI t, zI (-9), zI 0] d_X7_heardAt_37 (Nat.le_of_ble_eq_true rfl) rfl rfl ?_
      refine zfor (f := (fun (i39_1 : Nat) (s39_1 : Int32) => (if (o_Model_has (h 54 (16 + s)) (nI i39_1)) = true then (if (o_Model_has (o_Model_ticks h 54 i39_1) t) = true then (nI i39_1) else s39_1) else s39_1))) (a := (-9)) (fun i39_1 s39_1 => zV X Γ Q 39 [zO X 51, zI (nI s), zI t, zI s39_1, zI (nI i39_1)] [] h g) (fun _ _ => True) (zcn (h 51 1)) trivial (fun i39_1 s39_1 hi39_1 hI39_1 => ⟨trivial, fun hk39_1 => ?_⟩) (fun r39_1 er39_1 hI39_1 => ?_)
      · refine zr_iload C d_X7_heardAt_39 rfl ?_
        refine zr_aload_n C d_X7_heardAt_41 rfl ?_
        refine gf_Model_2 C m755 d_X7_heardAt_42 ?_
        refine zr_icmp_ge C 95 d_X7_heardAt_45 (by decide) (fun c => absurd c (zge_no rfl (by omega))) (fun _ => ?_)
        refine zr_aload_n C d_X7_heardAt_48 rfl ?_
        refine gf_Model_4 C m757 d_X7_heardAt_49 ?_
        refine zr_bipush C (v := 16) d_X7_heardAt_52 (by decide) ?_
        refine zr_iload_n C d_X7_heardAt_54 rfl ?_
        refine zr_iadd C d_X7_heardAt_55 ?_
        refine zr_iald C za_54 (16 + s) (zn_add rfl rfl) (by omega) (by decide) d_X7_heardAt_56 ?_
        refine zr_iload C d_X7_heardAt_57 rfl ?_
        refine zr_callSi (As := [.int (h 54 (16 + s)), .int (nI i39_1)]) (st := []) C (c_Model_has X h g (h 54 (16 + s)) (nI i39_1)) k_Model_has m890 m891 rfl (by decide) rfl (Nat.le_of_ble_eq_true rfl) d_X7_heardAt_59 ?_
        suffices hJ62 : ∀ (y2 : Int32), (if (o_Model_has (h 54 (16 + s)) (nI i39_1)) = true then (if (o_Model_has (o_Model_ticks h 54 i39_1) t) = true then (nI i39_1) else s39_1) else s39_1) = y2 → zV X Γ Q 88 [zO X 51, zI (nI s), zI t, none, zI (nI i39_1)] [.int y2] h g by
          refine zr_ifz_eq C 87 d_X7_heardAt_62 (by decide) (fun c62 => ?_) (fun c62 => ?_)
          · refine zr_iload_n C d_X7_heardAt_87 rfl ?_
            refine zr_lv [zO X 51, zI (nI s), zI t, none, zI (nI i39_1)] (by simp [zle]) ?_
            exact hJ62 s39_1 (((if_neg (zbf c62))))
          · refine zr_aload_n C d_X7_heardAt_65 rfl ?_
            refine zr_aload_n C d_X7_heardAt_66 rfl ?_
            refine gf_Model_4 C m757 d_X7_heardAt_67 ?_
            refine zr_iload C d_X7_heardAt_70 rfl ?_
            refine zr_callVi (As := [zR X 54, .int (nI i39_1)]) (st := []) (c := 51) C (c_Model_ticks X h g 54 i39_1 rfl (by decide) (by omega) (hper i39_1 (by omega))) k_Model_ticks m924 m926 m30 (by decide) (zC_Model X _ _) rfl rfl (by decide) rfl (Nat.le_of_ble_eq_true rfl) d_X7_heardAt_72 ?_
            refine zr_iload_n C d_X7_heardAt_75 rfl ?_
            refine zr_callSi (As := [.int (o_Model_ticks h 54 i39_1), .int t]) (st := []) C (c_Model_has X h g (o_Model_ticks h 54 i39_1) t) k_Model_has m890 m891 rfl (by decide) rfl (Nat.le_of_ble_eq_true rfl) d_X7_heardAt_76 ?_
            refine zr_ifz_eq C 87 d_X7_heardAt_79 (by decide) (fun c79 => ?_) (fun c79 => ?_)
            · refine zr_iload_n C d_X7_heardAt_87 rfl ?_
              refine zr_lv [zO X 51, zI (nI s), zI t, none, zI (nI i39_1)] (by simp [zle]) ?_
              exact hJ62 s39_1 (((if_pos c62).trans ((if_neg (zbf c79)))))
            · refine zr_iload C d_X7_heardAt_82 rfl ?_
              refine zr_goto C 88 d_X7_heardAt_84 (by decide) ?_
              refine zr_lv [zO X 51, zI (nI s), zI t, none, zI (nI i39_1)] (by simp [zle]) ?_
              exact hJ62 (nI i39_1) (((if_pos c62).trans ((if_pos c79))))
        intro y2 ey2
        refine zr_istore_n C [zO X 51, zI (nI s), zI t, zI y2, zI (nI i39_1)] d_X7_heardAt_88 (Nat.le_of_ble_eq_true rfl) rfl rfl ?_
        refine zr_iinc C [zO X 51, zI (nI s), zI t, zI y2, zI (nI (i39_1 + 1))] (v := (nI (i39_1 + 1))) d_X7_heardAt_89 rfl (zn_add rfl rfl) (Nat.le_of_ble_eq_true rfl) rfl rfl ?_
        refine zr_goto C 39 d_X7_heardAt_92 (by decide) ?_
        exact hk39_1 y2 (by subst ey2; exact rfl)
      refine zr_iload C d_X7_heardAt_39 rfl ?_
      refine zr_aload_n C d_X7_heardAt_41 rfl ?_
      refine gf_Model_2 C m755 d_X7_heardAt_42 ?_
      refine zr_icmp_ge C 95 d_X7_heardAt_45 (by decide) (fun _ => ?_) (fun c => absurd (zge_yes rfl (by omega) (by have := zcn_small (h 51 1); omega)) c)
      refine zr_iload_n C d_X7_heardAt_95 rfl ?_
      have eR : o_Model_heardAt h s t = r39_1 := (by subst er39_1; unfold o_Model_heardAt; rw [if_pos c11, if_neg (zbf c27)])
      subst hQ
      rw [eR]
      exact zr_ireti C d_X7_heardAt_96
    · refine zr_bipush C (v := (-9)) d_X7_heardAt_30 (by decide) ?_
      have eR : o_Model_heardAt h s t = (-9) := (by unfold o_Model_heardAt; rw [if_pos c11, if_pos c27])
      subst hQ
      rw [eR]
      exact zr_ireti C d_X7_heardAt_32
theorem d_X7_awakeTicks_0 : decode prog_9_method_63_code 0 = .ok (.aload_n 0, 1) := by decide +kernel
theorem d_X7_awakeTicks_1 : decode prog_9_method_63_code 1 = .ok (.aload_n 0, 1) := by decide +kernel
theorem d_X7_awakeTicks_2 : decode prog_9_method_63_code 2 = .ok (.getfield 16, 3) := by decide +kernel
theorem d_X7_awakeTicks_5 : decode prog_9_method_63_code 5 = .ok (.iload_n 1, 1) := by decide +kernel
theorem d_X7_awakeTicks_6 : decode prog_9_method_63_code 6 = .ok (.invokevirtual 131, 3) := by decide +kernel
theorem d_X7_awakeTicks_9 : decode prog_9_method_63_code 9 = .ok (.istore_n 2, 1) := by decide +kernel
theorem d_X7_awakeTicks_10 : decode prog_9_method_63_code 10 = .ok (.iconst 0, 1) := by decide +kernel
theorem d_X7_awakeTicks_11 : decode prog_9_method_63_code 11 = .ok (.istore_n 3, 1) := by decide +kernel
theorem d_X7_awakeTicks_12 : decode prog_9_method_63_code 12 = .ok (.iload_n 3, 1) := by decide +kernel
theorem d_X7_awakeTicks_13 : decode prog_9_method_63_code 13 = .ok (.aload_n 0, 1) := by decide +kernel
theorem d_X7_awakeTicks_14 : decode prog_9_method_63_code 14 = .ok (.getfield 72, 3) := by decide +kernel
theorem d_X7_awakeTicks_17 : decode prog_9_method_63_code 17 = .ok (.if_icmp .ge 41, 3) := by decide +kernel
theorem d_X7_awakeTicks_20 : decode prog_9_method_63_code 20 = .ok (.iload_n 2, 1) := by decide +kernel
theorem d_X7_awakeTicks_21 : decode prog_9_method_63_code 21 = .ok (.aload_n 0, 1) := by decide +kernel
theorem d_X7_awakeTicks_22 : decode prog_9_method_63_code 22 = .ok (.getfield 16, 3) := by decide +kernel
theorem d_X7_awakeTicks_25 : decode prog_9_method_63_code 25 = .ok (.bipush 16, 2) := by decide +kernel
theorem d_X7_awakeTicks_27 : decode prog_9_method_63_code 27 = .ok (.iload_n 1, 1) := by decide +kernel
theorem d_X7_awakeTicks_28 : decode prog_9_method_63_code 28 = .ok (.iadd, 1) := by decide +kernel
theorem d_X7_awakeTicks_29 : decode prog_9_method_63_code 29 = .ok (.iaload, 1) := by decide +kernel
theorem d_X7_awakeTicks_30 : decode prog_9_method_63_code 30 = .ok (.iload_n 3, 1) := by decide +kernel
theorem d_X7_awakeTicks_31 : decode prog_9_method_63_code 31 = .ok (.invokestatic 107, 3) := by decide +kernel
theorem d_X7_awakeTicks_34 : decode prog_9_method_63_code 34 = .ok (.ifCond .eq 15, 3) := by decide +kernel
theorem d_X7_awakeTicks_37 : decode prog_9_method_63_code 37 = .ok (.aload_n 0, 1) := by decide +kernel
theorem d_X7_awakeTicks_38 : decode prog_9_method_63_code 38 = .ok (.aload_n 0, 1) := by decide +kernel
theorem d_X7_awakeTicks_39 : decode prog_9_method_63_code 39 = .ok (.getfield 16, 3) := by decide +kernel
theorem d_X7_awakeTicks_42 : decode prog_9_method_63_code 42 = .ok (.iload_n 3, 1) := by decide +kernel
theorem d_X7_awakeTicks_43 : decode prog_9_method_63_code 43 = .ok (.invokevirtual 131, 3) := by decide +kernel
theorem d_X7_awakeTicks_46 : decode prog_9_method_63_code 46 = .ok (.goto 4, 3) := by decide +kernel
theorem d_X7_awakeTicks_49 : decode prog_9_method_63_code 49 = .ok (.iconst 0, 1) := by decide +kernel
theorem d_X7_awakeTicks_50 : decode prog_9_method_63_code 50 = .ok (.ior, 1) := by decide +kernel
theorem d_X7_awakeTicks_51 : decode prog_9_method_63_code 51 = .ok (.istore_n 2, 1) := by decide +kernel
theorem d_X7_awakeTicks_52 : decode prog_9_method_63_code 52 = .ok (.iinc 3 1, 3) := by decide +kernel
theorem d_X7_awakeTicks_55 : decode prog_9_method_63_code 55 = .ok (.goto (-43), 3) := by decide +kernel
theorem d_X7_awakeTicks_58 : decode prog_9_method_63_code 58 = .ok (.iload_n 2, 1) := by decide +kernel
theorem d_X7_awakeTicks_59 : decode prog_9_method_63_code 59 = .ok (.ireturn, 1) := by decide +kernel
abbrev M_Model_awakeTicks : zMT := (⟨"PeriodSlotsModel", "awakeTicks", "(I)I"⟩, prog_9_method_63_code, 4, (some .int))
theorem k_Model_awakeTicks : zcall M_Model_awakeTicks 1 := ⟨zU_in (i := 1070) (by decide +kernel) rfl, m62, ⟨by decide, by decide, by decide +kernel⟩, by decide⟩
def o_Model_awakeTicks (h : zHp) (s : Nat) : Int32 :=
  (zrep (fun (i12_1 : Nat) (s12_1 : Int32) => (s12_1 ||| (if (o_Model_has (h 54 (16 + s)) (nI i12_1)) = true then (o_Model_ticks h 54 i12_1) else 0))) (o_Model_ticks h 54 s) (zcn (h 51 1)))
theorem rd_Model_awakeTicks {h h2 : zHp} {s : Nat} (e0 : h2 51 1 = h 51 1) (e1 : h2 53 = h 53) (e2 : h2 54 = h 54) : o_Model_awakeTicks h2 s = o_Model_awakeTicks h s := by
  unfold o_Model_awakeTicks
  simp only [e0, e1, e2, rd_Model_ticks e1 e2]

set_option maxHeartbeats 400000 in
set_option maxRecDepth 20000 in
theorem c_Model_awakeTicks (X : zXT) (h : zHp) (g : zLg) (s : Nat) {x_s : Int32} (e_s : x_s = nI s) (hf0 : zfit h 51 1 8) (hper : zper h) (hl2 : s < 8) (hsn : s < zcn (h 51 1)) : zDi X M_Model_awakeTicks 2 [zR X 51, .int x_s] h g (zI (o_Model_awakeTicks h s)) h g := by
  subst e_s
  have hf0_1 := hf0.1
  refine zDi_of "PeriodSlotsModel" prog_9_method_63_code 4 (some .int) rfl (by decide) [zO X 51, zI (nI s), none, none] rfl (fun _ q => q) (Nat.le_of_ble_eq_true rfl) ?_
  intro Γ Q C hQ
  refine zr_aload_n C d_X7_awakeTicks_0 rfl ?_
  refine zr_aload_n C d_X7_awakeTicks_1 rfl ?_
  refine gf_Model_4 C m757 d_X7_awakeTicks_2 ?_
  refine zr_iload_n C d_X7_awakeTicks_5 rfl ?_
  refine zr_callVi (As := [zR X 54, .int (nI s)]) (st := []) (c := 51) C (c_Model_ticks X h g 54 s rfl (by decide) (by omega) (hper s (by omega))) k_Model_ticks m924 m926 m30 (by decide) (zC_Model X _ _) rfl rfl (by decide) rfl (Nat.le_of_ble_eq_true rfl) d_X7_awakeTicks_6 ?_
  refine zr_istore_n C [zO X 51, zI (nI s), zI (o_Model_ticks h 54 s), none] d_X7_awakeTicks_9 (Nat.le_of_ble_eq_true rfl) rfl rfl ?_
  refine zr_iconst C (v := 0) d_X7_awakeTicks_10 (by decide) ?_
  refine zr_istore_n C [zO X 51, zI (nI s), zI (o_Model_ticks h 54 s), zI 0] d_X7_awakeTicks_11 (Nat.le_of_ble_eq_true rfl) rfl rfl ?_
  refine zfor (f := (fun (i12_1 : Nat) (s12_1 : Int32) => (s12_1 ||| (if (o_Model_has (h 54 (16 + s)) (nI i12_1)) = true then (o_Model_ticks h 54 i12_1) else 0)))) (a := (o_Model_ticks h 54 s)) (fun i12_1 s12_1 => zV X Γ Q 12 [zO X 51, zI (nI s), zI s12_1, zI (nI i12_1)] [] h g) (fun _ _ => True) (zcn (h 51 1)) trivial (fun i12_1 s12_1 hi12_1 hI12_1 => ⟨trivial, fun hk12_1 => ?_⟩) (fun r12_1 er12_1 hI12_1 => ?_)
  · refine zr_iload_n C d_X7_awakeTicks_12 rfl ?_
    refine zr_aload_n C d_X7_awakeTicks_13 rfl ?_
    refine gf_Model_2 C m755 d_X7_awakeTicks_14 ?_
    refine zr_icmp_ge C 58 d_X7_awakeTicks_17 (by decide) (fun c => absurd c (zge_no rfl (by omega))) (fun _ => ?_)
    refine zr_iload_n C d_X7_awakeTicks_20 rfl ?_
    refine zr_aload_n C d_X7_awakeTicks_21 rfl ?_
    refine gf_Model_4 C m757 d_X7_awakeTicks_22 ?_
    refine zr_bipush C (v := 16) d_X7_awakeTicks_25 (by decide) ?_
    refine zr_iload_n C d_X7_awakeTicks_27 rfl ?_
    refine zr_iadd C d_X7_awakeTicks_28 ?_
    refine zr_iald C za_54 (16 + s) (zn_add rfl rfl) (by omega) (by decide) d_X7_awakeTicks_29 ?_
    refine zr_iload_n C d_X7_awakeTicks_30 rfl ?_
    refine zr_callSi (As := [.int (h 54 (16 + s)), .int (nI i12_1)]) (st := [.int s12_1]) C (c_Model_has X h g (h 54 (16 + s)) (nI i12_1)) k_Model_has m890 m891 rfl (by decide) rfl (Nat.le_of_ble_eq_true rfl) d_X7_awakeTicks_31 ?_
    suffices hJ34 : ∀ (y2 : Int32), (if (o_Model_has (h 54 (16 + s)) (nI i12_1)) = true then (o_Model_ticks h 54 i12_1) else 0) = y2 → zV X Γ Q 50 [zO X 51, zI (nI s), none, zI (nI i12_1)] [.int y2, .int s12_1] h g by
      refine zr_ifz_eq C 49 d_X7_awakeTicks_34 (by decide) (fun c34 => ?_) (fun c34 => ?_)
      · refine zr_iconst C (v := 0) d_X7_awakeTicks_49 (by decide) ?_
        refine zr_lv [zO X 51, zI (nI s), none, zI (nI i12_1)] (by simp [zle]) ?_
        exact hJ34 0 (((if_neg (zbf c34))))
      · refine zr_aload_n C d_X7_awakeTicks_37 rfl ?_
        refine zr_aload_n C d_X7_awakeTicks_38 rfl ?_
        refine gf_Model_4 C m757 d_X7_awakeTicks_39 ?_
        refine zr_iload_n C d_X7_awakeTicks_42 rfl ?_
        refine zr_callVi (As := [zR X 54, .int (nI i12_1)]) (st := [.int s12_1]) (c := 51) C (c_Model_ticks X h g 54 i12_1 rfl (by decide) (by omega) (hper i12_1 (by omega))) k_Model_ticks m924 m926 m30 (by decide) (zC_Model X _ _) rfl rfl (by decide) rfl (Nat.le_of_ble_eq_true rfl) d_X7_awakeTicks_43 ?_
        refine zr_goto C 50 d_X7_awakeTicks_46 (by decide) ?_
        refine zr_lv [zO X 51, zI (nI s), none, zI (nI i12_1)] (by simp [zle]) ?_
        exact hJ34 (o_Model_ticks h 54 i12_1) (((if_pos c34)))
    intro y2 ey2
    refine zr_ior C d_X7_awakeTicks_50 ?_
    refine zr_istore_n C [zO X 51, zI (nI s), zI (s12_1 ||| y2), zI (nI i12_1)] d_X7_awakeTicks_51 (Nat.le_of_ble_eq_true rfl) rfl rfl ?_
    refine zr_iinc C [zO X 51, zI (nI s), zI (s12_1 ||| y2), zI (nI (i12_1 + 1))] (v := (nI (i12_1 + 1))) d_X7_awakeTicks_52 rfl (zn_add rfl rfl) (Nat.le_of_ble_eq_true rfl) rfl rfl ?_
    refine zr_goto C 12 d_X7_awakeTicks_55 (by decide) ?_
    exact hk12_1 (s12_1 ||| y2) (by subst ey2; exact rfl)
  refine zr_iload_n C d_X7_awakeTicks_12 rfl ?_
  refine zr_aload_n C d_X7_awakeTicks_13 rfl ?_
  refine gf_Model_2 C m755 d_X7_awakeTicks_14 ?_
  refine zr_icmp_ge C 58 d_X7_awakeTicks_17 (by decide) (fun _ => ?_) (fun c => absurd (zge_yes rfl (by omega) (by have := zcn_small (h 51 1); omega)) c)
  refine zr_iload_n C d_X7_awakeTicks_58 rfl ?_
  have eR : o_Model_awakeTicks h s = r12_1 := (by subst er12_1; unfold o_Model_awakeTicks; exact rfl)
  subst hQ
  rw [eR]
  exact zr_ireti C d_X7_awakeTicks_59
theorem d_X7_awake_0 : decode prog_9_method_64_code 0 = .ok (.aload_n 0, 1) := by decide +kernel
theorem d_X7_awake_1 : decode prog_9_method_64_code 1 = .ok (.iload_n 1, 1) := by decide +kernel
theorem d_X7_awake_2 : decode prog_9_method_64_code 2 = .ok (.invokevirtual 212, 3) := by decide +kernel
theorem d_X7_awake_5 : decode prog_9_method_64_code 5 = .ok (.ifCond .ne 5, 3) := by decide +kernel
theorem d_X7_awake_8 : decode prog_9_method_64_code 8 = .ok (.iconst (-1), 1) := by decide +kernel
theorem d_X7_awake_9 : decode prog_9_method_64_code 9 = .ok (.ireturn, 1) := by decide +kernel
theorem d_X7_awake_10 : decode prog_9_method_64_code 10 = .ok (.iload_n 2, 1) := by decide +kernel
theorem d_X7_awake_11 : decode prog_9_method_64_code 11 = .ok (.i2l, 1) := by decide +kernel
theorem d_X7_awake_12 : decode prog_9_method_64_code 12 = .ok (.lconst 0, 1) := by decide +kernel
theorem d_X7_awake_13 : decode prog_9_method_64_code 13 = .ok (.ldc2_w 243, 3) := by decide +kernel
theorem d_X7_awake_16 : decode prog_9_method_64_code 16 = .ok (.invokestatic 76, 3) := by decide +kernel
theorem d_X7_awake_19 : decode prog_9_method_64_code 19 = .ok (.ifCond .ne 6, 3) := by decide +kernel
theorem d_X7_awake_22 : decode prog_9_method_64_code 22 = .ok (.bipush (-2), 2) := by decide +kernel
theorem d_X7_awake_24 : decode prog_9_method_64_code 24 = .ok (.ireturn, 1) := by decide +kernel
theorem d_X7_awake_25 : decode prog_9_method_64_code 25 = .ok (.aload_n 0, 1) := by decide +kernel
theorem d_X7_awake_26 : decode prog_9_method_64_code 26 = .ok (.iload_n 1, 1) := by decide +kernel
theorem d_X7_awake_27 : decode prog_9_method_64_code 27 = .ok (.invokevirtual 256, 3) := by decide +kernel
theorem d_X7_awake_30 : decode prog_9_method_64_code 30 = .ok (.istore_n 3, 1) := by decide +kernel
theorem d_X7_awake_31 : decode prog_9_method_64_code 31 = .ok (.iconst 0, 1) := by decide +kernel
theorem d_X7_awake_32 : decode prog_9_method_64_code 32 = .ok (.istore 4, 2) := by decide +kernel
theorem d_X7_awake_34 : decode prog_9_method_64_code 34 = .ok (.iconst 0, 1) := by decide +kernel
theorem d_X7_awake_35 : decode prog_9_method_64_code 35 = .ok (.istore 5, 2) := by decide +kernel
theorem d_X7_awake_37 : decode prog_9_method_64_code 37 = .ok (.iconst 0, 1) := by decide +kernel
theorem d_X7_awake_38 : decode prog_9_method_64_code 38 = .ok (.istore 6, 2) := by decide +kernel
theorem d_X7_awake_40 : decode prog_9_method_64_code 40 = .ok (.iload 6, 2) := by decide +kernel
theorem d_X7_awake_42 : decode prog_9_method_64_code 42 = .ok (.bipush 8, 2) := by decide +kernel
theorem d_X7_awake_44 : decode prog_9_method_64_code 44 = .ok (.if_icmp .ge 68, 3) := by decide +kernel
theorem d_X7_awake_47 : decode prog_9_method_64_code 47 = .ok (.iload 4, 2) := by decide +kernel
theorem d_X7_awake_49 : decode prog_9_method_64_code 49 = .ok (.iload_n 3, 1) := by decide +kernel
theorem d_X7_awake_50 : decode prog_9_method_64_code 50 = .ok (.iload 6, 2) := by decide +kernel
theorem d_X7_awake_52 : decode prog_9_method_64_code 52 = .ok (.invokestatic 107, 3) := by decide +kernel
theorem d_X7_awake_55 : decode prog_9_method_64_code 55 = .ok (.ifCond .eq 22, 3) := by decide +kernel
theorem d_X7_awake_58 : decode prog_9_method_64_code 58 = .ok (.iload_n 3, 1) := by decide +kernel
theorem d_X7_awake_59 : decode prog_9_method_64_code 59 = .ok (.iload 6, 2) := by decide +kernel
theorem d_X7_awake_61 : decode prog_9_method_64_code 61 = .ok (.bipush 7, 2) := by decide +kernel
theorem d_X7_awake_63 : decode prog_9_method_64_code 63 = .ok (.iadd, 1) := by decide +kernel
theorem d_X7_awake_64 : decode prog_9_method_64_code 64 = .ok (.bipush 8, 2) := by decide +kernel
theorem d_X7_awake_66 : decode prog_9_method_64_code 66 = .ok (.irem, 1) := by decide +kernel
theorem d_X7_awake_67 : decode prog_9_method_64_code 67 = .ok (.invokestatic 107, 3) := by decide +kernel
theorem d_X7_awake_70 : decode prog_9_method_64_code 70 = .ok (.ifCond .ne 7, 3) := by decide +kernel
theorem d_X7_awake_73 : decode prog_9_method_64_code 73 = .ok (.iconst 1, 1) := by decide +kernel
theorem d_X7_awake_74 : decode prog_9_method_64_code 74 = .ok (.goto 4, 3) := by decide +kernel
theorem d_X7_awake_77 : decode prog_9_method_64_code 77 = .ok (.iconst 0, 1) := by decide +kernel
theorem d_X7_awake_78 : decode prog_9_method_64_code 78 = .ok (.iadd, 1) := by decide +kernel
theorem d_X7_awake_79 : decode prog_9_method_64_code 79 = .ok (.istore 4, 2) := by decide +kernel
theorem d_X7_awake_81 : decode prog_9_method_64_code 81 = .ok (.iload 5, 2) := by decide +kernel
theorem d_X7_awake_83 : decode prog_9_method_64_code 83 = .ok (.aload_n 0, 1) := by decide +kernel
theorem d_X7_awake_84 : decode prog_9_method_64_code 84 = .ok (.iload_n 1, 1) := by decide +kernel
theorem d_X7_awake_85 : decode prog_9_method_64_code 85 = .ok (.iload 6, 2) := by decide +kernel
theorem d_X7_awake_87 : decode prog_9_method_64_code 87 = .ok (.invokevirtual 259, 3) := by decide +kernel
theorem d_X7_awake_90 : decode prog_9_method_64_code 90 = .ok (.bipush (-9), 2) := by decide +kernel
theorem d_X7_awake_92 : decode prog_9_method_64_code 92 = .ok (.if_icmp .ne 7, 3) := by decide +kernel
theorem d_X7_awake_95 : decode prog_9_method_64_code 95 = .ok (.iconst 0, 1) := by decide +kernel
theorem d_X7_awake_96 : decode prog_9_method_64_code 96 = .ok (.goto 7, 3) := by decide +kernel
theorem d_X7_awake_99 : decode prog_9_method_64_code 99 = .ok (.iconst 1, 1) := by decide +kernel
theorem d_X7_awake_100 : decode prog_9_method_64_code 100 = .ok (.iload 6, 2) := by decide +kernel
theorem d_X7_awake_102 : decode prog_9_method_64_code 102 = .ok (.ishl, 1) := by decide +kernel
theorem d_X7_awake_103 : decode prog_9_method_64_code 103 = .ok (.ior, 1) := by decide +kernel
theorem d_X7_awake_104 : decode prog_9_method_64_code 104 = .ok (.istore 5, 2) := by decide +kernel
theorem d_X7_awake_106 : decode prog_9_method_64_code 106 = .ok (.iinc 6 1, 3) := by decide +kernel
theorem d_X7_awake_109 : decode prog_9_method_64_code 109 = .ok (.goto (-69), 3) := by decide +kernel
theorem d_X7_awake_112 : decode prog_9_method_64_code 112 = .ok (.iload_n 2, 1) := by decide +kernel
theorem d_X7_awake_113 : decode prog_9_method_64_code 113 = .ok (.ifCond .ne 7, 3) := by decide +kernel
theorem d_X7_awake_116 : decode prog_9_method_64_code 116 = .ok (.iload_n 3, 1) := by decide +kernel
theorem d_X7_awake_117 : decode prog_9_method_64_code 117 = .ok (.goto 27, 3) := by decide +kernel
theorem d_X7_awake_120 : decode prog_9_method_64_code 120 = .ok (.iload_n 2, 1) := by decide +kernel
theorem d_X7_awake_121 : decode prog_9_method_64_code 121 = .ok (.iconst 1, 1) := by decide +kernel
theorem d_X7_awake_122 : decode prog_9_method_64_code 122 = .ok (.if_icmp .ne 10, 3) := by decide +kernel
theorem d_X7_awake_125 : decode prog_9_method_64_code 125 = .ok (.iload_n 3, 1) := by decide +kernel
theorem d_X7_awake_126 : decode prog_9_method_64_code 126 = .ok (.invokestatic 191, 3) := by decide +kernel
theorem d_X7_awake_129 : decode prog_9_method_64_code 129 = .ok (.goto 15, 3) := by decide +kernel
theorem d_X7_awake_132 : decode prog_9_method_64_code 132 = .ok (.iload_n 2, 1) := by decide +kernel
theorem d_X7_awake_133 : decode prog_9_method_64_code 133 = .ok (.iconst 2, 1) := by decide +kernel
theorem d_X7_awake_134 : decode prog_9_method_64_code 134 = .ok (.if_icmp .ne 8, 3) := by decide +kernel
theorem d_X7_awake_137 : decode prog_9_method_64_code 137 = .ok (.iload 4, 2) := by decide +kernel
theorem d_X7_awake_139 : decode prog_9_method_64_code 139 = .ok (.goto 5, 3) := by decide +kernel
theorem d_X7_awake_142 : decode prog_9_method_64_code 142 = .ok (.iload 5, 2) := by decide +kernel
theorem d_X7_awake_144 : decode prog_9_method_64_code 144 = .ok (.ireturn, 1) := by decide +kernel
abbrev M_Model_awake : zMT := (⟨"PeriodSlotsModel", "awake", "(II)I"⟩, prog_9_method_64_code, 7, (some .int))
theorem k_Model_awake : zcall M_Model_awake 2 := ⟨zU_in (i := 1066) (by decide +kernel) rfl, m62, ⟨by decide, by decide, by decide +kernel⟩, by decide⟩
def o_Model_awake (h : zHp) (s : Int32) (what : Int32) : Int32 :=
  (if (o_Model_isStation h s) = true then (if (o_Model_in (Int32.toInt64 what) 0 3) = true then (if what = 0 then (o_Model_awakeTicks h (zcn s)) else (if what = 1 then (o_Model_ones (o_Model_awakeTicks h (zcn s))) else (if what = 2 then (zrep (fun (i40_3 : Nat) (s40_3 : Int32 × Int32) => ((s40_3.1 + (zb ((o_Model_has (o_Model_awakeTicks h (zcn s)) (nI i40_3)) && (!(o_Model_has (o_Model_awakeTicks h (zcn s)) (zrem ((nI i40_3) + 7) 8)))))), (s40_3.2 ||| (if (o_Model_heardAt h (zcn s) (nI i40_3)) = (-9) then 0 else (zshl 1 (nI i40_3)))))) (0, 0) 8).1 else (zrep (fun (i40_3 : Nat) (s40_3 : Int32 × Int32) => ((s40_3.1 + (zb ((o_Model_has (o_Model_awakeTicks h (zcn s)) (nI i40_3)) && (!(o_Model_has (o_Model_awakeTicks h (zcn s)) (zrem ((nI i40_3) + 7) 8)))))), (s40_3.2 ||| (if (o_Model_heardAt h (zcn s) (nI i40_3)) = (-9) then 0 else (zshl 1 (nI i40_3)))))) (0, 0) 8).2))) else (-2)) else (-1))
theorem rd_Model_awake {h h2 : zHp} {s : Int32} {what : Int32} (e0 : h2 51 1 = h 51 1) (e1 : h2 53 = h 53) (e2 : h2 54 = h 54) : o_Model_awake h2 s what = o_Model_awake h s what := by
  unfold o_Model_awake
  simp only [e0, e1, e2, rd_Model_isStation e0, rd_Model_awakeTicks e0 e1 e2, rd_Model_heardAt e0 e1 e2]

set_option maxHeartbeats 400000 in
set_option maxRecDepth 20000 in
theorem c_Model_awake (X : zXT) (h : zHp) (g : zLg) (s : Int32) (what : Int32) (hf0 : zfit h 51 1 8) (hper : zper h) : zDi X M_Model_awake 4 [zR X 51, .int s, .int what] h g (zI (o_Model_awake h s what)) h g := by
  have hf0_1 := hf0.1
  refine zDi_of "PeriodSlotsModel" prog_9_method_64_code 7 (some .int) rfl (by decide) [zO X 51, zI s, zI what, none, none, none, none] rfl (fun _ q => q) (Nat.le_of_ble_eq_true rfl) ?_
  intro Γ Q C hQ
  refine zr_aload_n C d_X7_awake_0 rfl ?_
  refine zr_iload_n C d_X7_awake_1 rfl ?_
  refine zr_callVi (As := [.int s]) (st := []) (c := 51) C (c_Model_isStation X h g s) k_Model_isStation m980 m982 m40 (by decide) (zC_Model X _ _) rfl rfl (by decide) rfl (Nat.le_of_ble_eq_true rfl) d_X7_awake_2 ?_
  refine zr_ifz_ne C 10 d_X7_awake_5 (by decide) (fun c5 => ?_) (fun c5 => ?_)
  · have ex1 := zist hf0 c5
    have ex1_2 := ex1.2
    have ex1_b := (hf0).1
    refine zr_iload_n C d_X7_awake_10 rfl ?_
    refine zr_i2l C d_X7_awake_11 ?_
    refine zr_lconst C (v := 0) d_X7_awake_12 (by decide) ?_
    refine zr_ldc2 C (v := 3) m1046 d_X7_awake_13 ?_
    refine zr_callSi (As := [.long (Int32.toInt64 what), .long 0, .long 3]) (st := []) C (c_Model_in X h g (Int32.toInt64 what) 0 3) k_Model_in m856 m857 rfl (by decide) rfl (Nat.le_of_ble_eq_true rfl) d_X7_awake_16 ?_
    refine zr_ifz_ne C 25 d_X7_awake_19 (by decide) (fun c19 => ?_) (fun c19 => ?_)
    · have ex2 := zin (N := 3) c19 (by decide) (by decide)
      have ex2_2 := ex2.2
      refine zr_aload_n C d_X7_awake_25 rfl ?_
      refine zr_iload_n C d_X7_awake_26 rfl ?_
      refine zr_callVi (As := [.int s]) (st := []) (c := 51) C (c_Model_awakeTicks X h g (zcn s) (zix ex1.1) hf0 hper (by omega) (by omega)) k_Model_awakeTicks m1067 m1069 m48 (by decide) (zC_Model X _ _) rfl rfl (by decide) rfl (Nat.le_of_ble_eq_true rfl) d_X7_awake_27 ?_
      refine zr_istore_n C [zO X 51, zI s, zI what, zI (o_Model_awakeTicks h (zcn s)), none, none, none] d_X7_awake_30 (Nat.le_of_ble_eq_true rfl) rfl rfl ?_
      refine zr_iconst C (v := 0) d_X7_awake_31 (by decide) ?_
      refine zr_istore C [zO X 51, zI s, zI what, zI (o_Model_awakeTicks h (zcn s)), zI 0, none, none] d_X7_awake_32 (Nat.le_of_ble_eq_true rfl) rfl rfl ?_
      refine zr_iconst C (v := 0) d_X7_awake_34 (by decide) ?_
      refine zr_istore C [zO X 51, zI s, zI what, zI (o_Model_awakeTicks h (zcn s)), zI 0, zI 0, none] d_X7_awake_35 (Nat.le_of_ble_eq_true rfl) rfl rfl ?_
      refine zr_iconst C (v := 0) d_X7_awake_37 (by decide) ?_
      refine zr_istore C [zO X 51, zI s, zI what, zI (o_Model_awakeTicks h (zcn s)), zI 0, zI 0, zI 0] d_X7_awake_38 (Nat.le_of_ble_eq_true rfl) rfl rfl ?_
      refine zfor (f := (fun (i40_3 : Nat) (s40_3 : Int32 × Int32) => ((s40_3.1 + (zb ((o_Model_has (o_Model_awakeTicks h (zcn s)) (nI i40_3)) && (!(o_Model_has (o_Model_awakeTicks h (zcn s)) (zrem ((nI i40_3) + 7) 8)))))), (s40_3.2 ||| (if (o_Model_heardAt h (zcn s) (nI i40_3)) = (-9) then 0 else (zshl 1 (nI i40_3))))))) (a := (0, 0)) (fun i40_3 s40_3 => zV X Γ Q 40 [zO X 51, zI s, zI what, zI (o_Model_awakeTicks h (zcn s)), zI s40_3.1, zI s40_3.2, zI (nI i40_3)] [] h g) (fun _ _ => True) (8) trivial (fun i40_3 s40_3 hi40_3 hI40_3 => ⟨trivial, fun hk40_3 => ?_⟩) (fun r40_3 er40_3 hI40_3 => ?_)
      · refine zr_iload C d_X7_awake_40 rfl ?_
        refine zr_bipush C (v := 8) d_X7_awake_42 (by decide) ?_
        refine zr_icmp_ge C 112 d_X7_awake_44 (by decide) (fun c => absurd c (zge_noN (B := 8) rfl (by omega) (by omega))) (fun _ => ?_)
        refine zr_iload C d_X7_awake_47 rfl ?_
        refine zr_iload_n C d_X7_awake_49 rfl ?_
        refine zr_iload C d_X7_awake_50 rfl ?_
        refine zr_callSi (As := [.int (o_Model_awakeTicks h (zcn s)), .int (nI i40_3)]) (st := [.int s40_3.1]) C (c_Model_has X h g (o_Model_awakeTicks h (zcn s)) (nI i40_3)) k_Model_has m890 m891 rfl (by decide) rfl (Nat.le_of_ble_eq_true rfl) d_X7_awake_52 ?_
        suffices hJ55 : ∀ (y4 : Bool), ((o_Model_has (o_Model_awakeTicks h (zcn s)) (nI i40_3)) && (!(o_Model_has (o_Model_awakeTicks h (zcn s)) (zrem ((nI i40_3) + 7) 8)))) = y4 → zV X Γ Q 78 [zO X 51, zI s, zI what, zI (o_Model_awakeTicks h (zcn s)), none, zI s40_3.2, zI (nI i40_3)] [.int (zb y4), .int s40_3.1] h g by
          refine zr_ifz_eq C 77 d_X7_awake_55 (by decide) (fun c55 => ?_) (fun c55 => ?_)
          · refine zr_iconst C (v := 0) d_X7_awake_77 (by decide) ?_
            refine zr_lv [zO X 51, zI s, zI what, zI (o_Model_awakeTicks h (zcn s)), none, zI s40_3.2, zI (nI i40_3)] (by simp [zle]) ?_
            exact hJ55 false (by simp [c55])
          · refine zr_iload_n C d_X7_awake_58 rfl ?_
            refine zr_iload C d_X7_awake_59 rfl ?_
            refine zr_bipush C (v := 7) d_X7_awake_61 (by decide) ?_
            refine zr_iadd C d_X7_awake_63 ?_
            refine zr_bipush C (v := 8) d_X7_awake_64 (by decide) ?_
            refine zr_irem C d_X7_awake_66 (by decide) ?_
            refine zr_callSi (As := [.int (o_Model_awakeTicks h (zcn s)), .int (zrem ((nI i40_3) + 7) 8)]) (st := [.int s40_3.1]) C (c_Model_has X h g (o_Model_awakeTicks h (zcn s)) (zrem ((nI i40_3) + 7) 8)) k_Model_has m890 m891 rfl (by decide) rfl (Nat.le_of_ble_eq_true rfl) d_X7_awake_67 ?_
            refine zr_ifz_ne C 77 d_X7_awake_70 (by decide) (fun c70 => ?_) (fun c70 => ?_)
            · refine zr_iconst C (v := 0) d_X7_awake_77 (by decide) ?_
              refine zr_lv [zO X 51, zI s, zI what, zI (o_Model_awakeTicks h (zcn s)), none, zI s40_3.2, zI (nI i40_3)] (by simp [zle]) ?_
              exact hJ55 false (by simp [c55, c70])
            · refine zr_iconst C (v := 1) d_X7_awake_73 (by decide) ?_
              refine zr_goto C 78 d_X7_awake_74 (by decide) ?_
              refine zr_lv [zO X 51, zI s, zI what, zI (o_Model_awakeTicks h (zcn s)), none, zI s40_3.2, zI (nI i40_3)] (by simp [zle]) ?_
              exact hJ55 true (by simp [c55, c70])
        intro y4 ey4
        refine zr_iadd C d_X7_awake_78 ?_
        refine zr_istore C [zO X 51, zI s, zI what, zI (o_Model_awakeTicks h (zcn s)), zI (s40_3.1 + (zb y4)), zI s40_3.2, zI (nI i40_3)] d_X7_awake_79 (Nat.le_of_ble_eq_true rfl) rfl rfl ?_
        refine zr_iload C d_X7_awake_81 rfl ?_
        refine zr_aload_n C d_X7_awake_83 rfl ?_
        refine zr_iload_n C d_X7_awake_84 rfl ?_
        refine zr_iload C d_X7_awake_85 rfl ?_
        refine zr_callVi (As := [.int s, .int (nI i40_3)]) (st := [.int s40_3.2]) (c := 51) C (c_Model_heardAt X h g (zcn s) (nI i40_3) (zix ex1.1) hf0 hper (by omega) (by omega)) k_Model_heardAt m1071 m1073 m49 (by decide) (zC_Model X _ _) rfl rfl (by decide) rfl (Nat.le_of_ble_eq_true rfl) d_X7_awake_87 ?_
        refine zr_bipush C (v := (-9)) d_X7_awake_90 (by decide) ?_
        suffices hJ92 : ∀ (y5 : Int32), (if (o_Model_heardAt h (zcn s) (nI i40_3)) = (-9) then 0 else (zshl 1 (nI i40_3))) = y5 → zV X Γ Q 103 [zO X 51, zI s, zI what, zI (o_Model_awakeTicks h (zcn s)), zI (s40_3.1 + (zb y4)), none, zI (nI i40_3)] [.int y5, .int s40_3.2] h g by
          refine zr_icmp_ne C 99 d_X7_awake_92 (by decide) (fun c92 => ?_) (fun c92 => ?_)
          · refine zr_iconst C (v := 1) d_X7_awake_99 (by decide) ?_
            refine zr_iload C d_X7_awake_100 rfl ?_
            refine zr_ishl C d_X7_awake_102 ?_
            refine zr_lv [zO X 51, zI s, zI what, zI (o_Model_awakeTicks h (zcn s)), zI (s40_3.1 + (zb y4)), none, zI (nI i40_3)] (by simp [zle]) ?_
            exact hJ92 (zshl 1 (nI i40_3)) (((if_neg c92)))
          · refine zr_iconst C (v := 0) d_X7_awake_95 (by decide) ?_
            refine zr_goto C 103 d_X7_awake_96 (by decide) ?_
            refine zr_lv [zO X 51, zI s, zI what, zI (o_Model_awakeTicks h (zcn s)), zI (s40_3.1 + (zb y4)), none, zI (nI i40_3)] (by simp [zle]) ?_
            exact hJ92 0 (((if_pos c92)))
        intro y5 ey5
        refine zr_ior C d_X7_awake_103 ?_
        refine zr_istore C [zO X 51, zI s, zI what, zI (o_Model_awakeTicks h (zcn s)), zI (s40_3.1 + (zb y4)), zI (s40_3.2 ||| y5), zI (nI i40_3)] d_X7_awake_104 (Nat.le_of_ble_eq_true rfl) rfl rfl ?_
        refine zr_iinc C [zO X 51, zI s, zI what, zI (o_Model_awakeTicks h (zcn s)), zI (s40_3.1 + (zb y4)), zI (s40_3.2 ||| y5), zI (nI (i40_3 + 1))] (v := (nI (i40_3 + 1))) d_X7_awake_106 rfl (zn_add rfl rfl) (Nat.le_of_ble_eq_true rfl) rfl rfl ?_
        refine zr_goto C 40 d_X7_awake_109 (by decide) ?_
        exact hk40_3 ((s40_3.1 + (zb y4)), (s40_3.2 ||| y5)) (by subst ey5 ey4; exact rfl)
      refine zr_iload C d_X7_awake_40 rfl ?_
      refine zr_bipush C (v := 8) d_X7_awake_42 (by decide) ?_
      refine zr_icmp_ge C 112 d_X7_awake_44 (by decide) (fun _ => ?_) (fun c => absurd (zge_yesN (B := 8) rfl (by omega) (by omega)) c)
      refine zr_iload_n C d_X7_awake_112 rfl ?_
      suffices hJ113 : ∀ (y12 : Int32), (if what = 0 then (o_Model_awakeTicks h (zcn s)) else (if what = 1 then (o_Model_ones (o_Model_awakeTicks h (zcn s))) else (if what = 2 then r40_3.1 else r40_3.2))) = y12 → zV X Γ Q 144 [none, none, none, none, none, none, none] [.int y12] h g by
        refine zr_if_ne C 120 d_X7_awake_113 (by decide) (fun c113 => ?_) (fun c113 => ?_)
        · have en6 := zn_ne (a := zcn what) (b := 0) (zix ex2.1) rfl c113 (zcn_small _) (by decide)
          refine zr_iload_n C d_X7_awake_120 rfl ?_
          refine zr_iconst C (v := 1) d_X7_awake_121 (by decide) ?_
          refine zr_icmp_ne C 132 d_X7_awake_122 (by decide) (fun c122 => ?_) (fun c122 => ?_)
          · have en7 := zn_ne (a := zcn what) (b := 1) (zix ex2.1) rfl c122 (zcn_small _) (by decide)
            refine zr_iload_n C d_X7_awake_132 rfl ?_
            refine zr_iconst C (v := 2) d_X7_awake_133 (by decide) ?_
            refine zr_icmp_ne C 142 d_X7_awake_134 (by decide) (fun c134 => ?_) (fun c134 => ?_)
            · have en8 := zn_ne (a := zcn what) (b := 2) (zix ex2.1) rfl c134 (zcn_small _) (by decide)
              refine zr_iload C d_X7_awake_142 rfl ?_
              refine zr_lv [none, none, none, none, none, none, none] (by simp [zle]) ?_
              exact hJ113 r40_3.2 (((if_neg c113).trans ((if_neg c122).trans ((if_neg c134)))))
            · have en9 := zn_nne (a := zcn what) (b := 2) (zix ex2.1) rfl c134 (zcn_small _) (by decide)
              refine zr_iload C d_X7_awake_137 rfl ?_
              refine zr_goto C 144 d_X7_awake_139 (by decide) ?_
              refine zr_lv [none, none, none, none, none, none, none] (by simp [zle]) ?_
              exact hJ113 r40_3.1 (((if_neg c113).trans ((if_neg c122).trans ((if_pos c134)))))
          · have en10 := zn_nne (a := zcn what) (b := 1) (zix ex2.1) rfl c122 (zcn_small _) (by decide)
            refine zr_iload_n C d_X7_awake_125 rfl ?_
            refine zr_callSi (As := [.int (o_Model_awakeTicks h (zcn s))]) (st := []) C (c_Model_ones X h g (o_Model_awakeTicks h (zcn s))) k_Model_ones m917 m918 rfl (by decide) rfl (Nat.le_of_ble_eq_true rfl) d_X7_awake_126 ?_
            refine zr_goto C 144 d_X7_awake_129 (by decide) ?_
            refine zr_lv [none, none, none, none, none, none, none] (by simp [zle]) ?_
            exact hJ113 (o_Model_ones (o_Model_awakeTicks h (zcn s))) (((if_neg c113).trans ((if_pos c122))))
        · have en11 := zn_nne (a := zcn what) (b := 0) (zix ex2.1) rfl c113 (zcn_small _) (by decide)
          refine zr_iload_n C d_X7_awake_116 rfl ?_
          refine zr_goto C 144 d_X7_awake_117 (by decide) ?_
          refine zr_lv [none, none, none, none, none, none, none] (by simp [zle]) ?_
          exact hJ113 (o_Model_awakeTicks h (zcn s)) (((if_pos c113)))
      intro y12 ey12
      have eR : o_Model_awake h s what = y12 := (by subst ey12 er40_3; unfold o_Model_awake; rw [if_pos c5, if_pos c19])
      subst hQ
      rw [eR]
      exact zr_ireti C d_X7_awake_144
    · refine zr_bipush C (v := (-2)) d_X7_awake_22 (by decide) ?_
      have eR : o_Model_awake h s what = (-2) := (by unfold o_Model_awake; rw [if_pos c5, if_neg (zbf c19)])
      subst hQ
      rw [eR]
      exact zr_ireti C d_X7_awake_24
  · refine zr_iconst C (v := (-1)) d_X7_awake_8 (by decide) ?_
    have eR : o_Model_awake h s what = (-1) := (by unfold o_Model_awake; rw [if_neg (zbf c5)])
    subst hQ
    rw [eR]
    exact zr_ireti C d_X7_awake_9
theorem d_X7_arrives_0 : decode prog_9_method_65_code 0 = .ok (.aload_n 0, 1) := by decide +kernel
theorem d_X7_arrives_1 : decode prog_9_method_65_code 1 = .ok (.iload_n 1, 1) := by decide +kernel
theorem d_X7_arrives_2 : decode prog_9_method_65_code 2 = .ok (.invokevirtual 212, 3) := by decide +kernel
theorem d_X7_arrives_5 : decode prog_9_method_65_code 5 = .ok (.ifCond .eq 11, 3) := by decide +kernel
theorem d_X7_arrives_8 : decode prog_9_method_65_code 8 = .ok (.aload_n 0, 1) := by decide +kernel
theorem d_X7_arrives_9 : decode prog_9_method_65_code 9 = .ok (.iload_n 2, 1) := by decide +kernel
theorem d_X7_arrives_10 : decode prog_9_method_65_code 10 = .ok (.invokevirtual 212, 3) := by decide +kernel
theorem d_X7_arrives_13 : decode prog_9_method_65_code 13 = .ok (.ifCond .ne 5, 3) := by decide +kernel
theorem d_X7_arrives_16 : decode prog_9_method_65_code 16 = .ok (.iconst (-1), 1) := by decide +kernel
theorem d_X7_arrives_17 : decode prog_9_method_65_code 17 = .ok (.ireturn, 1) := by decide +kernel
theorem d_X7_arrives_18 : decode prog_9_method_65_code 18 = .ok (.iload_n 3, 1) := by decide +kernel
theorem d_X7_arrives_19 : decode prog_9_method_65_code 19 = .ok (.i2l, 1) := by decide +kernel
theorem d_X7_arrives_20 : decode prog_9_method_65_code 20 = .ok (.lconst 0, 1) := by decide +kernel
theorem d_X7_arrives_21 : decode prog_9_method_65_code 21 = .ok (.ldc2_w 231, 3) := by decide +kernel
theorem d_X7_arrives_24 : decode prog_9_method_65_code 24 = .ok (.invokestatic 76, 3) := by decide +kernel
theorem d_X7_arrives_27 : decode prog_9_method_65_code 27 = .ok (.ifCond .ne 6, 3) := by decide +kernel
theorem d_X7_arrives_30 : decode prog_9_method_65_code 30 = .ok (.bipush (-2), 2) := by decide +kernel
theorem d_X7_arrives_32 : decode prog_9_method_65_code 32 = .ok (.ireturn, 1) := by decide +kernel
theorem d_X7_arrives_33 : decode prog_9_method_65_code 33 = .ok (.iconst 1, 1) := by decide +kernel
theorem d_X7_arrives_34 : decode prog_9_method_65_code 34 = .ok (.iload_n 1, 1) := by decide +kernel
theorem d_X7_arrives_35 : decode prog_9_method_65_code 35 = .ok (.ishl, 1) := by decide +kernel
theorem d_X7_arrives_36 : decode prog_9_method_65_code 36 = .ok (.istore 4, 2) := by decide +kernel
theorem d_X7_arrives_38 : decode prog_9_method_65_code 38 = .ok (.iconst 0, 1) := by decide +kernel
theorem d_X7_arrives_39 : decode prog_9_method_65_code 39 = .ok (.istore 5, 2) := by decide +kernel
theorem d_X7_arrives_41 : decode prog_9_method_65_code 41 = .ok (.iload 5, 2) := by decide +kernel
theorem d_X7_arrives_43 : decode prog_9_method_65_code 43 = .ok (.bipush 64, 2) := by decide +kernel
theorem d_X7_arrives_45 : decode prog_9_method_65_code 45 = .ok (.if_icmp .gt 92, 3) := by decide +kernel
theorem d_X7_arrives_48 : decode prog_9_method_65_code 48 = .ok (.iload 4, 2) := by decide +kernel
theorem d_X7_arrives_50 : decode prog_9_method_65_code 50 = .ok (.iload_n 2, 1) := by decide +kernel
theorem d_X7_arrives_51 : decode prog_9_method_65_code 51 = .ok (.invokestatic 107, 3) := by decide +kernel
theorem d_X7_arrives_54 : decode prog_9_method_65_code 54 = .ok (.ifCond .eq 6, 3) := by decide +kernel
theorem d_X7_arrives_57 : decode prog_9_method_65_code 57 = .ok (.iload 5, 2) := by decide +kernel
theorem d_X7_arrives_59 : decode prog_9_method_65_code 59 = .ok (.ireturn, 1) := by decide +kernel
theorem d_X7_arrives_60 : decode prog_9_method_65_code 60 = .ok (.iload 4, 2) := by decide +kernel
theorem d_X7_arrives_62 : decode prog_9_method_65_code 62 = .ok (.istore 6, 2) := by decide +kernel
theorem d_X7_arrives_64 : decode prog_9_method_65_code 64 = .ok (.iconst 0, 1) := by decide +kernel
theorem d_X7_arrives_65 : decode prog_9_method_65_code 65 = .ok (.istore 7, 2) := by decide +kernel
theorem d_X7_arrives_67 : decode prog_9_method_65_code 67 = .ok (.iload 7, 2) := by decide +kernel
theorem d_X7_arrives_69 : decode prog_9_method_65_code 69 = .ok (.aload_n 0, 1) := by decide +kernel
theorem d_X7_arrives_70 : decode prog_9_method_65_code 70 = .ok (.getfield 72, 3) := by decide +kernel
theorem d_X7_arrives_73 : decode prog_9_method_65_code 73 = .ok (.if_icmp .ge 54, 3) := by decide +kernel
theorem d_X7_arrives_76 : decode prog_9_method_65_code 76 = .ok (.aload_n 0, 1) := by decide +kernel
theorem d_X7_arrives_77 : decode prog_9_method_65_code 77 = .ok (.iload 7, 2) := by decide +kernel
theorem d_X7_arrives_79 : decode prog_9_method_65_code 79 = .ok (.iload_n 3, 1) := by decide +kernel
theorem d_X7_arrives_80 : decode prog_9_method_65_code 80 = .ok (.iload 5, 2) := by decide +kernel
theorem d_X7_arrives_82 : decode prog_9_method_65_code 82 = .ok (.iadd, 1) := by decide +kernel
theorem d_X7_arrives_83 : decode prog_9_method_65_code 83 = .ok (.bipush 8, 2) := by decide +kernel
theorem d_X7_arrives_85 : decode prog_9_method_65_code 85 = .ok (.irem, 1) := by decide +kernel
theorem d_X7_arrives_86 : decode prog_9_method_65_code 86 = .ok (.invokevirtual 259, 3) := by decide +kernel
theorem d_X7_arrives_89 : decode prog_9_method_65_code 89 = .ok (.istore 8, 2) := by decide +kernel
theorem d_X7_arrives_91 : decode prog_9_method_65_code 91 = .ok (.iload 6, 2) := by decide +kernel
theorem d_X7_arrives_93 : decode prog_9_method_65_code 93 = .ok (.iload 8, 2) := by decide +kernel
theorem d_X7_arrives_95 : decode prog_9_method_65_code 95 = .ok (.bipush (-9), 2) := by decide +kernel
theorem d_X7_arrives_97 : decode prog_9_method_65_code 97 = .ok (.if_icmp .eq 20, 3) := by decide +kernel
theorem d_X7_arrives_100 : decode prog_9_method_65_code 100 = .ok (.iload 4, 2) := by decide +kernel
theorem d_X7_arrives_102 : decode prog_9_method_65_code 102 = .ok (.iload 8, 2) := by decide +kernel
theorem d_X7_arrives_104 : decode prog_9_method_65_code 104 = .ok (.invokestatic 107, 3) := by decide +kernel
theorem d_X7_arrives_107 : decode prog_9_method_65_code 107 = .ok (.ifCond .eq 10, 3) := by decide +kernel
theorem d_X7_arrives_110 : decode prog_9_method_65_code 110 = .ok (.iconst 1, 1) := by decide +kernel
theorem d_X7_arrives_111 : decode prog_9_method_65_code 111 = .ok (.iload 7, 2) := by decide +kernel
theorem d_X7_arrives_113 : decode prog_9_method_65_code 113 = .ok (.ishl, 1) := by decide +kernel
theorem d_X7_arrives_114 : decode prog_9_method_65_code 114 = .ok (.goto 4, 3) := by decide +kernel
theorem d_X7_arrives_117 : decode prog_9_method_65_code 117 = .ok (.iconst 0, 1) := by decide +kernel
theorem d_X7_arrives_118 : decode prog_9_method_65_code 118 = .ok (.ior, 1) := by decide +kernel
theorem d_X7_arrives_119 : decode prog_9_method_65_code 119 = .ok (.istore 6, 2) := by decide +kernel
theorem d_X7_arrives_121 : decode prog_9_method_65_code 121 = .ok (.iinc 7 1, 3) := by decide +kernel
theorem d_X7_arrives_124 : decode prog_9_method_65_code 124 = .ok (.goto (-57), 3) := by decide +kernel
theorem d_X7_arrives_127 : decode prog_9_method_65_code 127 = .ok (.iload 6, 2) := by decide +kernel
theorem d_X7_arrives_129 : decode prog_9_method_65_code 129 = .ok (.istore 4, 2) := by decide +kernel
theorem d_X7_arrives_131 : decode prog_9_method_65_code 131 = .ok (.iinc 5 1, 3) := by decide +kernel
theorem d_X7_arrives_134 : decode prog_9_method_65_code 134 = .ok (.goto (-93), 3) := by decide +kernel
theorem d_X7_arrives_137 : decode prog_9_method_65_code 137 = .ok (.bipush (-9), 2) := by decide +kernel
theorem d_X7_arrives_139 : decode prog_9_method_65_code 139 = .ok (.ireturn, 1) := by decide +kernel
abbrev M_Model_arrives : zMT := (⟨"PeriodSlotsModel", "arrives", "(III)I"⟩, prog_9_method_65_code, 9, (some .int))
theorem k_Model_arrives : zcall M_Model_arrives 3 := ⟨zU_in (i := 1082) (by decide +kernel) rfl, m62, ⟨by decide, by decide, by decide +kernel⟩, by decide⟩
def o_Model_arrives (h : zHp) (from_ : Int32) (to : Int32) (t : Int32) : Int32 :=
  (if (o_Model_isStation h from_) = true then (if (o_Model_isStation h to) = true then (if (o_Model_in (Int32.toInt64 t) 0 7) = true then (Sum.elim (fun r41_4 => (-9)) (fun q41_4 => q41_4) (zrex (fun (i41_4 : Nat) (s41_4 : Int32) => ((if (o_Model_has s41_4 to) = true then .inr (nI i41_4) else .inl (zrep (fun (i67_5 : Nat) (s67_5 : Int32) => (s67_5 ||| (if (o_Model_heardAt h i67_5 (zrem (t + (nI i41_4)) 8)) = (-9) then 0 else (if (o_Model_has s41_4 (o_Model_heardAt h i67_5 (zrem (t + (nI i41_4)) 8))) = true then (zshl 1 (nI i67_5)) else 0)))) s41_4 (zcn (h 51 1)))) : (Int32) ⊕ (Int32))) (zshl 1 from_) 65)) else (-2)) else (-1)) else (-1))
theorem rd_Model_arrives {h h2 : zHp} {from_ : Int32} {to : Int32} {t : Int32} (e0 : h2 51 1 = h 51 1) (e1 : h2 53 = h 53) (e2 : h2 54 = h 54) : o_Model_arrives h2 from_ to t = o_Model_arrives h from_ to t := by
  unfold o_Model_arrives
  simp only [e0, e1, e2, rd_Model_isStation e0, rd_Model_heardAt e0 e1 e2]

set_option maxHeartbeats 400000 in
set_option maxRecDepth 20000 in
theorem c_Model_arrives (X : zXT) (h : zHp) (g : zLg) (from_ : Int32) (to : Int32) (t : Int32) (hf0 : zfit h 51 1 8) (hper : zper h) : zDi X M_Model_arrives 4 [zR X 51, .int from_, .int to, .int t] h g (zI (o_Model_arrives h from_ to t)) h g := by
  have hf0_1 := hf0.1
  refine zDi_of "PeriodSlotsModel" prog_9_method_65_code 9 (some .int) rfl (by decide) [zO X 51, zI from_, zI to, zI t, none, none, none, none, none] rfl (fun _ q => q) (Nat.le_of_ble_eq_true rfl) ?_
  intro Γ Q C hQ
  refine zr_aload_n C d_X7_arrives_0 rfl ?_
  refine zr_iload_n C d_X7_arrives_1 rfl ?_
  refine zr_callVi (As := [.int from_]) (st := []) (c := 51) C (c_Model_isStation X h g from_) k_Model_isStation m980 m982 m40 (by decide) (zC_Model X _ _) rfl rfl (by decide) rfl (Nat.le_of_ble_eq_true rfl) d_X7_arrives_2 ?_
  refine zr_ifz_eq C 16 d_X7_arrives_5 (by decide) (fun c5 => ?_) (fun c5 => ?_)
  · refine zr_iconst C (v := (-1)) d_X7_arrives_16 (by decide) ?_
    have eR : o_Model_arrives h from_ to t = (-1) := (by unfold o_Model_arrives; rw [if_neg (zbf c5)])
    subst hQ
    rw [eR]
    exact zr_ireti C d_X7_arrives_17
  · have ex1 := zist hf0 c5
    have ex1_2 := ex1.2
    have ex1_b := (hf0).1
    refine zr_aload_n C d_X7_arrives_8 rfl ?_
    refine zr_iload_n C d_X7_arrives_9 rfl ?_
    refine zr_callVi (As := [.int to]) (st := []) (c := 51) C (c_Model_isStation X h g to) k_Model_isStation m980 m982 m40 (by decide) (zC_Model X _ _) rfl rfl (by decide) rfl (Nat.le_of_ble_eq_true rfl) d_X7_arrives_10 ?_
    refine zr_ifz_ne C 18 d_X7_arrives_13 (by decide) (fun c13 => ?_) (fun c13 => ?_)
    · have ex2 := zist hf0 c13
      have ex2_2 := ex2.2
      have ex2_b := (hf0).1
      refine zr_iload_n C d_X7_arrives_18 rfl ?_
      refine zr_i2l C d_X7_arrives_19 ?_
      refine zr_lconst C (v := 0) d_X7_arrives_20 (by decide) ?_
      refine zr_ldc2 C (v := 7) m1018 d_X7_arrives_21 ?_
      refine zr_callSi (As := [.long (Int32.toInt64 t), .long 0, .long 7]) (st := []) C (c_Model_in X h g (Int32.toInt64 t) 0 7) k_Model_in m856 m857 rfl (by decide) rfl (Nat.le_of_ble_eq_true rfl) d_X7_arrives_24 ?_
      refine zr_ifz_ne C 33 d_X7_arrives_27 (by decide) (fun c27 => ?_) (fun c27 => ?_)
      · have ex3 := zin (N := 7) c27 (by decide) (by decide)
        have ex3_2 := ex3.2
        refine zr_iconst C (v := 1) d_X7_arrives_33 (by decide) ?_
        refine zr_iload_n C d_X7_arrives_34 rfl ?_
        refine zr_ishl C d_X7_arrives_35 ?_
        refine zr_istore C [zO X 51, zI from_, zI to, zI t, zI (zshl 1 from_), none, none, none, none] d_X7_arrives_36 (Nat.le_of_ble_eq_true rfl) rfl rfl ?_
        refine zr_iconst C (v := 0) d_X7_arrives_38 (by decide) ?_
        refine zr_istore C [zO X 51, zI from_, zI to, zI t, zI (zshl 1 from_), zI 0, none, none, none] d_X7_arrives_39 (Nat.le_of_ble_eq_true rfl) rfl rfl ?_
        refine zr_lv [zO X 51, none, zI to, zI t, zI (zshl 1 from_), zI 0, none, none, none] (by simp [zle]) ?_
        refine zforx (f := (fun (i41_4 : Nat) (s41_4 : Int32) => ((if (o_Model_has s41_4 to) = true then .inr (nI i41_4) else .inl (zrep (fun (i67_5 : Nat) (s67_5 : Int32) => (s67_5 ||| (if (o_Model_heardAt h i67_5 (zrem (t + (nI i41_4)) 8)) = (-9) then 0 else (if (o_Model_has s41_4 (o_Model_heardAt h i67_5 (zrem (t + (nI i41_4)) 8))) = true then (zshl 1 (nI i67_5)) else 0)))) s41_4 (zcn (h 51 1)))) : (Int32) ⊕ (Int32)))) (a := (zshl 1 from_)) (fun i41_4 s41_4 => zV X Γ Q 41 [zO X 51, none, zI to, zI t, zI s41_4, zI (nI i41_4), none, none, none] [] h g) (fun _ _ => True) (65) trivial (fun i41_4 s41_4 hi41_4 hI41_4 => ⟨(fun _ _ => trivial), fun hk41_4 hx41_4 => ?_⟩) (fun r41_4 er41_4 hI41_4 => ?_)
        · refine zr_iload C d_X7_arrives_41 rfl ?_
          refine zr_bipush C (v := 64) d_X7_arrives_43 (by decide) ?_
          refine zr_icmp_gt C 137 d_X7_arrives_45 (by decide) (fun c => absurd c (zgt_noN (B := 64) rfl (by omega) (by omega))) (fun _ => ?_)
          refine zr_iload C d_X7_arrives_48 rfl ?_
          refine zr_iload_n C d_X7_arrives_50 rfl ?_
          refine zr_callSi (As := [.int s41_4, .int to]) (st := []) C (c_Model_has X h g s41_4 to) k_Model_has m890 m891 rfl (by decide) rfl (Nat.le_of_ble_eq_true rfl) d_X7_arrives_51 ?_
          refine zr_ifz_eq C 60 d_X7_arrives_54 (by decide) (fun c54 => ?_) (fun c54 => ?_)
          · refine zr_iload C d_X7_arrives_60 rfl ?_
            refine zr_istore C [zO X 51, none, zI to, zI t, zI s41_4, zI (nI i41_4), zI s41_4, none, none] d_X7_arrives_62 (Nat.le_of_ble_eq_true rfl) rfl rfl ?_
            refine zr_iconst C (v := 0) d_X7_arrives_64 (by decide) ?_
            refine zr_istore C [zO X 51, none, zI to, zI t, zI s41_4, zI (nI i41_4), zI s41_4, zI 0, none] d_X7_arrives_65 (Nat.le_of_ble_eq_true rfl) rfl rfl ?_
            refine zfor (f := (fun (i67_5 : Nat) (s67_5 : Int32) => (s67_5 ||| (if (o_Model_heardAt h i67_5 (zrem (t + (nI i41_4)) 8)) = (-9) then 0 else (if (o_Model_has s41_4 (o_Model_heardAt h i67_5 (zrem (t + (nI i41_4)) 8))) = true then (zshl 1 (nI i67_5)) else 0))))) (a := s41_4) (fun i67_5 s67_5 => zV X Γ Q 67 [zO X 51, none, zI to, zI t, zI s41_4, zI (nI i41_4), zI s67_5, zI (nI i67_5), none] [] h g) (fun _ _ => True) (zcn (h 51 1)) trivial (fun i67_5 s67_5 hi67_5 hI67_5 => ⟨trivial, fun hk67_5 => ?_⟩) (fun r67_5 er67_5 hI67_5 => ?_)
            · refine zr_iload C d_X7_arrives_67 rfl ?_
              refine zr_aload_n C d_X7_arrives_69 rfl ?_
              refine gf_Model_2 C m755 d_X7_arrives_70 ?_
              refine zr_icmp_ge C 127 d_X7_arrives_73 (by decide) (fun c => absurd c (zge_no rfl (by omega))) (fun _ => ?_)
              refine zr_aload_n C d_X7_arrives_76 rfl ?_
              refine zr_iload C d_X7_arrives_77 rfl ?_
              refine zr_iload_n C d_X7_arrives_79 rfl ?_
              refine zr_iload C d_X7_arrives_80 rfl ?_
              refine zr_iadd C d_X7_arrives_82 ?_
              refine zr_bipush C (v := 8) d_X7_arrives_83 (by decide) ?_
              refine zr_irem C d_X7_arrives_85 (by decide) ?_
              refine zr_callVi (As := [.int (nI i67_5), .int (zrem (t + (nI i41_4)) 8)]) (st := []) (c := 51) C (c_Model_heardAt X h g i67_5 (zrem (t + (nI i41_4)) 8) rfl hf0 hper (by omega) (by omega)) k_Model_heardAt m1071 m1073 m49 (by decide) (zC_Model X _ _) rfl rfl (by decide) rfl (Nat.le_of_ble_eq_true rfl) d_X7_arrives_86 ?_
              refine zr_istore C [zO X 51, none, zI to, zI t, zI s41_4, zI (nI i41_4), zI s67_5, zI (nI i67_5), zI (o_Model_heardAt h i67_5 (zrem (t + (nI i41_4)) 8))] d_X7_arrives_89 (Nat.le_of_ble_eq_true rfl) rfl rfl ?_
              refine zr_iload C d_X7_arrives_91 rfl ?_
              refine zr_iload C d_X7_arrives_93 rfl ?_
              refine zr_bipush C (v := (-9)) d_X7_arrives_95 (by decide) ?_
              suffices hJ97 : ∀ (y6 : Int32), (if (o_Model_heardAt h i67_5 (zrem (t + (nI i41_4)) 8)) = (-9) then 0 else (if (o_Model_has s41_4 (o_Model_heardAt h i67_5 (zrem (t + (nI i41_4)) 8))) = true then (zshl 1 (nI i67_5)) else 0)) = y6 → zV X Γ Q 118 [zO X 51, none, zI to, zI t, zI s41_4, zI (nI i41_4), none, zI (nI i67_5), none] [.int y6, .int s67_5] h g by
                refine zr_icmp_eq C 117 d_X7_arrives_97 (by decide) (fun c97 => ?_) (fun c97 => ?_)
                · refine zr_iconst C (v := 0) d_X7_arrives_117 (by decide) ?_
                  refine zr_lv [zO X 51, none, zI to, zI t, zI s41_4, zI (nI i41_4), none, zI (nI i67_5), none] (by simp [zle]) ?_
                  exact hJ97 0 (((if_pos c97)))
                · refine zr_iload C d_X7_arrives_100 rfl ?_
                  refine zr_iload C d_X7_arrives_102 rfl ?_
                  refine zr_callSi (As := [.int s41_4, .int (o_Model_heardAt h i67_5 (zrem (t + (nI i41_4)) 8))]) (st := [.int s67_5]) C (c_Model_has X h g s41_4 (o_Model_heardAt h i67_5 (zrem (t + (nI i41_4)) 8))) k_Model_has m890 m891 rfl (by decide) rfl (Nat.le_of_ble_eq_true rfl) d_X7_arrives_104 ?_
                  refine zr_ifz_eq C 117 d_X7_arrives_107 (by decide) (fun c107 => ?_) (fun c107 => ?_)
                  · refine zr_iconst C (v := 0) d_X7_arrives_117 (by decide) ?_
                    refine zr_lv [zO X 51, none, zI to, zI t, zI s41_4, zI (nI i41_4), none, zI (nI i67_5), none] (by simp [zle]) ?_
                    exact hJ97 0 (((if_neg c97).trans ((if_neg (zbf c107)))))
                  · refine zr_iconst C (v := 1) d_X7_arrives_110 (by decide) ?_
                    refine zr_iload C d_X7_arrives_111 rfl ?_
                    refine zr_ishl C d_X7_arrives_113 ?_
                    refine zr_goto C 118 d_X7_arrives_114 (by decide) ?_
                    refine zr_lv [zO X 51, none, zI to, zI t, zI s41_4, zI (nI i41_4), none, zI (nI i67_5), none] (by simp [zle]) ?_
                    exact hJ97 (zshl 1 (nI i67_5)) (((if_neg c97).trans ((if_pos c107))))
              intro y6 ey6
              refine zr_ior C d_X7_arrives_118 ?_
              refine zr_istore C [zO X 51, none, zI to, zI t, zI s41_4, zI (nI i41_4), zI (s67_5 ||| y6), zI (nI i67_5), none] d_X7_arrives_119 (Nat.le_of_ble_eq_true rfl) rfl rfl ?_
              refine zr_iinc C [zO X 51, none, zI to, zI t, zI s41_4, zI (nI i41_4), zI (s67_5 ||| y6), zI (nI (i67_5 + 1)), none] (v := (nI (i67_5 + 1))) d_X7_arrives_121 rfl (zn_add rfl rfl) (Nat.le_of_ble_eq_true rfl) rfl rfl ?_
              refine zr_goto C 67 d_X7_arrives_124 (by decide) ?_
              exact hk67_5 (s67_5 ||| y6) (by subst ey6; exact rfl)
            refine zr_iload C d_X7_arrives_67 rfl ?_
            refine zr_aload_n C d_X7_arrives_69 rfl ?_
            refine gf_Model_2 C m755 d_X7_arrives_70 ?_
            refine zr_icmp_ge C 127 d_X7_arrives_73 (by decide) (fun _ => ?_) (fun c => absurd (zge_yes rfl (by omega) (by have := zcn_small (h 51 1); omega)) c)
            refine zr_iload C d_X7_arrives_127 rfl ?_
            refine zr_istore C [zO X 51, none, zI to, zI t, zI r67_5, zI (nI i41_4), zI r67_5, zI (nI (zcn (h 51 1))), none] d_X7_arrives_129 (Nat.le_of_ble_eq_true rfl) rfl rfl ?_
            refine zr_iinc C [zO X 51, none, zI to, zI t, zI r67_5, zI (nI (i41_4 + 1)), zI r67_5, zI (nI (zcn (h 51 1))), none] (v := (nI (i41_4 + 1))) d_X7_arrives_131 rfl (zn_add rfl rfl) (Nat.le_of_ble_eq_true rfl) rfl rfl ?_
            refine zr_goto C 41 d_X7_arrives_134 (by decide) ?_
            refine zr_lv [zO X 51, none, zI to, zI t, zI r67_5, zI (nI (i41_4 + 1)), none, none, none] (by simp [zle]) ?_
            exact hk41_4 r67_5 (by subst er67_5; exact ((if_neg (zbf c54))))
          · refine zr_iload C d_X7_arrives_57 rfl ?_
            have hr41_4 := hx41_4 ((nI i41_4)) (((if_pos c54)))
            have eR : o_Model_arrives h from_ to t = (nI i41_4) := (by unfold o_Model_arrives; exact ((if_pos c5).trans ((if_pos c13).trans ((if_pos c27).trans ((congrArg (Sum.elim _ _) hr41_4))))))
            subst hQ
            rw [eR]
            exact zr_ireti C d_X7_arrives_59
        refine zr_iload C d_X7_arrives_41 rfl ?_
        refine zr_bipush C (v := 64) d_X7_arrives_43 (by decide) ?_
        refine zr_icmp_gt C 137 d_X7_arrives_45 (by decide) (fun _ => ?_) (fun c => absurd (zgt_yesN (B := 64) rfl (by omega) (by omega)) c)
        refine zr_bipush C (v := (-9)) d_X7_arrives_137 (by decide) ?_
        have eR : o_Model_arrives h from_ to t = (-9) := (by unfold o_Model_arrives; exact ((if_pos c5).trans ((if_pos c13).trans ((if_pos c27).trans ((congrArg (Sum.elim _ _) er41_4))))))
        subst hQ
        rw [eR]
        exact zr_ireti C d_X7_arrives_139
      · refine zr_bipush C (v := (-2)) d_X7_arrives_30 (by decide) ?_
        have eR : o_Model_arrives h from_ to t = (-2) := (by unfold o_Model_arrives; rw [if_pos c5, if_pos c13, if_neg (zbf c27)])
        subst hQ
        rw [eR]
        exact zr_ireti C d_X7_arrives_32
    · refine zr_iconst C (v := (-1)) d_X7_arrives_16 (by decide) ?_
      have eR : o_Model_arrives h from_ to t = (-1) := (by unfold o_Model_arrives; rw [if_pos c5, if_neg (zbf c13)])
      subst hQ
      rw [eR]
      exact zr_ireti C d_X7_arrives_17
theorem d_X7_judged_0 : decode prog_9_method_66_code 0 = .ok (.iload_n 1, 1) := by decide +kernel
theorem d_X7_judged_1 : decode prog_9_method_66_code 1 = .ok (.tableswitch 374 1 7 #[43, 89, 147, 195, 223, 261, 323], 43) := by decide +kernel
theorem d_X7_judged_44 : decode prog_9_method_66_code 44 = .ok (.aload_n 0, 1) := by decide +kernel
theorem d_X7_judged_45 : decode prog_9_method_66_code 45 = .ok (.iload_n 2, 1) := by decide +kernel
theorem d_X7_judged_46 : decode prog_9_method_66_code 46 = .ok (.invokevirtual 212, 3) := by decide +kernel
theorem d_X7_judged_49 : decode prog_9_method_66_code 49 = .ok (.ifCond .eq 21, 3) := by decide +kernel
theorem d_X7_judged_52 : decode prog_9_method_66_code 52 = .ok (.aload_n 0, 1) := by decide +kernel
theorem d_X7_judged_53 : decode prog_9_method_66_code 53 = .ok (.iload_n 3, 1) := by decide +kernel
theorem d_X7_judged_54 : decode prog_9_method_66_code 54 = .ok (.invokevirtual 212, 3) := by decide +kernel
theorem d_X7_judged_57 : decode prog_9_method_66_code 57 = .ok (.ifCond .eq 13, 3) := by decide +kernel
theorem d_X7_judged_60 : decode prog_9_method_66_code 60 = .ok (.iload_n 2, 1) := by decide +kernel
theorem d_X7_judged_61 : decode prog_9_method_66_code 61 = .ok (.iload_n 3, 1) := by decide +kernel
theorem d_X7_judged_62 : decode prog_9_method_66_code 62 = .ok (.if_icmp .eq 8, 3) := by decide +kernel
theorem d_X7_judged_65 : decode prog_9_method_66_code 65 = .ok (.iload 4, 2) := by decide +kernel
theorem d_X7_judged_67 : decode prog_9_method_66_code 67 = .ok (.ifCond .eq 5, 3) := by decide +kernel
theorem d_X7_judged_70 : decode prog_9_method_66_code 70 = .ok (.iconst 0, 1) := by decide +kernel
theorem d_X7_judged_71 : decode prog_9_method_66_code 71 = .ok (.ireturn, 1) := by decide +kernel
theorem d_X7_judged_72 : decode prog_9_method_66_code 72 = .ok (.aload_n 0, 1) := by decide +kernel
theorem d_X7_judged_73 : decode prog_9_method_66_code 73 = .ok (.getfield 19, 3) := by decide +kernel
theorem d_X7_judged_76 : decode prog_9_method_66_code 76 = .ok (.invokestatic 221, 3) := by decide +kernel
theorem d_X7_judged_79 : decode prog_9_method_66_code 79 = .ok (.aload_n 0, 1) := by decide +kernel
theorem d_X7_judged_80 : decode prog_9_method_66_code 80 = .ok (.getfield 19, 3) := by decide +kernel
theorem d_X7_judged_83 : decode prog_9_method_66_code 83 = .ok (.iload_n 2, 1) := by decide +kernel
theorem d_X7_judged_84 : decode prog_9_method_66_code 84 = .ok (.iload_n 3, 1) := by decide +kernel
theorem d_X7_judged_85 : decode prog_9_method_66_code 85 = .ok (.invokestatic 224, 3) := by decide +kernel
theorem d_X7_judged_88 : decode prog_9_method_66_code 88 = .ok (.iconst 1, 1) := by decide +kernel
theorem d_X7_judged_89 : decode prog_9_method_66_code 89 = .ok (.ireturn, 1) := by decide +kernel
theorem d_X7_judged_90 : decode prog_9_method_66_code 90 = .ok (.aload_n 0, 1) := by decide +kernel
theorem d_X7_judged_91 : decode prog_9_method_66_code 91 = .ok (.iload_n 2, 1) := by decide +kernel
theorem d_X7_judged_92 : decode prog_9_method_66_code 92 = .ok (.invokevirtual 212, 3) := by decide +kernel
theorem d_X7_judged_95 : decode prog_9_method_66_code 95 = .ok (.ifCond .eq 24, 3) := by decide +kernel
theorem d_X7_judged_98 : decode prog_9_method_66_code 98 = .ok (.iload 4, 2) := by decide +kernel
theorem d_X7_judged_100 : decode prog_9_method_66_code 100 = .ok (.ifCond .ne 19, 3) := by decide +kernel
theorem d_X7_judged_103 : decode prog_9_method_66_code 103 = .ok (.iload_n 3, 1) := by decide +kernel
theorem d_X7_judged_104 : decode prog_9_method_66_code 104 = .ok (.bipush 9, 2) := by decide +kernel
theorem d_X7_judged_106 : decode prog_9_method_66_code 106 = .ok (.if_icmp .eq 15, 3) := by decide +kernel
theorem d_X7_judged_109 : decode prog_9_method_66_code 109 = .ok (.iload_n 3, 1) := by decide +kernel
theorem d_X7_judged_110 : decode prog_9_method_66_code 110 = .ok (.aload_n 0, 1) := by decide +kernel
theorem d_X7_judged_111 : decode prog_9_method_66_code 111 = .ok (.getfield 13, 3) := by decide +kernel
theorem d_X7_judged_114 : decode prog_9_method_66_code 114 = .ok (.iload_n 2, 1) := by decide +kernel
theorem d_X7_judged_115 : decode prog_9_method_66_code 115 = .ok (.iaload, 1) := by decide +kernel
theorem d_X7_judged_116 : decode prog_9_method_66_code 116 = .ok (.if_icmp .lt 5, 3) := by decide +kernel
theorem d_X7_judged_119 : decode prog_9_method_66_code 119 = .ok (.iconst 0, 1) := by decide +kernel
theorem d_X7_judged_120 : decode prog_9_method_66_code 120 = .ok (.ireturn, 1) := by decide +kernel
theorem d_X7_judged_121 : decode prog_9_method_66_code 121 = .ok (.aload_n 0, 1) := by decide +kernel
theorem d_X7_judged_122 : decode prog_9_method_66_code 122 = .ok (.getfield 19, 3) := by decide +kernel
theorem d_X7_judged_125 : decode prog_9_method_66_code 125 = .ok (.invokestatic 221, 3) := by decide +kernel
theorem d_X7_judged_128 : decode prog_9_method_66_code 128 = .ok (.aload_n 0, 1) := by decide +kernel
theorem d_X7_judged_129 : decode prog_9_method_66_code 129 = .ok (.getfield 19, 3) := by decide +kernel
theorem d_X7_judged_132 : decode prog_9_method_66_code 132 = .ok (.iload_n 2, 1) := by decide +kernel
theorem d_X7_judged_133 : decode prog_9_method_66_code 133 = .ok (.iload_n 3, 1) := by decide +kernel
theorem d_X7_judged_134 : decode prog_9_method_66_code 134 = .ok (.bipush 9, 2) := by decide +kernel
theorem d_X7_judged_136 : decode prog_9_method_66_code 136 = .ok (.if_icmp .ne 8, 3) := by decide +kernel
theorem d_X7_judged_139 : decode prog_9_method_66_code 139 = .ok (.bipush (-9), 2) := by decide +kernel
theorem d_X7_judged_141 : decode prog_9_method_66_code 141 = .ok (.goto 4, 3) := by decide +kernel
theorem d_X7_judged_144 : decode prog_9_method_66_code 144 = .ok (.iload_n 3, 1) := by decide +kernel
theorem d_X7_judged_145 : decode prog_9_method_66_code 145 = .ok (.iastore, 1) := by decide +kernel
theorem d_X7_judged_146 : decode prog_9_method_66_code 146 = .ok (.iconst 1, 1) := by decide +kernel
theorem d_X7_judged_147 : decode prog_9_method_66_code 147 = .ok (.ireturn, 1) := by decide +kernel
theorem d_X7_judged_148 : decode prog_9_method_66_code 148 = .ok (.aload_n 0, 1) := by decide +kernel
theorem d_X7_judged_149 : decode prog_9_method_66_code 149 = .ok (.iload_n 2, 1) := by decide +kernel
theorem d_X7_judged_150 : decode prog_9_method_66_code 150 = .ok (.invokevirtual 212, 3) := by decide +kernel
theorem d_X7_judged_153 : decode prog_9_method_66_code 153 = .ok (.ifCond .eq 14, 3) := by decide +kernel
theorem d_X7_judged_156 : decode prog_9_method_66_code 156 = .ok (.iload_n 3, 1) := by decide +kernel
theorem d_X7_judged_157 : decode prog_9_method_66_code 157 = .ok (.bipush 7, 2) := by decide +kernel
theorem d_X7_judged_159 : decode prog_9_method_66_code 159 = .ok (.if_icmp .gt 8, 3) := by decide +kernel
theorem d_X7_judged_162 : decode prog_9_method_66_code 162 = .ok (.iload 4, 2) := by decide +kernel
theorem d_X7_judged_164 : decode prog_9_method_66_code 164 = .ok (.ifCond .eq 5, 3) := by decide +kernel
theorem d_X7_judged_167 : decode prog_9_method_66_code 167 = .ok (.iconst 0, 1) := by decide +kernel
theorem d_X7_judged_168 : decode prog_9_method_66_code 168 = .ok (.ireturn, 1) := by decide +kernel
theorem d_X7_judged_169 : decode prog_9_method_66_code 169 = .ok (.aload_n 0, 1) := by decide +kernel
theorem d_X7_judged_170 : decode prog_9_method_66_code 170 = .ok (.getfield 19, 3) := by decide +kernel
theorem d_X7_judged_173 : decode prog_9_method_66_code 173 = .ok (.invokestatic 221, 3) := by decide +kernel
theorem d_X7_judged_176 : decode prog_9_method_66_code 176 = .ok (.aload_n 0, 1) := by decide +kernel
theorem d_X7_judged_177 : decode prog_9_method_66_code 177 = .ok (.aload_n 0, 1) := by decide +kernel
theorem d_X7_judged_178 : decode prog_9_method_66_code 178 = .ok (.getfield 19, 3) := by decide +kernel
theorem d_X7_judged_181 : decode prog_9_method_66_code 181 = .ok (.aload_n 0, 1) := by decide +kernel
theorem d_X7_judged_182 : decode prog_9_method_66_code 182 = .ok (.aload_n 0, 1) := by decide +kernel
theorem d_X7_judged_183 : decode prog_9_method_66_code 183 = .ok (.getfield 19, 3) := by decide +kernel
theorem d_X7_judged_186 : decode prog_9_method_66_code 186 = .ok (.iload_n 2, 1) := by decide +kernel
theorem d_X7_judged_187 : decode prog_9_method_66_code 187 = .ok (.invokevirtual 194, 3) := by decide +kernel
theorem d_X7_judged_190 : decode prog_9_method_66_code 190 = .ok (.iload_n 3, 1) := by decide +kernel
theorem d_X7_judged_191 : decode prog_9_method_66_code 191 = .ok (.invokevirtual 233, 3) := by decide +kernel
theorem d_X7_judged_194 : decode prog_9_method_66_code 194 = .ok (.iconst 1, 1) := by decide +kernel
theorem d_X7_judged_195 : decode prog_9_method_66_code 195 = .ok (.ireturn, 1) := by decide +kernel
theorem d_X7_judged_196 : decode prog_9_method_66_code 196 = .ok (.iload_n 2, 1) := by decide +kernel
theorem d_X7_judged_197 : decode prog_9_method_66_code 197 = .ok (.ifCond .ne 25, 3) := by decide +kernel
theorem d_X7_judged_200 : decode prog_9_method_66_code 200 = .ok (.aload_n 0, 1) := by decide +kernel
theorem d_X7_judged_201 : decode prog_9_method_66_code 201 = .ok (.aload_n 0, 1) := by decide +kernel
theorem d_X7_judged_202 : decode prog_9_method_66_code 202 = .ok (.getfield 19, 3) := by decide +kernel
theorem d_X7_judged_205 : decode prog_9_method_66_code 205 = .ok (.invokevirtual 200, 3) := by decide +kernel
theorem d_X7_judged_208 : decode prog_9_method_66_code 208 = .ok (.bipush 10, 2) := by decide +kernel
theorem d_X7_judged_210 : decode prog_9_method_66_code 210 = .ok (.iload_n 3, 1) := by decide +kernel
theorem d_X7_judged_211 : decode prog_9_method_66_code 211 = .ok (.imul, 1) := by decide +kernel
theorem d_X7_judged_212 : decode prog_9_method_66_code 212 = .ok (.iload 4, 2) := by decide +kernel
theorem d_X7_judged_214 : decode prog_9_method_66_code 214 = .ok (.iadd, 1) := by decide +kernel
theorem d_X7_judged_215 : decode prog_9_method_66_code 215 = .ok (.if_icmp .ne 7, 3) := by decide +kernel
theorem d_X7_judged_218 : decode prog_9_method_66_code 218 = .ok (.iconst 1, 1) := by decide +kernel
theorem d_X7_judged_219 : decode prog_9_method_66_code 219 = .ok (.goto 4, 3) := by decide +kernel
theorem d_X7_judged_222 : decode prog_9_method_66_code 222 = .ok (.iconst 0, 1) := by decide +kernel
theorem d_X7_judged_223 : decode prog_9_method_66_code 223 = .ok (.ireturn, 1) := by decide +kernel
theorem d_X7_judged_224 : decode prog_9_method_66_code 224 = .ok (.iload_n 2, 1) := by decide +kernel
theorem d_X7_judged_225 : decode prog_9_method_66_code 225 = .ok (.ifCond .ne 12, 3) := by decide +kernel
theorem d_X7_judged_228 : decode prog_9_method_66_code 228 = .ok (.iload_n 3, 1) := by decide +kernel
theorem d_X7_judged_229 : decode prog_9_method_66_code 229 = .ok (.ifCond .ne 8, 3) := by decide +kernel
theorem d_X7_judged_232 : decode prog_9_method_66_code 232 = .ok (.iload 4, 2) := by decide +kernel
theorem d_X7_judged_234 : decode prog_9_method_66_code 234 = .ok (.ifCond .eq 5, 3) := by decide +kernel
theorem d_X7_judged_237 : decode prog_9_method_66_code 237 = .ok (.iconst 0, 1) := by decide +kernel
theorem d_X7_judged_238 : decode prog_9_method_66_code 238 = .ok (.ireturn, 1) := by decide +kernel
theorem d_X7_judged_239 : decode prog_9_method_66_code 239 = .ok (.aload_n 0, 1) := by decide +kernel
theorem d_X7_judged_240 : decode prog_9_method_66_code 240 = .ok (.aload_n 0, 1) := by decide +kernel
theorem d_X7_judged_241 : decode prog_9_method_66_code 241 = .ok (.getfield 19, 3) := by decide +kernel
theorem d_X7_judged_244 : decode prog_9_method_66_code 244 = .ok (.aload_n 0, 1) := by decide +kernel
theorem d_X7_judged_245 : decode prog_9_method_66_code 245 = .ok (.invokevirtual 159, 3) := by decide +kernel
theorem d_X7_judged_248 : decode prog_9_method_66_code 248 = .ok (.invokevirtual 162, 3) := by decide +kernel
theorem d_X7_judged_251 : decode prog_9_method_66_code 251 = .ok (.aload_n 0, 1) := by decide +kernel
theorem d_X7_judged_252 : decode prog_9_method_66_code 252 = .ok (.aload_n 0, 1) := by decide +kernel
theorem d_X7_judged_253 : decode prog_9_method_66_code 253 = .ok (.getfield 19, 3) := by decide +kernel
theorem d_X7_judged_256 : decode prog_9_method_66_code 256 = .ok (.invokevirtual 188, 3) := by decide +kernel
theorem d_X7_judged_259 : decode prog_9_method_66_code 259 = .ok (.pop, 1) := by decide +kernel
theorem d_X7_judged_260 : decode prog_9_method_66_code 260 = .ok (.iconst 1, 1) := by decide +kernel
theorem d_X7_judged_261 : decode prog_9_method_66_code 261 = .ok (.ireturn, 1) := by decide +kernel
theorem d_X7_judged_262 : decode prog_9_method_66_code 262 = .ok (.aload_n 0, 1) := by decide +kernel
theorem d_X7_judged_263 : decode prog_9_method_66_code 263 = .ok (.aload_n 0, 1) := by decide +kernel
theorem d_X7_judged_264 : decode prog_9_method_66_code 264 = .ok (.getfield 19, 3) := by decide +kernel
theorem d_X7_judged_267 : decode prog_9_method_66_code 267 = .ok (.aload_n 0, 1) := by decide +kernel
theorem d_X7_judged_268 : decode prog_9_method_66_code 268 = .ok (.invokevirtual 159, 3) := by decide +kernel
theorem d_X7_judged_271 : decode prog_9_method_66_code 271 = .ok (.invokevirtual 162, 3) := by decide +kernel
theorem d_X7_judged_274 : decode prog_9_method_66_code 274 = .ok (.aload_n 0, 1) := by decide +kernel
theorem d_X7_judged_275 : decode prog_9_method_66_code 275 = .ok (.iload_n 2, 1) := by decide +kernel
theorem d_X7_judged_276 : decode prog_9_method_66_code 276 = .ok (.invokevirtual 212, 3) := by decide +kernel
theorem d_X7_judged_279 : decode prog_9_method_66_code 279 = .ok (.ifCond .eq 43, 3) := by decide +kernel
theorem d_X7_judged_282 : decode prog_9_method_66_code 282 = .ok (.iload_n 3, 1) := by decide +kernel
theorem d_X7_judged_283 : decode prog_9_method_66_code 283 = .ok (.ifCond .ne 39, 3) := by decide +kernel
theorem d_X7_judged_286 : decode prog_9_method_66_code 286 = .ok (.iload 4, 2) := by decide +kernel
theorem d_X7_judged_288 : decode prog_9_method_66_code 288 = .ok (.iconst 2, 1) := by decide +kernel
theorem d_X7_judged_289 : decode prog_9_method_66_code 289 = .ok (.if_icmp .ge 33, 3) := by decide +kernel
theorem d_X7_judged_292 : decode prog_9_method_66_code 292 = .ok (.aload_n 0, 1) := by decide +kernel
theorem d_X7_judged_293 : decode prog_9_method_66_code 293 = .ok (.aload_n 0, 1) := by decide +kernel
theorem d_X7_judged_294 : decode prog_9_method_66_code 294 = .ok (.getfield 19, 3) := by decide +kernel
theorem d_X7_judged_297 : decode prog_9_method_66_code 297 = .ok (.invokevirtual 166, 3) := by decide +kernel
theorem d_X7_judged_300 : decode prog_9_method_66_code 300 = .ok (.iload_n 2, 1) := by decide +kernel
theorem d_X7_judged_301 : decode prog_9_method_66_code 301 = .ok (.invokestatic 107, 3) := by decide +kernel
theorem d_X7_judged_304 : decode prog_9_method_66_code 304 = .ok (.iload 4, 2) := by decide +kernel
theorem d_X7_judged_306 : decode prog_9_method_66_code 306 = .ok (.iconst 1, 1) := by decide +kernel
theorem d_X7_judged_307 : decode prog_9_method_66_code 307 = .ok (.if_icmp .ne 7, 3) := by decide +kernel
theorem d_X7_judged_310 : decode prog_9_method_66_code 310 = .ok (.iconst 1, 1) := by decide +kernel
theorem d_X7_judged_311 : decode prog_9_method_66_code 311 = .ok (.goto 4, 3) := by decide +kernel
theorem d_X7_judged_314 : decode prog_9_method_66_code 314 = .ok (.iconst 0, 1) := by decide +kernel
theorem d_X7_judged_315 : decode prog_9_method_66_code 315 = .ok (.if_icmp .ne 7, 3) := by decide +kernel
theorem d_X7_judged_318 : decode prog_9_method_66_code 318 = .ok (.iconst 1, 1) := by decide +kernel
theorem d_X7_judged_319 : decode prog_9_method_66_code 319 = .ok (.goto 4, 3) := by decide +kernel
theorem d_X7_judged_322 : decode prog_9_method_66_code 322 = .ok (.iconst 0, 1) := by decide +kernel
theorem d_X7_judged_323 : decode prog_9_method_66_code 323 = .ok (.ireturn, 1) := by decide +kernel
theorem d_X7_judged_324 : decode prog_9_method_66_code 324 = .ok (.aload_n 0, 1) := by decide +kernel
theorem d_X7_judged_325 : decode prog_9_method_66_code 325 = .ok (.getfield 19, 3) := by decide +kernel
theorem d_X7_judged_328 : decode prog_9_method_66_code 328 = .ok (.aload_n 0, 1) := by decide +kernel
theorem d_X7_judged_329 : decode prog_9_method_66_code 329 = .ok (.getfield 22, 3) := by decide +kernel
theorem d_X7_judged_332 : decode prog_9_method_66_code 332 = .ok (.invokestatic 236, 3) := by decide +kernel
theorem d_X7_judged_335 : decode prog_9_method_66_code 335 = .ok (.aload_n 0, 1) := by decide +kernel
theorem d_X7_judged_336 : decode prog_9_method_66_code 336 = .ok (.aload_n 0, 1) := by decide +kernel
theorem d_X7_judged_337 : decode prog_9_method_66_code 337 = .ok (.getfield 22, 3) := by decide +kernel
theorem d_X7_judged_340 : decode prog_9_method_66_code 340 = .ok (.aload_n 0, 1) := by decide +kernel
theorem d_X7_judged_341 : decode prog_9_method_66_code 341 = .ok (.invokevirtual 159, 3) := by decide +kernel
theorem d_X7_judged_344 : decode prog_9_method_66_code 344 = .ok (.invokevirtual 162, 3) := by decide +kernel
theorem d_X7_judged_347 : decode prog_9_method_66_code 347 = .ok (.iload_n 2, 1) := by decide +kernel
theorem d_X7_judged_348 : decode prog_9_method_66_code 348 = .ok (.ifCond .ne 25, 3) := by decide +kernel
theorem d_X7_judged_351 : decode prog_9_method_66_code 351 = .ok (.aload_n 0, 1) := by decide +kernel
theorem d_X7_judged_352 : decode prog_9_method_66_code 352 = .ok (.aload_n 0, 1) := by decide +kernel
theorem d_X7_judged_353 : decode prog_9_method_66_code 353 = .ok (.getfield 22, 3) := by decide +kernel
theorem d_X7_judged_356 : decode prog_9_method_66_code 356 = .ok (.invokevirtual 240, 3) := by decide +kernel
theorem d_X7_judged_359 : decode prog_9_method_66_code 359 = .ok (.bipush 10, 2) := by decide +kernel
theorem d_X7_judged_361 : decode prog_9_method_66_code 361 = .ok (.iload_n 3, 1) := by decide +kernel
theorem d_X7_judged_362 : decode prog_9_method_66_code 362 = .ok (.imul, 1) := by decide +kernel
theorem d_X7_judged_363 : decode prog_9_method_66_code 363 = .ok (.iload 4, 2) := by decide +kernel
theorem d_X7_judged_365 : decode prog_9_method_66_code 365 = .ok (.iadd, 1) := by decide +kernel
theorem d_X7_judged_366 : decode prog_9_method_66_code 366 = .ok (.if_icmp .ne 7, 3) := by decide +kernel
theorem d_X7_judged_369 : decode prog_9_method_66_code 369 = .ok (.iconst 1, 1) := by decide +kernel
theorem d_X7_judged_370 : decode prog_9_method_66_code 370 = .ok (.goto 4, 3) := by decide +kernel
theorem d_X7_judged_373 : decode prog_9_method_66_code 373 = .ok (.iconst 0, 1) := by decide +kernel
theorem d_X7_judged_374 : decode prog_9_method_66_code 374 = .ok (.ireturn, 1) := by decide +kernel
theorem d_X7_judged_375 : decode prog_9_method_66_code 375 = .ok (.iconst 0, 1) := by decide +kernel
theorem d_X7_judged_376 : decode prog_9_method_66_code 376 = .ok (.ireturn, 1) := by decide +kernel
abbrev M_Model_judged : zMT := (⟨"PeriodSlotsModel", "judged", "(IIII)Z"⟩, prog_9_method_66_code, 5, (some .boolean))
theorem k_Model_judged : zcall M_Model_judged 4 := ⟨zU_in (i := 1095) (by decide +kernel) rfl, m62, ⟨by decide, by decide, by decide +kernel⟩, by decide⟩
def o_Model_judged (h : zHp) (how : Int32) (a : Int32) (b : Int32) (v : Int32) : Bool × zHp :=
  (if how = 1 then (if (o_Model_isStation h a) = true then (if (o_Model_isStation h b) = true then (if a = b then (false, h) else (if v = 0 then (true, (o_Model_turnOf (o_Model_dropOld h 55) 55 (zcn a) (zcn b))) else (false, h))) else (false, h)) else (false, h)) else (if how = 2 then (if (o_Model_isStation h a) = true then (if v = 0 then (if b = 9 then (true, (zup (o_Model_dropOld h 55) 55 (zcn a) (-9))) else (if b < (h 53 (zcn a)) then (true, (zup (o_Model_dropOld h 55) 55 (zcn a) b)) else (false, h))) else (false, h)) else (false, h)) else (if how = 3 then (if (o_Model_isStation h a) = true then (if 7 < b then (false, h) else (if v = 0 then (true, (o_Model_shiftOf (o_Model_dropOld h 55) 55 (o_Model_netOf (o_Model_dropOld h 55) 55 a) b)) else (false, h))) else (false, h)) else (if how = 4 then (((decide (a = 0)) && (decide (((o_Model_clashes h 55).1) = ((10 * b) + v)))), (if a = 0 then (if ((o_Model_clashes h 55).1) = ((10 * b) + v) then ((o_Model_clashes h 55).2) else ((o_Model_clashes h 55).2)) else h)) else (if how = 5 then (if a = 0 then (if b = 0 then (if v = 0 then (true, ((o_Model_roundOf (o_Model_layNear h 55 (o_Model_all h)) 55).2)) else (false, h)) else (false, h)) else (false, h)) else (if how = 6 then (((o_Model_isStation h a) && ((decide (b = 0)) && (!(decide (2 ≤ v)) && (decide ((zb (o_Model_has (o_Model_unsettled (o_Model_layNear h 55 (o_Model_all h)) 55) a)) = (zb (decide (v = 1)))))))), (o_Model_layNear h 55 (o_Model_all h))) else (if how = 7 then (((decide (a = 0)) && (decide (((o_Model_runOf (o_Model_layNear (o_Model_copy h 55 56) 56 (o_Model_all h)) 56).1) = ((10 * b) + v)))), (if a = 0 then (if ((o_Model_runOf (o_Model_layNear (o_Model_copy h 55 56) 56 (o_Model_all h)) 56).1) = ((10 * b) + v) then ((o_Model_runOf (o_Model_layNear (o_Model_copy h 55 56) 56 (o_Model_all h)) 56).2) else ((o_Model_runOf (o_Model_layNear (o_Model_copy h 55 56) 56 (o_Model_all h)) 56).2)) else (o_Model_layNear (o_Model_copy h 55 56) 56 (o_Model_all h)))) else (false, h))))))))
theorem fr_Model_judged {h : zHp} {how : Int32} {a : Int32} {b : Int32} {v : Int32} (c k : Nat) (q0 : ¬ (c = 51 ∧ k = 9)) (q1 : c ≠ 66) (q2 : c ≠ 55) (q3 : c ≠ 56) (q4 : ¬ (c = 51 ∧ k = 10)) (q5 : ¬ (c = 51 ∧ k = 11)) (q6 : c ≠ 67) (q7 : c ≠ 68) : (o_Model_judged h how a b v).2 c k = h c k := by
  unfold o_Model_judged
  by_cases f1 : how = 1
  · rw [if_pos f1]
    by_cases f2 : (o_Model_isStation h a) = true
    · rw [if_pos f2]
      by_cases f3 : (o_Model_isStation h b) = true
      · rw [if_pos f3]
        by_cases f4 : a = b
        · rw [if_pos f4]
          try dsimp only
          first | done | exact rfl
        · rw [if_neg f4]
          by_cases f5 : v = 0
          · rw [if_pos f5]
            try dsimp only
            first | done | exact ((fr_Model_turnOf _ _ (by assumption)).trans (fr_Model_dropOld _ _ (by assumption)))
          · rw [if_neg f5]
            try dsimp only
            first | done | exact rfl
      · rw [if_neg f3]
        try dsimp only
        first | done | exact rfl
    · rw [if_neg f2]
      try dsimp only
      first | done | exact rfl
  · rw [if_neg f1]
    by_cases f6 : how = 2
    · rw [if_pos f6]
      by_cases f7 : (o_Model_isStation h a) = true
      · rw [if_pos f7]
        by_cases f8 : v = 0
        · rw [if_pos f8]
          by_cases f9 : b = 9
          · rw [if_pos f9]
            try dsimp only
            first | done | exact ((zup_fr (Or.inl (by assumption))).trans (fr_Model_dropOld _ _ (by assumption)))
          · rw [if_neg f9]
            by_cases f10 : b < (h 53 (zcn a))
            · rw [if_pos f10]
              try dsimp only
              first | done | exact ((zup_fr (Or.inl (by assumption))).trans (fr_Model_dropOld _ _ (by assumption)))
            · rw [if_neg f10]
              try dsimp only
              first | done | exact rfl
        · rw [if_neg f8]
          try dsimp only
          first | done | exact rfl
      · rw [if_neg f7]
        try dsimp only
        first | done | exact rfl
    · rw [if_neg f6]
      by_cases f11 : how = 3
      · rw [if_pos f11]
        by_cases f12 : (o_Model_isStation h a) = true
        · rw [if_pos f12]
          by_cases f13 : 7 < b
          · rw [if_pos f13]
            try dsimp only
            first | done | exact rfl
          · rw [if_neg f13]
            by_cases f14 : v = 0
            · rw [if_pos f14]
              try dsimp only
              first | done | exact ((fr_Model_shiftOf _ _ (by assumption)).trans (fr_Model_dropOld _ _ (by assumption)))
            · rw [if_neg f14]
              try dsimp only
              first | done | exact rfl
        · rw [if_neg f12]
          try dsimp only
          first | done | exact rfl
      · rw [if_neg f11]
        by_cases f15 : how = 4
        · rw [if_pos f15]
          try dsimp only
          first | done | exact (zite_fr (fun _ => (zite_fr (fun _ => (fr_Model_clashes _ _ (by assumption) (by assumption))) (fun _ => (fr_Model_clashes _ _ (by assumption) (by assumption))))) (fun _ => rfl))
        · rw [if_neg f15]
          by_cases f16 : how = 5
          · rw [if_pos f16]
            by_cases f17 : a = 0
            · rw [if_pos f17]
              by_cases f18 : b = 0
              · rw [if_pos f18]
                by_cases f19 : v = 0
                · rw [if_pos f19]
                  try dsimp only
                  first | done | exact ((fr_Model_roundOf _ _ (by assumption) (by assumption) (by assumption) (by assumption)).trans (fr_Model_layNear _ _ (by assumption) (by assumption)))
                · rw [if_neg f19]
                  try dsimp only
                  first | done | exact rfl
              · rw [if_neg f18]
                try dsimp only
                first | done | exact rfl
            · rw [if_neg f17]
              try dsimp only
              first | done | exact rfl
          · rw [if_neg f16]
            by_cases f20 : how = 6
            · rw [if_pos f20]
              try dsimp only
              first | done | exact (fr_Model_layNear _ _ (by assumption) (by assumption))
            · rw [if_neg f20]
              by_cases f21 : how = 7
              · rw [if_pos f21]
                try dsimp only
                first | done | exact (zite_fr (fun _ => (zite_fr (fun _ => ((fr_Model_runOf _ _ (by assumption) (by assumption) (by assumption) (by assumption) (by assumption)).trans ((fr_Model_layNear _ _ (by assumption) (by assumption)).trans (fr_Model_copy _ _ (by assumption))))) (fun _ => ((fr_Model_runOf _ _ (by assumption) (by assumption) (by assumption) (by assumption) (by assumption)).trans ((fr_Model_layNear _ _ (by assumption) (by assumption)).trans (fr_Model_copy _ _ (by assumption))))))) (fun _ => ((fr_Model_layNear _ _ (by assumption) (by assumption)).trans (fr_Model_copy _ _ (by assumption)))))
              · rw [if_neg f21]
                try dsimp only
                first | done | exact rfl
set_option maxHeartbeats 400000 in
set_option maxRecDepth 20000 in
theorem c_Model_judged (X : zXT) (h : zHp) (g : zLg) (how : Int32) (a : Int32) (b : Int32) (v : Int32) (hf0 : zfit h 51 1 8) (hper : zper h) : zDi X M_Model_judged 8 [zR X 51, .int how, .int a, .int b, .int v] h g (zI (zb ((o_Model_judged h how a b v).1))) ((o_Model_judged h how a b v).2) g := by
  have hf0_1 := hf0.1
  refine zDi_of "PeriodSlotsModel" prog_9_method_66_code 5 (some .boolean) rfl (by decide) [zO X 51, zI how, zI a, zI b, zI v] rfl (fun _ q => q) (Nat.le_of_ble_eq_true rfl) ?_
  intro Γ Q C hQ
  refine zr_iload_n C d_X7_judged_0 rfl ?_
  by_cases c1_1 : how = 1
  · refine zr_tabIn C 44 (off := 43) d_X7_judged_1 (by rw [c1_1]; decide) (by rw [c1_1]; decide) (by rw [c1_1]; rfl) (by decide) ?_
    refine zr_aload_n C d_X7_judged_44 rfl ?_
    refine zr_iload_n C d_X7_judged_45 rfl ?_
    refine zr_callVi (As := [.int a]) (st := []) (c := 51) C (c_Model_isStation X h g a) k_Model_isStation m980 m982 m40 (by decide) (zC_Model X _ _) rfl rfl (by decide) rfl (Nat.le_of_ble_eq_true rfl) d_X7_judged_46 ?_
    refine zr_ifz_eq C 70 d_X7_judged_49 (by decide) (fun c49 => ?_) (fun c49 => ?_)
    · refine zr_iconst C (v := 0) d_X7_judged_70 (by decide) ?_
      have eR : o_Model_judged h how a b v = (false, h) := (by unfold o_Model_judged; rw [if_pos c1_1, if_neg (zbf c49)])
      subst hQ
      exact zTQ_Zh eR (zr_iretz C (Or.inl rfl) d_X7_judged_71)
    · have ex1 := zist hf0 c49
      have ex1_2 := ex1.2
      have ex1_b := (hf0).1
      refine zr_aload_n C d_X7_judged_52 rfl ?_
      refine zr_iload_n C d_X7_judged_53 rfl ?_
      refine zr_callVi (As := [.int b]) (st := []) (c := 51) C (c_Model_isStation X h g b) k_Model_isStation m980 m982 m40 (by decide) (zC_Model X _ _) rfl rfl (by decide) rfl (Nat.le_of_ble_eq_true rfl) d_X7_judged_54 ?_
      refine zr_ifz_eq C 70 d_X7_judged_57 (by decide) (fun c57 => ?_) (fun c57 => ?_)
      · refine zr_iconst C (v := 0) d_X7_judged_70 (by decide) ?_
        have eR : o_Model_judged h how a b v = (false, h) := (by unfold o_Model_judged; rw [if_pos c1_1, if_pos c49, if_neg (zbf c57)])
        subst hQ
        exact zTQ_Zh eR (zr_iretz C (Or.inl rfl) d_X7_judged_71)
      · have ex2 := zist hf0 c57
        have ex2_2 := ex2.2
        have ex2_b := (hf0).1
        refine zr_iload_n C d_X7_judged_60 rfl ?_
        refine zr_iload_n C d_X7_judged_61 rfl ?_
        refine zr_icmp_eq C 70 d_X7_judged_62 (by decide) (fun c62 => ?_) (fun c62 => ?_)
        · have en3 := zn_eq (a := zcn a) (b := zcn b) (zix ex1.1) (zix ex2.1) c62 (zcn_small _) (zcn_small _)
          refine zr_iconst C (v := 0) d_X7_judged_70 (by decide) ?_
          have eR : o_Model_judged h how a b v = (false, h) := (by unfold o_Model_judged; rw [if_pos c1_1, if_pos c49, if_pos c57, if_pos c62])
          subst hQ
          exact zTQ_Zh eR (zr_iretz C (Or.inl rfl) d_X7_judged_71)
        · have en4 := zn_neq (a := zcn a) (b := zcn b) (zix ex1.1) (zix ex2.1) c62 (zcn_small _) (zcn_small _)
          refine zr_iload C d_X7_judged_65 rfl ?_
          refine zr_if_eq C 72 d_X7_judged_67 (by decide) (fun c67 => ?_) (fun c67 => ?_)
          · refine zr_aload_n C d_X7_judged_72 rfl ?_
            refine gf_Model_5 C m758 d_X7_judged_73 ?_
            refine zr_callSv (As := [zR X 55]) (st := []) C (c_Model_dropOld X h g 55 (by decide)) k_Model_dropOld m1000 m1001 rfl (by decide) rfl (Nat.le_of_ble_eq_true rfl) d_X7_judged_76 ?_
            refine zr_h (fun h5 eh5 => ?_)
            refine zr_aload_n C d_X7_judged_79 rfl ?_
            refine gf_Model_5 C m758 d_X7_judged_80 ?_
            refine zr_iload_n C d_X7_judged_83 rfl ?_
            refine zr_iload_n C d_X7_judged_84 rfl ?_
            refine zr_callSv (As := [zR X 55, .int a, .int b]) (st := []) C (c_Model_turnOf X h5 g 55 (zcn a) (zcn b) (zix ex1.1) (zix ex2.1) (by decide) (by omega) (by omega)) k_Model_turnOf m1003 m1004 rfl (by decide) rfl (Nat.le_of_ble_eq_true rfl) d_X7_judged_85 ?_
            refine zr_h (fun h6 eh6 => ?_)
            refine zr_iconst C (v := 1) d_X7_judged_88 (by decide) ?_
            have eR : o_Model_judged h how a b v = (true, h6) := (by subst eh6 eh5; unfold o_Model_judged; rw [if_pos c1_1, if_pos c49, if_pos c57, if_neg c62, if_pos c67])
            subst hQ
            exact zTQ_Zh eR (zr_iretz C (Or.inr rfl) d_X7_judged_89)
          · refine zr_iconst C (v := 0) d_X7_judged_70 (by decide) ?_
            have eR : o_Model_judged h how a b v = (false, h) := (by unfold o_Model_judged; rw [if_pos c1_1, if_pos c49, if_pos c57, if_neg c62, if_neg c67])
            subst hQ
            exact zTQ_Zh eR (zr_iretz C (Or.inl rfl) d_X7_judged_71)
  · by_cases c1_2 : how = 2
    · refine zr_tabIn C 90 (off := 89) d_X7_judged_1 (by rw [c1_2]; decide) (by rw [c1_2]; decide) (by rw [c1_2]; rfl) (by decide) ?_
      refine zr_aload_n C d_X7_judged_90 rfl ?_
      refine zr_iload_n C d_X7_judged_91 rfl ?_
      refine zr_callVi (As := [.int a]) (st := []) (c := 51) C (c_Model_isStation X h g a) k_Model_isStation m980 m982 m40 (by decide) (zC_Model X _ _) rfl rfl (by decide) rfl (Nat.le_of_ble_eq_true rfl) d_X7_judged_92 ?_
      refine zr_ifz_eq C 119 d_X7_judged_95 (by decide) (fun c95 => ?_) (fun c95 => ?_)
      · refine zr_iconst C (v := 0) d_X7_judged_119 (by decide) ?_
        have eR : o_Model_judged h how a b v = (false, h) := (by unfold o_Model_judged; rw [if_neg c1_1, if_pos c1_2, if_neg (zbf c95)])
        subst hQ
        exact zTQ_Zh eR (zr_iretz C (Or.inl rfl) d_X7_judged_120)
      · have ex7 := zist hf0 c95
        have ex7_2 := ex7.2
        have ex7_b := (hf0).1
        refine zr_iload C d_X7_judged_98 rfl ?_
        refine zr_if_ne C 119 d_X7_judged_100 (by decide) (fun c100 => ?_) (fun c100 => ?_)
        · refine zr_iconst C (v := 0) d_X7_judged_119 (by decide) ?_
          have eR : o_Model_judged h how a b v = (false, h) := (by unfold o_Model_judged; rw [if_neg c1_1, if_pos c1_2, if_pos c95, if_neg c100])
          subst hQ
          exact zTQ_Zh eR (zr_iretz C (Or.inl rfl) d_X7_judged_120)
        · refine zr_iload_n C d_X7_judged_103 rfl ?_
          refine zr_bipush C (v := 9) d_X7_judged_104 (by decide) ?_
          refine zr_icmp_eq C 121 d_X7_judged_106 (by decide) (fun c106 => ?_) (fun c106 => ?_)
          · refine zr_aload_n C d_X7_judged_121 rfl ?_
            refine gf_Model_5 C m758 d_X7_judged_122 ?_
            refine zr_callSv (As := [zR X 55]) (st := []) C (c_Model_dropOld X h g 55 (by decide)) k_Model_dropOld m1000 m1001 rfl (by decide) rfl (Nat.le_of_ble_eq_true rfl) d_X7_judged_125 ?_
            refine zr_h (fun h8 eh8 => ?_)
            refine zr_aload_n C d_X7_judged_128 rfl ?_
            refine gf_Model_5 C m758 d_X7_judged_129 ?_
            refine zr_iload_n C d_X7_judged_132 rfl ?_
            refine zr_iload_n C d_X7_judged_133 rfl ?_
            refine zr_bipush C (v := 9) d_X7_judged_134 (by decide) ?_
            refine zr_icmp_ne C 144 d_X7_judged_136 (by decide) (fun c => absurd c106 c) (fun _ => ?_)
            refine zr_bipush C (v := (-9)) d_X7_judged_139 (by decide) ?_
            refine zr_goto C 145 d_X7_judged_141 (by decide) ?_
            refine zr_iast C za_55 (zcn a) (zix ex7.1) (by omega) (by decide) d_X7_judged_145 ?_
            refine zr_h (fun h9 eh9 => ?_)
            refine zr_iconst C (v := 1) d_X7_judged_146 (by decide) ?_
            have eR : o_Model_judged h how a b v = (true, h9) := (by subst eh9 eh8; unfold o_Model_judged; rw [if_neg c1_1, if_pos c1_2, if_pos c95, if_pos c100, if_pos c106])
            subst hQ
            exact zTQ_Zh eR (zr_iretz C (Or.inr rfl) d_X7_judged_147)
          · refine zr_iload_n C d_X7_judged_109 rfl ?_
            refine zr_aload_n C d_X7_judged_110 rfl ?_
            refine gf_Model_3 C m756 d_X7_judged_111 ?_
            refine zr_iload_n C d_X7_judged_114 rfl ?_
            refine zr_iald C za_53 (zcn a) (zix ex7.1) (by omega) (by decide) d_X7_judged_115 ?_
            refine zr_icmp_lt C 121 d_X7_judged_116 (by decide) (fun c116 => ?_) (fun c116 => ?_)
            · refine zr_aload_n C d_X7_judged_121 rfl ?_
              refine gf_Model_5 C m758 d_X7_judged_122 ?_
              refine zr_callSv (As := [zR X 55]) (st := []) C (c_Model_dropOld X h g 55 (by decide)) k_Model_dropOld m1000 m1001 rfl (by decide) rfl (Nat.le_of_ble_eq_true rfl) d_X7_judged_125 ?_
              refine zr_h (fun h10 eh10 => ?_)
              refine zr_aload_n C d_X7_judged_128 rfl ?_
              refine gf_Model_5 C m758 d_X7_judged_129 ?_
              refine zr_iload_n C d_X7_judged_132 rfl ?_
              refine zr_iload_n C d_X7_judged_133 rfl ?_
              refine zr_bipush C (v := 9) d_X7_judged_134 (by decide) ?_
              refine zr_icmp_ne C 144 d_X7_judged_136 (by decide) (fun _ => ?_) (fun c => absurd c c106)
              refine zr_iload_n C d_X7_judged_144 rfl ?_
              refine zr_iast C za_55 (zcn a) (zix ex7.1) (by omega) (by decide) d_X7_judged_145 ?_
              refine zr_h (fun h11 eh11 => ?_)
              refine zr_iconst C (v := 1) d_X7_judged_146 (by decide) ?_
              have eR : o_Model_judged h how a b v = (true, h11) := (by subst eh11 eh10; unfold o_Model_judged; rw [if_neg c1_1, if_pos c1_2, if_pos c95, if_pos c100, if_neg c106, if_pos c116])
              subst hQ
              exact zTQ_Zh eR (zr_iretz C (Or.inr rfl) d_X7_judged_147)
            · refine zr_iconst C (v := 0) d_X7_judged_119 (by decide) ?_
              have eR : o_Model_judged h how a b v = (false, h) := (by unfold o_Model_judged; rw [if_neg c1_1, if_pos c1_2, if_pos c95, if_pos c100, if_neg c106, if_neg c116])
              subst hQ
              exact zTQ_Zh eR (zr_iretz C (Or.inl rfl) d_X7_judged_120)
    · by_cases c1_3 : how = 3
      · refine zr_tabIn C 148 (off := 147) d_X7_judged_1 (by rw [c1_3]; decide) (by rw [c1_3]; decide) (by rw [c1_3]; rfl) (by decide) ?_
        refine zr_aload_n C d_X7_judged_148 rfl ?_
        refine zr_iload_n C d_X7_judged_149 rfl ?_
        refine zr_callVi (As := [.int a]) (st := []) (c := 51) C (c_Model_isStation X h g a) k_Model_isStation m980 m982 m40 (by decide) (zC_Model X _ _) rfl rfl (by decide) rfl (Nat.le_of_ble_eq_true rfl) d_X7_judged_150 ?_
        refine zr_ifz_eq C 167 d_X7_judged_153 (by decide) (fun c153 => ?_) (fun c153 => ?_)
        · refine zr_iconst C (v := 0) d_X7_judged_167 (by decide) ?_
          have eR : o_Model_judged h how a b v = (false, h) := (by unfold o_Model_judged; rw [if_neg c1_1, if_neg c1_2, if_pos c1_3, if_neg (zbf c153)])
          subst hQ
          exact zTQ_Zh eR (zr_iretz C (Or.inl rfl) d_X7_judged_168)
        · have ex12 := zist hf0 c153
          have ex12_2 := ex12.2
          have ex12_b := (hf0).1
          refine zr_iload_n C d_X7_judged_156 rfl ?_
          refine zr_bipush C (v := 7) d_X7_judged_157 (by decide) ?_
          refine zr_icmp_gt C 167 d_X7_judged_159 (by decide) (fun c159 => ?_) (fun c159 => ?_)
          · refine zr_iconst C (v := 0) d_X7_judged_167 (by decide) ?_
            have eR : o_Model_judged h how a b v = (false, h) := (by unfold o_Model_judged; rw [if_neg c1_1, if_neg c1_2, if_pos c1_3, if_pos c153, if_pos c159])
            subst hQ
            exact zTQ_Zh eR (zr_iretz C (Or.inl rfl) d_X7_judged_168)
          · refine zr_iload C d_X7_judged_162 rfl ?_
            refine zr_if_eq C 169 d_X7_judged_164 (by decide) (fun c164 => ?_) (fun c164 => ?_)
            · refine zr_aload_n C d_X7_judged_169 rfl ?_
              refine gf_Model_5 C m758 d_X7_judged_170 ?_
              refine zr_callSv (As := [zR X 55]) (st := []) C (c_Model_dropOld X h g 55 (by decide)) k_Model_dropOld m1000 m1001 rfl (by decide) rfl (Nat.le_of_ble_eq_true rfl) d_X7_judged_173 ?_
              refine zr_h (fun h13 eh13 => ?_)
              refine zr_aload_n C d_X7_judged_176 rfl ?_
              refine zr_aload_n C d_X7_judged_177 rfl ?_
              refine gf_Model_5 C m758 d_X7_judged_178 ?_
              refine zr_aload_n C d_X7_judged_181 rfl ?_
              refine zr_aload_n C d_X7_judged_182 rfl ?_
              refine gf_Model_5 C m758 d_X7_judged_183 ?_
              refine zr_iload_n C d_X7_judged_186 rfl ?_
              refine zr_callVi (As := [zR X 55, .int a]) (st := [zR X 55, zR X 51]) (c := 51) C (c_Model_netOf X h13 g 55 a (by decide) (zfit_fr ((congrFun (congrFun eh13.symm _) _).trans (fr_Model_dropOld _ _ (by omega))) hf0)) k_Model_netOf m969 m971 m39 (by decide) (zC_Model X _ _) rfl rfl (by decide) rfl (Nat.le_of_ble_eq_true rfl) d_X7_judged_187 ?_
              refine zr_iload_n C d_X7_judged_190 rfl ?_
              refine zr_callVv (As := [zR X 55, .int (o_Model_netOf h13 55 a), .int b]) (st := []) (c := 51) C (c_Model_shiftOf X h13 g 55 (o_Model_netOf h13 55 a) b (by decide) (zfit_fr ((congrFun (congrFun eh13.symm _) _).trans (fr_Model_dropOld _ _ (by omega))) hf0) (zper_fr ((congrFun (congrFun eh13.symm _) _).trans (fr_Model_dropOld _ _ (by omega))) (fun v => ((congrFun (congrFun eh13.symm _) _).trans (fr_Model_dropOld _ _ (by omega)))) hper)) k_Model_shiftOf m1019 m1021 m44 (by decide) (zC_Model X _ _) rfl rfl (by decide) rfl (Nat.le_of_ble_eq_true rfl) d_X7_judged_191 ?_
              refine zr_h (fun h14 eh14 => ?_)
              refine zr_iconst C (v := 1) d_X7_judged_194 (by decide) ?_
              have eR : o_Model_judged h how a b v = (true, h14) := (by subst eh14 eh13; unfold o_Model_judged; rw [if_neg c1_1, if_neg c1_2, if_pos c1_3, if_pos c153, if_neg c159, if_pos c164])
              subst hQ
              exact zTQ_Zh eR (zr_iretz C (Or.inr rfl) d_X7_judged_195)
            · refine zr_iconst C (v := 0) d_X7_judged_167 (by decide) ?_
              have eR : o_Model_judged h how a b v = (false, h) := (by unfold o_Model_judged; rw [if_neg c1_1, if_neg c1_2, if_pos c1_3, if_pos c153, if_neg c159, if_neg c164])
              subst hQ
              exact zTQ_Zh eR (zr_iretz C (Or.inl rfl) d_X7_judged_168)
      · by_cases c1_4 : how = 4
        · refine zr_tabIn C 196 (off := 195) d_X7_judged_1 (by rw [c1_4]; decide) (by rw [c1_4]; decide) (by rw [c1_4]; rfl) (by decide) ?_
          refine zr_iload_n C d_X7_judged_196 rfl ?_
          suffices hJ197 : ∀ (y17 : Bool) (h18 : zHp), ((decide (a = 0)) && (decide (((o_Model_clashes h 55).1) = ((10 * b) + v)))) = y17 → (if a = 0 then (if ((o_Model_clashes h 55).1) = ((10 * b) + v) then ((o_Model_clashes h 55).2) else ((o_Model_clashes h 55).2)) else h) = h18 → zV X Γ Q 223 [none, none, none, none, none] [.int (zb y17)] h18 g by
            refine zr_if_ne C 222 d_X7_judged_197 (by decide) (fun c197 => ?_) (fun c197 => ?_)
            · refine zr_iconst C (v := 0) d_X7_judged_222 (by decide) ?_
              refine zr_lv [none, none, none, none, none] (by simp [zle]) ?_
              exact hJ197 false h (by simp [c197]) (((if_neg c197)))
            · refine zr_aload_n C d_X7_judged_200 rfl ?_
              refine zr_aload_n C d_X7_judged_201 rfl ?_
              refine gf_Model_5 C m758 d_X7_judged_202 ?_
              refine zr_callVi (As := [zR X 55]) (st := []) (c := 51) C (c_Model_clashes X h g 55 (by decide) hf0 hper) k_Model_clashes m920 m922 m29 (by decide) (zC_Model X _ _) rfl rfl (by decide) rfl (Nat.le_of_ble_eq_true rfl) d_X7_judged_205 ?_
              refine zr_vi (fun y15 ey15 => ?_)
              refine zr_h (fun h16 eh16 => ?_)
              refine zr_bipush C (v := 10) d_X7_judged_208 (by decide) ?_
              refine zr_iload_n C d_X7_judged_210 rfl ?_
              refine zr_imul C d_X7_judged_211 ?_
              refine zr_iload C d_X7_judged_212 rfl ?_
              refine zr_iadd C d_X7_judged_214 ?_
              refine zr_icmp_ne C 222 d_X7_judged_215 (by decide) (fun c215 => ?_) (fun c215 => ?_)
              · refine zr_iconst C (v := 0) d_X7_judged_222 (by decide) ?_
                refine zr_lv [none, none, none, none, none] (by simp [zle]) ?_
                exact hJ197 false h16 (by subst eh16 ey15; simp [c197, c215]) (by subst eh16 ey15; exact ((if_pos c197).trans ((if_neg c215))))
              · refine zr_iconst C (v := 1) d_X7_judged_218 (by decide) ?_
                refine zr_goto C 223 d_X7_judged_219 (by decide) ?_
                refine zr_lv [none, none, none, none, none] (by simp [zle]) ?_
                exact hJ197 true h16 (by subst eh16 ey15; simp [c197, c215]) (by subst eh16 ey15; exact ((if_pos c197).trans ((if_pos c215))))
          intro y17 h18 ey17 eh18
          have eR : o_Model_judged h how a b v = (y17, h18) := (by subst eh18 ey17; unfold o_Model_judged; rw [if_neg c1_1, if_neg c1_2, if_neg c1_3, if_pos c1_4])
          subst hQ
          exact zTQ_Zh eR (zr_iretz C (zb_01 _) d_X7_judged_223)
        · by_cases c1_5 : how = 5
          · refine zr_tabIn C 224 (off := 223) d_X7_judged_1 (by rw [c1_5]; decide) (by rw [c1_5]; decide) (by rw [c1_5]; rfl) (by decide) ?_
            refine zr_iload_n C d_X7_judged_224 rfl ?_
            refine zr_if_ne C 237 d_X7_judged_225 (by decide) (fun c225 => ?_) (fun c225 => ?_)
            · refine zr_iconst C (v := 0) d_X7_judged_237 (by decide) ?_
              have eR : o_Model_judged h how a b v = (false, h) := (by unfold o_Model_judged; rw [if_neg c1_1, if_neg c1_2, if_neg c1_3, if_neg c1_4, if_pos c1_5, if_neg c225])
              subst hQ
              exact zTQ_Zh eR (zr_iretz C (Or.inl rfl) d_X7_judged_238)
            · refine zr_iload_n C d_X7_judged_228 rfl ?_
              refine zr_if_ne C 237 d_X7_judged_229 (by decide) (fun c229 => ?_) (fun c229 => ?_)
              · refine zr_iconst C (v := 0) d_X7_judged_237 (by decide) ?_
                have eR : o_Model_judged h how a b v = (false, h) := (by unfold o_Model_judged; rw [if_neg c1_1, if_neg c1_2, if_neg c1_3, if_neg c1_4, if_pos c1_5, if_pos c225, if_neg c229])
                subst hQ
                exact zTQ_Zh eR (zr_iretz C (Or.inl rfl) d_X7_judged_238)
              · refine zr_iload C d_X7_judged_232 rfl ?_
                refine zr_if_eq C 239 d_X7_judged_234 (by decide) (fun c234 => ?_) (fun c234 => ?_)
                · refine zr_aload_n C d_X7_judged_239 rfl ?_
                  refine zr_aload_n C d_X7_judged_240 rfl ?_
                  refine gf_Model_5 C m758 d_X7_judged_241 ?_
                  refine zr_aload_n C d_X7_judged_244 rfl ?_
                  refine zr_callVi (As := []) (st := [zR X 55, zR X 51]) (c := 51) C (c_Model_all X h g ) k_Model_all m901 m903 m25 (by decide) (zC_Model X _ _) rfl rfl (by decide) rfl (Nat.le_of_ble_eq_true rfl) d_X7_judged_245 ?_
                  refine zr_callVv (As := [zR X 55, .int (o_Model_all h)]) (st := []) (c := 51) C (c_Model_layNear X h g 55 (o_Model_all h) (by decide) hf0) k_Model_layNear m905 m907 m26 (by decide) (zC_Model X _ _) rfl rfl (by decide) rfl (Nat.le_of_ble_eq_true rfl) d_X7_judged_248 ?_
                  refine zr_h (fun h19 eh19 => ?_)
                  refine zr_aload_n C d_X7_judged_251 rfl ?_
                  refine zr_aload_n C d_X7_judged_252 rfl ?_
                  refine gf_Model_5 C m758 d_X7_judged_253 ?_
                  refine zr_callVi (As := [zR X 55]) (st := []) (c := 51) C (c_Model_roundOf X h19 g 55 (by decide) (zfit_fr ((congrFun (congrFun eh19.symm _) _).trans (fr_Model_layNear _ _ (by omega) (by omega))) hf0) (zper_fr ((congrFun (congrFun eh19.symm _) _).trans (fr_Model_layNear _ _ (by omega) (by omega))) (fun v => ((congrFun (congrFun eh19.symm _) _).trans (fr_Model_layNear _ _ (by omega) (by omega)))) hper)) k_Model_roundOf m992 m994 m42 (by decide) (zC_Model X _ _) rfl rfl (by decide) rfl (Nat.le_of_ble_eq_true rfl) d_X7_judged_256 ?_
                  refine zr_vi (fun y20 ey20 => ?_)
                  refine zr_h (fun h21 eh21 => ?_)
                  refine zr_pop C d_X7_judged_259 rfl ?_
                  refine zr_iconst C (v := 1) d_X7_judged_260 (by decide) ?_
                  have eR : o_Model_judged h how a b v = (true, h21) := (by subst eh21 ey20 eh19; unfold o_Model_judged; rw [if_neg c1_1, if_neg c1_2, if_neg c1_3, if_neg c1_4, if_pos c1_5, if_pos c225, if_pos c229, if_pos c234])
                  subst hQ
                  exact zTQ_Zh eR (zr_iretz C (Or.inr rfl) d_X7_judged_261)
                · refine zr_iconst C (v := 0) d_X7_judged_237 (by decide) ?_
                  have eR : o_Model_judged h how a b v = (false, h) := (by unfold o_Model_judged; rw [if_neg c1_1, if_neg c1_2, if_neg c1_3, if_neg c1_4, if_pos c1_5, if_pos c225, if_pos c229, if_neg c234])
                  subst hQ
                  exact zTQ_Zh eR (zr_iretz C (Or.inl rfl) d_X7_judged_238)
          · by_cases c1_6 : how = 6
            · refine zr_tabIn C 262 (off := 261) d_X7_judged_1 (by rw [c1_6]; decide) (by rw [c1_6]; decide) (by rw [c1_6]; rfl) (by decide) ?_
              refine zr_aload_n C d_X7_judged_262 rfl ?_
              refine zr_aload_n C d_X7_judged_263 rfl ?_
              refine gf_Model_5 C m758 d_X7_judged_264 ?_
              refine zr_aload_n C d_X7_judged_267 rfl ?_
              refine zr_callVi (As := []) (st := [zR X 55, zR X 51]) (c := 51) C (c_Model_all X h g ) k_Model_all m901 m903 m25 (by decide) (zC_Model X _ _) rfl rfl (by decide) rfl (Nat.le_of_ble_eq_true rfl) d_X7_judged_268 ?_
              refine zr_callVv (As := [zR X 55, .int (o_Model_all h)]) (st := []) (c := 51) C (c_Model_layNear X h g 55 (o_Model_all h) (by decide) hf0) k_Model_layNear m905 m907 m26 (by decide) (zC_Model X _ _) rfl rfl (by decide) rfl (Nat.le_of_ble_eq_true rfl) d_X7_judged_271 ?_
              refine zr_h (fun h22 eh22 => ?_)
              refine zr_aload_n C d_X7_judged_274 rfl ?_
              refine zr_iload_n C d_X7_judged_275 rfl ?_
              refine zr_callVi (As := [.int a]) (st := []) (c := 51) C (c_Model_isStation X h22 g a) k_Model_isStation m980 m982 m40 (by decide) (zC_Model X _ _) rfl rfl (by decide) rfl (Nat.le_of_ble_eq_true rfl) d_X7_judged_276 ?_
              refine zr_topz (rd_Model_isStation ((congrFun (congrFun eh22.symm _) _).trans (fr_Model_layNear _ _ (by omega) (by omega)))) ?_
              suffices hJ279 : ∀ (y25 : Bool), ((o_Model_isStation h a) && ((decide (b = 0)) && (!(decide (2 ≤ v)) && (decide ((zb (o_Model_has (o_Model_unsettled h22 55) a)) = (zb (decide (v = 1)))))))) = y25 → zV X Γ Q 323 [none, none, none, none, none] [.int (zb y25)] h22 g by
                refine zr_ifz_eq C 322 d_X7_judged_279 (by decide) (fun c279 => ?_) (fun c279 => ?_)
                · refine zr_iconst C (v := 0) d_X7_judged_322 (by decide) ?_
                  refine zr_lv [none, none, none, none, none] (by simp [zle]) ?_
                  exact hJ279 false (by simp [c279])
                · have ex23 := zist hf0 c279
                  have ex23_2 := ex23.2
                  have ex23_c : zcn a < zcn (h22 51 1) := by rw [((congrFun (congrFun eh22.symm _) _).trans (fr_Model_layNear _ _ (by omega) (by omega)))]; exact ex23.2
                  have ex23_b := ((zfit_fr ((congrFun (congrFun eh22.symm _) _).trans (fr_Model_layNear _ _ (by omega) (by omega))) hf0)).1
                  refine zr_iload_n C d_X7_judged_282 rfl ?_
                  refine zr_if_ne C 322 d_X7_judged_283 (by decide) (fun c283 => ?_) (fun c283 => ?_)
                  · refine zr_iconst C (v := 0) d_X7_judged_322 (by decide) ?_
                    refine zr_lv [none, none, none, none, none] (by simp [zle]) ?_
                    exact hJ279 false (by simp [c279, c283])
                  · refine zr_iload C d_X7_judged_286 rfl ?_
                    refine zr_iconst C (v := 2) d_X7_judged_288 (by decide) ?_
                    refine zr_icmp_ge C 322 d_X7_judged_289 (by decide) (fun c289 => ?_) (fun c289 => ?_)
                    · refine zr_iconst C (v := 0) d_X7_judged_322 (by decide) ?_
                      refine zr_lv [none, none, none, none, none] (by simp [zle]) ?_
                      exact hJ279 false (by simp [c279, c283, c289])
                    · refine zr_aload_n C d_X7_judged_292 rfl ?_
                      refine zr_aload_n C d_X7_judged_293 rfl ?_
                      refine gf_Model_5 C m758 d_X7_judged_294 ?_
                      refine zr_callVi (As := [zR X 55]) (st := []) (c := 51) C (c_Model_unsettled X h22 g 55 (by decide) (zfit_fr ((congrFun (congrFun eh22.symm _) _).trans (fr_Model_layNear _ _ (by omega) (by omega))) hf0) (zper_fr ((congrFun (congrFun eh22.symm _) _).trans (fr_Model_layNear _ _ (by omega) (by omega))) (fun v => ((congrFun (congrFun eh22.symm _) _).trans (fr_Model_layNear _ _ (by omega) (by omega)))) hper)) k_Model_unsettled m931 m933 m31 (by decide) (zC_Model X _ _) rfl rfl (by decide) rfl (Nat.le_of_ble_eq_true rfl) d_X7_judged_297 ?_
                      refine zr_iload_n C d_X7_judged_300 rfl ?_
                      refine zr_callSi (As := [.int (o_Model_unsettled h22 55), .int a]) (st := []) C (c_Model_has X h22 g (o_Model_unsettled h22 55) a) k_Model_has m890 m891 rfl (by decide) rfl (Nat.le_of_ble_eq_true rfl) d_X7_judged_301 ?_
                      refine zr_iload C d_X7_judged_304 rfl ?_
                      refine zr_iconst C (v := 1) d_X7_judged_306 (by decide) ?_
                      suffices hJ307 : ∀ (y24 : Bool), (decide (v = 1)) = y24 → zV X Γ Q 315 [none, none, none, none, none] [.int (zb y24), .int (zb (o_Model_has (o_Model_unsettled h22 55) a))] h22 g by
                        refine zr_icmp_ne C 314 d_X7_judged_307 (by decide) (fun c307 => ?_) (fun c307 => ?_)
                        · refine zr_iconst C (v := 0) d_X7_judged_314 (by decide) ?_
                          refine zr_lv [none, none, none, none, none] (by simp [zle]) ?_
                          exact hJ307 false (by simp [c307])
                        · refine zr_iconst C (v := 1) d_X7_judged_310 (by decide) ?_
                          refine zr_goto C 315 d_X7_judged_311 (by decide) ?_
                          refine zr_lv [none, none, none, none, none] (by simp [zle]) ?_
                          exact hJ307 true (by simp [c307])
                      intro y24 ey24
                      refine zr_icmp_ne C 322 d_X7_judged_315 (by decide) (fun c315 => ?_) (fun c315 => ?_)
                      · refine zr_iconst C (v := 0) d_X7_judged_322 (by decide) ?_
                        exact hJ279 false (by subst ey24; simp [c279, c283, c289, c315])
                      · refine zr_iconst C (v := 1) d_X7_judged_318 (by decide) ?_
                        refine zr_goto C 323 d_X7_judged_319 (by decide) ?_
                        exact hJ279 true (by subst ey24; simp [c279, c283, c289, c315])
              intro y25 ey25
              have eR : o_Model_judged h how a b v = (y25, h22) := (by subst ey25 eh22; unfold o_Model_judged; rw [if_neg c1_1, if_neg c1_2, if_neg c1_3, if_neg c1_4, if_neg c1_5, if_pos c1_6])
              subst hQ
              exact zTQ_Zh eR (zr_iretz C (zb_01 _) d_X7_judged_323)
            · by_cases c1_7 : how = 7
              · refine zr_tabIn C 324 (off := 323) d_X7_judged_1 (by rw [c1_7]; decide) (by rw [c1_7]; decide) (by rw [c1_7]; rfl) (by decide) ?_
                refine zr_aload_n C d_X7_judged_324 rfl ?_
                refine gf_Model_5 C m758 d_X7_judged_325 ?_
                refine zr_aload_n C d_X7_judged_328 rfl ?_
                refine gf_Model_6 C m759 d_X7_judged_329 ?_
                refine zr_callSv (As := [zR X 55, zR X 56]) (st := []) C (c_Model_copy X h g 55 56 (by decide) (by decide)) k_Model_copy m1027 m1028 rfl (by decide) rfl (Nat.le_of_ble_eq_true rfl) d_X7_judged_332 ?_
                refine zr_h (fun h26 eh26 => ?_)
                refine zr_aload_n C d_X7_judged_335 rfl ?_
                refine zr_aload_n C d_X7_judged_336 rfl ?_
                refine gf_Model_6 C m759 d_X7_judged_337 ?_
                refine zr_aload_n C d_X7_judged_340 rfl ?_
                refine zr_callVi (As := []) (st := [zR X 56, zR X 51]) (c := 51) C (c_Model_all X h26 g ) k_Model_all m901 m903 m25 (by decide) (zC_Model X _ _) rfl rfl (by decide) rfl (Nat.le_of_ble_eq_true rfl) d_X7_judged_341 ?_
                refine zr_top (rd_Model_all ((congrFun (congrFun eh26.symm _) _).trans (fr_Model_copy _ _ (by omega)))) ?_
                refine zr_callVv (As := [zR X 56, .int (o_Model_all h)]) (st := []) (c := 51) C (c_Model_layNear X h26 g 56 (o_Model_all h) (by decide) (zfit_fr ((congrFun (congrFun eh26.symm _) _).trans (fr_Model_copy _ _ (by omega))) hf0)) k_Model_layNear m905 m907 m26 (by decide) (zC_Model X _ _) rfl rfl (by decide) rfl (Nat.le_of_ble_eq_true rfl) d_X7_judged_344 ?_
                refine zr_h (fun h27 eh27 => ?_)
                refine zr_iload_n C d_X7_judged_347 rfl ?_
                suffices hJ348 : ∀ (y30 : Bool) (h31 : zHp), ((decide (a = 0)) && (decide (((o_Model_runOf h27 56).1) = ((10 * b) + v)))) = y30 → (if a = 0 then (if ((o_Model_runOf h27 56).1) = ((10 * b) + v) then ((o_Model_runOf h27 56).2) else ((o_Model_runOf h27 56).2)) else h27) = h31 → zV X Γ Q 374 [none, none, none, none, none] [.int (zb y30)] h31 g by
                  refine zr_if_ne C 373 d_X7_judged_348 (by decide) (fun c348 => ?_) (fun c348 => ?_)
                  · refine zr_iconst C (v := 0) d_X7_judged_373 (by decide) ?_
                    refine zr_lv [none, none, none, none, none] (by simp [zle]) ?_
                    exact hJ348 false h27 (by simp [c348]) (((if_neg c348)))
                  · refine zr_aload_n C d_X7_judged_351 rfl ?_
                    refine zr_aload_n C d_X7_judged_352 rfl ?_
                    refine gf_Model_6 C m759 d_X7_judged_353 ?_
                    refine zr_callVi (As := [zR X 56]) (st := []) (c := 51) C (c_Model_runOf X h27 g 56 (by decide) (zfit_fr ((congrFun (congrFun eh27.symm _) _).trans ((fr_Model_layNear _ _ (by omega) (by omega)).trans ((congrFun (congrFun eh26.symm _) _).trans (fr_Model_copy _ _ (by omega))))) hf0) (zper_fr ((congrFun (congrFun eh27.symm _) _).trans ((fr_Model_layNear _ _ (by omega) (by omega)).trans ((congrFun (congrFun eh26.symm _) _).trans (fr_Model_copy _ _ (by omega))))) (fun v => ((congrFun (congrFun eh27.symm _) _).trans ((fr_Model_layNear _ _ (by omega) (by omega)).trans ((congrFun (congrFun eh26.symm _) _).trans (fr_Model_copy _ _ (by omega)))))) hper)) k_Model_runOf m1034 m1036 m45 (by decide) (zC_Model X _ _) rfl rfl (by decide) rfl (Nat.le_of_ble_eq_true rfl) d_X7_judged_356 ?_
                    refine zr_vi (fun y28 ey28 => ?_)
                    refine zr_h (fun h29 eh29 => ?_)
                    refine zr_bipush C (v := 10) d_X7_judged_359 (by decide) ?_
                    refine zr_iload_n C d_X7_judged_361 rfl ?_
                    refine zr_imul C d_X7_judged_362 ?_
                    refine zr_iload C d_X7_judged_363 rfl ?_
                    refine zr_iadd C d_X7_judged_365 ?_
                    refine zr_icmp_ne C 373 d_X7_judged_366 (by decide) (fun c366 => ?_) (fun c366 => ?_)
                    · refine zr_iconst C (v := 0) d_X7_judged_373 (by decide) ?_
                      refine zr_lv [none, none, none, none, none] (by simp [zle]) ?_
                      exact hJ348 false h29 (by subst eh29 ey28; simp [c348, c366]) (by subst eh29 ey28; exact ((if_pos c348).trans ((if_neg c366))))
                    · refine zr_iconst C (v := 1) d_X7_judged_369 (by decide) ?_
                      refine zr_goto C 374 d_X7_judged_370 (by decide) ?_
                      refine zr_lv [none, none, none, none, none] (by simp [zle]) ?_
                      exact hJ348 true h29 (by subst eh29 ey28; simp [c348, c366]) (by subst eh29 ey28; exact ((if_pos c348).trans ((if_pos c366))))
                intro y30 h31 ey30 eh31
                have eR : o_Model_judged h how a b v = (y30, h31) := (by subst eh31 ey30 eh27 eh26; unfold o_Model_judged; rw [if_neg c1_1, if_neg c1_2, if_neg c1_3, if_neg c1_4, if_neg c1_5, if_neg c1_6, if_pos c1_7])
                subst hQ
                exact zTQ_Zh eR (zr_iretz C (zb_01 _) d_X7_judged_374)
              · have w1_1 : (how : Int32).toInt ≠ 1 := zne_toInt c1_1 (by decide)
                have w1_2 : (how : Int32).toInt ≠ 2 := zne_toInt c1_2 (by decide)
                have w1_3 : (how : Int32).toInt ≠ 3 := zne_toInt c1_3 (by decide)
                have w1_4 : (how : Int32).toInt ≠ 4 := zne_toInt c1_4 (by decide)
                have w1_5 : (how : Int32).toInt ≠ 5 := zne_toInt c1_5 (by decide)
                have w1_6 : (how : Int32).toInt ≠ 6 := zne_toInt c1_6 (by decide)
                have w1_7 : (how : Int32).toInt ≠ 7 := zne_toInt c1_7 (by decide)
                refine zr_tabOut C 375 d_X7_judged_1 (by omega) (by decide) ?_
                refine zr_iconst C (v := 0) d_X7_judged_375 (by decide) ?_
                have eR : o_Model_judged h how a b v = (false, h) := (by unfold o_Model_judged; rw [if_neg c1_1, if_neg c1_2, if_neg c1_3, if_neg c1_4, if_neg c1_5, if_neg c1_6, if_neg c1_7])
                subst hQ
                exact zTQ_Zh eR (zr_iretz C (Or.inl rfl) d_X7_judged_376)
theorem d_X7_tenThousands_0 : decode prog_9_method_67_code 0 = .ok (.lconst 1, 1) := by decide +kernel
theorem d_X7_tenThousands_1 : decode prog_9_method_67_code 1 = .ok (.lstore_n 1, 1) := by decide +kernel
theorem d_X7_tenThousands_2 : decode prog_9_method_67_code 2 = .ok (.iconst 0, 1) := by decide +kernel
theorem d_X7_tenThousands_3 : decode prog_9_method_67_code 3 = .ok (.istore_n 3, 1) := by decide +kernel
theorem d_X7_tenThousands_4 : decode prog_9_method_67_code 4 = .ok (.iload_n 3, 1) := by decide +kernel
theorem d_X7_tenThousands_5 : decode prog_9_method_67_code 5 = .ok (.iload_n 0, 1) := by decide +kernel
theorem d_X7_tenThousands_6 : decode prog_9_method_67_code 6 = .ok (.if_icmp .ge 15, 3) := by decide +kernel
theorem d_X7_tenThousands_9 : decode prog_9_method_67_code 9 = .ok (.lload_n 1, 1) := by decide +kernel
theorem d_X7_tenThousands_10 : decode prog_9_method_67_code 10 = .ok (.ldc2_w 262, 3) := by decide +kernel
theorem d_X7_tenThousands_13 : decode prog_9_method_67_code 13 = .ok (.lmul, 1) := by decide +kernel
theorem d_X7_tenThousands_14 : decode prog_9_method_67_code 14 = .ok (.lstore_n 1, 1) := by decide +kernel
theorem d_X7_tenThousands_15 : decode prog_9_method_67_code 15 = .ok (.iinc 3 1, 3) := by decide +kernel
theorem d_X7_tenThousands_18 : decode prog_9_method_67_code 18 = .ok (.goto (-14), 3) := by decide +kernel
theorem d_X7_tenThousands_21 : decode prog_9_method_67_code 21 = .ok (.lload_n 1, 1) := by decide +kernel
theorem d_X7_tenThousands_22 : decode prog_9_method_67_code 22 = .ok (.lreturn, 1) := by decide +kernel
abbrev M_Model_tenThousands : zMT := (⟨"PeriodSlotsModel", "tenThousands", "(I)J"⟩, prog_9_method_67_code, 4, (some .long))
theorem k_Model_tenThousands : zcall M_Model_tenThousands 1 := ⟨zU_in (i := 1090) (by decide +kernel) rfl, m62, ⟨by decide, by decide, by decide +kernel⟩, by decide⟩
def o_Model_tenThousands (n : Int32) : Int64 :=
  (zrep (fun (i4_1 : Nat) (s4_1 : Int64) => (s4_1 * 10000)) 1 (zcn n))
set_option maxHeartbeats 400000 in
set_option maxRecDepth 20000 in
theorem c_Model_tenThousands (X : zXT) (h : zHp) (g : zLg) (n : Int32) : zDi X M_Model_tenThousands 0 [.int n] h g (zL (o_Model_tenThousands n)) h g := by
  refine zDi_of "PeriodSlotsModel" prog_9_method_67_code 4 (some .long) rfl (by decide) [zI n, none, none, none] rfl (fun _ q => q) (Nat.le_of_ble_eq_true rfl) ?_
  intro Γ Q C hQ
  refine zr_lconst C (v := 1) d_X7_tenThousands_0 (by decide) ?_
  refine zr_lstore_n C [zI n, zL 1, none, none] d_X7_tenThousands_1 (Nat.le_of_ble_eq_true rfl) rfl rfl ?_
  refine zr_iconst C (v := 0) d_X7_tenThousands_2 (by decide) ?_
  refine zr_istore_n C [zI n, zL 1, none, zI 0] d_X7_tenThousands_3 (Nat.le_of_ble_eq_true rfl) rfl rfl ?_
  refine zfor (f := (fun (i4_1 : Nat) (s4_1 : Int64) => (s4_1 * 10000))) (a := 1) (fun i4_1 s4_1 => zV X Γ Q 4 [zI n, zL s4_1, none, zI (nI i4_1)] [] h g) (fun _ _ => True) (zcn n) trivial (fun i4_1 s4_1 hi4_1 hI4_1 => ⟨trivial, fun hk4_1 => ?_⟩) (fun r4_1 er4_1 hI4_1 => ?_)
  · refine zr_iload_n C d_X7_tenThousands_4 rfl ?_
    refine zr_iload_n C d_X7_tenThousands_5 rfl ?_
    refine zr_icmp_ge C 21 d_X7_tenThousands_6 (by decide) (fun c => absurd c (zge_no rfl (by omega))) (fun _ => ?_)
    refine zr_lload_n C d_X7_tenThousands_9 rfl ?_
    refine zr_ldc2 C (v := 10000) m1091 d_X7_tenThousands_10 ?_
    refine zr_lmul C d_X7_tenThousands_13 ?_
    refine zr_lstore_n C [zI n, zL (s4_1 * 10000), none, zI (nI i4_1)] d_X7_tenThousands_14 (Nat.le_of_ble_eq_true rfl) rfl rfl ?_
    refine zr_iinc C [zI n, zL (s4_1 * 10000), none, zI (nI (i4_1 + 1))] (v := (nI (i4_1 + 1))) d_X7_tenThousands_15 rfl (zn_add rfl rfl) (Nat.le_of_ble_eq_true rfl) rfl rfl ?_
    refine zr_goto C 4 d_X7_tenThousands_18 (by decide) ?_
    exact hk4_1 (s4_1 * 10000) rfl
  refine zr_iload_n C d_X7_tenThousands_4 rfl ?_
  refine zr_iload_n C d_X7_tenThousands_5 rfl ?_
  refine zr_icmp_ge C 21 d_X7_tenThousands_6 (by decide) (fun _ => ?_) (fun c => absurd (zge_yes rfl (by omega) (by have := zcn_small n; omega)) c)
  refine zr_lload_n C d_X7_tenThousands_21 rfl ?_
  have eR : o_Model_tenThousands n = r4_1 := (by subst er4_1; unfold o_Model_tenThousands; exact rfl)
  subst hQ
  rw [eR]
  exact zr_lret C d_X7_tenThousands_22
theorem zten {n : Int32} {k : Nat} (e : n = nI (zcn n)) (h4 : zcn n ≤ 4) (hk : k < zcn n) : ¬ o_Model_tenThousands (n - 1 - nI k) = 0 := by
  have key : ∀ m, m ≤ 4 → ∀ k, k < m → ¬ o_Model_tenThousands (nI m - 1 - nI k) = 0 := by decide +kernel
  rw [e]
  exact key _ h4 _ hk

theorem d_X7_judge_0 : decode prog_9_method_68_code 0 = .ok (.iload_n 1, 1) := by decide +kernel
theorem d_X7_judge_1 : decode prog_9_method_68_code 1 = .ok (.i2l, 1) := by decide +kernel
theorem d_X7_judge_2 : decode prog_9_method_68_code 2 = .ok (.lconst 1, 1) := by decide +kernel
theorem d_X7_judge_3 : decode prog_9_method_68_code 3 = .ok (.ldc2_w 264, 3) := by decide +kernel
theorem d_X7_judge_6 : decode prog_9_method_68_code 6 = .ok (.invokestatic 76, 3) := by decide +kernel
theorem d_X7_judge_9 : decode prog_9_method_68_code 9 = .ok (.ifCond .eq 17, 3) := by decide +kernel
theorem d_X7_judge_12 : decode prog_9_method_68_code 12 = .ok (.lload_n 2, 1) := by decide +kernel
theorem d_X7_judge_13 : decode prog_9_method_68_code 13 = .ok (.lconst 0, 1) := by decide +kernel
theorem d_X7_judge_14 : decode prog_9_method_68_code 14 = .ok (.iload_n 1, 1) := by decide +kernel
theorem d_X7_judge_15 : decode prog_9_method_68_code 15 = .ok (.invokestatic 266, 3) := by decide +kernel
theorem d_X7_judge_18 : decode prog_9_method_68_code 18 = .ok (.lconst 1, 1) := by decide +kernel
theorem d_X7_judge_19 : decode prog_9_method_68_code 19 = .ok (.lsub, 1) := by decide +kernel
theorem d_X7_judge_20 : decode prog_9_method_68_code 20 = .ok (.invokestatic 76, 3) := by decide +kernel
theorem d_X7_judge_23 : decode prog_9_method_68_code 23 = .ok (.ifCond .ne 6, 3) := by decide +kernel
theorem d_X7_judge_26 : decode prog_9_method_68_code 26 = .ok (.bipush (-2), 2) := by decide +kernel
theorem d_X7_judge_28 : decode prog_9_method_68_code 28 = .ok (.ireturn, 1) := by decide +kernel
theorem d_X7_judge_29 : decode prog_9_method_68_code 29 = .ok (.aload_n 0, 1) := by decide +kernel
theorem d_X7_judge_30 : decode prog_9_method_68_code 30 = .ok (.getfield 16, 3) := by decide +kernel
theorem d_X7_judge_33 : decode prog_9_method_68_code 33 = .ok (.aload_n 0, 1) := by decide +kernel
theorem d_X7_judge_34 : decode prog_9_method_68_code 34 = .ok (.getfield 19, 3) := by decide +kernel
theorem d_X7_judge_37 : decode prog_9_method_68_code 37 = .ok (.invokestatic 236, 3) := by decide +kernel
theorem d_X7_judge_40 : decode prog_9_method_68_code 40 = .ok (.iconst 0, 1) := by decide +kernel
theorem d_X7_judge_41 : decode prog_9_method_68_code 41 = .ok (.istore 4, 2) := by decide +kernel
theorem d_X7_judge_43 : decode prog_9_method_68_code 43 = .ok (.iload 4, 2) := by decide +kernel
theorem d_X7_judge_45 : decode prog_9_method_68_code 45 = .ok (.iload_n 1, 1) := by decide +kernel
theorem d_X7_judge_46 : decode prog_9_method_68_code 46 = .ok (.if_icmp .ge 64, 3) := by decide +kernel
theorem d_X7_judge_49 : decode prog_9_method_68_code 49 = .ok (.lload_n 2, 1) := by decide +kernel
theorem d_X7_judge_50 : decode prog_9_method_68_code 50 = .ok (.iload_n 1, 1) := by decide +kernel
theorem d_X7_judge_51 : decode prog_9_method_68_code 51 = .ok (.iconst 1, 1) := by decide +kernel
theorem d_X7_judge_52 : decode prog_9_method_68_code 52 = .ok (.isub, 1) := by decide +kernel
theorem d_X7_judge_53 : decode prog_9_method_68_code 53 = .ok (.iload 4, 2) := by decide +kernel
theorem d_X7_judge_55 : decode prog_9_method_68_code 55 = .ok (.isub, 1) := by decide +kernel
theorem d_X7_judge_56 : decode prog_9_method_68_code 56 = .ok (.invokestatic 266, 3) := by decide +kernel
theorem d_X7_judge_59 : decode prog_9_method_68_code 59 = .ok (.ldiv, 1) := by decide +kernel
theorem d_X7_judge_60 : decode prog_9_method_68_code 60 = .ok (.ldc2_w 262, 3) := by decide +kernel
theorem d_X7_judge_63 : decode prog_9_method_68_code 63 = .ok (.lrem, 1) := by decide +kernel
theorem d_X7_judge_64 : decode prog_9_method_68_code 64 = .ok (.l2i, 1) := by decide +kernel
theorem d_X7_judge_65 : decode prog_9_method_68_code 65 = .ok (.istore 5, 2) := by decide +kernel
theorem d_X7_judge_67 : decode prog_9_method_68_code 67 = .ok (.aload_n 0, 1) := by decide +kernel
theorem d_X7_judge_68 : decode prog_9_method_68_code 68 = .ok (.iload 5, 2) := by decide +kernel
theorem d_X7_judge_70 : decode prog_9_method_68_code 70 = .ok (.sipush 1000, 3) := by decide +kernel
theorem d_X7_judge_73 : decode prog_9_method_68_code 73 = .ok (.idiv, 1) := by decide +kernel
theorem d_X7_judge_74 : decode prog_9_method_68_code 74 = .ok (.iload 5, 2) := by decide +kernel
theorem d_X7_judge_76 : decode prog_9_method_68_code 76 = .ok (.bipush 100, 2) := by decide +kernel
theorem d_X7_judge_78 : decode prog_9_method_68_code 78 = .ok (.idiv, 1) := by decide +kernel
theorem d_X7_judge_79 : decode prog_9_method_68_code 79 = .ok (.bipush 10, 2) := by decide +kernel
theorem d_X7_judge_81 : decode prog_9_method_68_code 81 = .ok (.irem, 1) := by decide +kernel
theorem d_X7_judge_82 : decode prog_9_method_68_code 82 = .ok (.iload 5, 2) := by decide +kernel
theorem d_X7_judge_84 : decode prog_9_method_68_code 84 = .ok (.bipush 10, 2) := by decide +kernel
theorem d_X7_judge_86 : decode prog_9_method_68_code 86 = .ok (.idiv, 1) := by decide +kernel
theorem d_X7_judge_87 : decode prog_9_method_68_code 87 = .ok (.bipush 10, 2) := by decide +kernel
theorem d_X7_judge_89 : decode prog_9_method_68_code 89 = .ok (.irem, 1) := by decide +kernel
theorem d_X7_judge_90 : decode prog_9_method_68_code 90 = .ok (.iload 5, 2) := by decide +kernel
theorem d_X7_judge_92 : decode prog_9_method_68_code 92 = .ok (.bipush 10, 2) := by decide +kernel
theorem d_X7_judge_94 : decode prog_9_method_68_code 94 = .ok (.irem, 1) := by decide +kernel
theorem d_X7_judge_95 : decode prog_9_method_68_code 95 = .ok (.invokevirtual 270, 3) := by decide +kernel
theorem d_X7_judge_98 : decode prog_9_method_68_code 98 = .ok (.ifCond .ne 6, 3) := by decide +kernel
theorem d_X7_judge_101 : decode prog_9_method_68_code 101 = .ok (.iload 4, 2) := by decide +kernel
theorem d_X7_judge_103 : decode prog_9_method_68_code 103 = .ok (.ireturn, 1) := by decide +kernel
theorem d_X7_judge_104 : decode prog_9_method_68_code 104 = .ok (.iinc 4 1, 3) := by decide +kernel
theorem d_X7_judge_107 : decode prog_9_method_68_code 107 = .ok (.goto (-64), 3) := by decide +kernel
theorem d_X7_judge_110 : decode prog_9_method_68_code 110 = .ok (.bipush (-9), 2) := by decide +kernel
theorem d_X7_judge_112 : decode prog_9_method_68_code 112 = .ok (.ireturn, 1) := by decide +kernel
abbrev M_Model_judge : zMT := (⟨"PeriodSlotsModel", "judge", "(IJ)I"⟩, prog_9_method_68_code, 6, (some .int))
theorem k_Model_judge : zcall M_Model_judge 2 := ⟨zU_in (i := 1086) (by decide +kernel) rfl, m62, ⟨by decide, by decide, by decide +kernel⟩, by decide⟩
def o_Model_judge (h : zHp) (n : Int32) (row : Int64) : Int32 × zHp :=
  (if (o_Model_in (Int32.toInt64 n) 1 4) = true then (if (o_Model_in row 0 ((o_Model_tenThousands n) - 1)) = true then (Sum.elim (fun r43_3 => ((-9), r43_3)) (fun q43_3 => q43_3) (zrex (fun (i43_3 : Nat) (s43_3 : zHp) => ((if ((o_Model_judged s43_3 ((Int64.toInt32 (zlrem (row / (o_Model_tenThousands ((n - 1) - (nI i43_3)))) 10000)) / 1000) (zrem ((Int64.toInt32 (zlrem (row / (o_Model_tenThousands ((n - 1) - (nI i43_3)))) 10000)) / 100) 10) (zrem ((Int64.toInt32 (zlrem (row / (o_Model_tenThousands ((n - 1) - (nI i43_3)))) 10000)) / 10) 10) (zrem (Int64.toInt32 (zlrem (row / (o_Model_tenThousands ((n - 1) - (nI i43_3)))) 10000)) 10)).1) = true then .inl ((o_Model_judged s43_3 ((Int64.toInt32 (zlrem (row / (o_Model_tenThousands ((n - 1) - (nI i43_3)))) 10000)) / 1000) (zrem ((Int64.toInt32 (zlrem (row / (o_Model_tenThousands ((n - 1) - (nI i43_3)))) 10000)) / 100) 10) (zrem ((Int64.toInt32 (zlrem (row / (o_Model_tenThousands ((n - 1) - (nI i43_3)))) 10000)) / 10) 10) (zrem (Int64.toInt32 (zlrem (row / (o_Model_tenThousands ((n - 1) - (nI i43_3)))) 10000)) 10)).2) else .inr ((nI i43_3), ((o_Model_judged s43_3 ((Int64.toInt32 (zlrem (row / (o_Model_tenThousands ((n - 1) - (nI i43_3)))) 10000)) / 1000) (zrem ((Int64.toInt32 (zlrem (row / (o_Model_tenThousands ((n - 1) - (nI i43_3)))) 10000)) / 100) 10) (zrem ((Int64.toInt32 (zlrem (row / (o_Model_tenThousands ((n - 1) - (nI i43_3)))) 10000)) / 10) 10) (zrem (Int64.toInt32 (zlrem (row / (o_Model_tenThousands ((n - 1) - (nI i43_3)))) 10000)) 10)).2))) : (zHp) ⊕ (Int32 × zHp))) (o_Model_copy h 54 55) (zcn n))) else ((-2), h)) else ((-2), h))
theorem fr_Model_judge {h : zHp} {n : Int32} {row : Int64} (c k : Nat) (q0 : ¬ (c = 51 ∧ k = 9)) (q1 : c ≠ 66) (q2 : c ≠ 55) (q3 : c ≠ 56) (q4 : ¬ (c = 51 ∧ k = 10)) (q5 : ¬ (c = 51 ∧ k = 11)) (q6 : c ≠ 67) (q7 : c ≠ 68) : (o_Model_judge h n row).2 c k = h c k := by
  unfold o_Model_judge
  by_cases f1 : (o_Model_in (Int32.toInt64 n) 1 4) = true
  · rw [if_pos f1]
    by_cases f2 : (o_Model_in row 0 ((o_Model_tenThousands n) - 1)) = true
    · rw [if_pos f2]
      have hX := zrex_inv (f := (fun (i43_3 : Nat) (s43_3 : zHp) => ((if ((o_Model_judged s43_3 ((Int64.toInt32 (zlrem (row / (o_Model_tenThousands ((n - 1) - (nI i43_3)))) 10000)) / 1000) (zrem ((Int64.toInt32 (zlrem (row / (o_Model_tenThousands ((n - 1) - (nI i43_3)))) 10000)) / 100) 10) (zrem ((Int64.toInt32 (zlrem (row / (o_Model_tenThousands ((n - 1) - (nI i43_3)))) 10000)) / 10) 10) (zrem (Int64.toInt32 (zlrem (row / (o_Model_tenThousands ((n - 1) - (nI i43_3)))) 10000)) 10)).1) = true then .inl ((o_Model_judged s43_3 ((Int64.toInt32 (zlrem (row / (o_Model_tenThousands ((n - 1) - (nI i43_3)))) 10000)) / 1000) (zrem ((Int64.toInt32 (zlrem (row / (o_Model_tenThousands ((n - 1) - (nI i43_3)))) 10000)) / 100) 10) (zrem ((Int64.toInt32 (zlrem (row / (o_Model_tenThousands ((n - 1) - (nI i43_3)))) 10000)) / 10) 10) (zrem (Int64.toInt32 (zlrem (row / (o_Model_tenThousands ((n - 1) - (nI i43_3)))) 10000)) 10)).2) else .inr ((nI i43_3), ((o_Model_judged s43_3 ((Int64.toInt32 (zlrem (row / (o_Model_tenThousands ((n - 1) - (nI i43_3)))) 10000)) / 1000) (zrem ((Int64.toInt32 (zlrem (row / (o_Model_tenThousands ((n - 1) - (nI i43_3)))) 10000)) / 100) 10) (zrem ((Int64.toInt32 (zlrem (row / (o_Model_tenThousands ((n - 1) - (nI i43_3)))) 10000)) / 10) 10) (zrem (Int64.toInt32 (zlrem (row / (o_Model_tenThousands ((n - 1) - (nI i43_3)))) 10000)) 10)).2))) : (zHp) ⊕ (Int32 × zHp)))) (a := (o_Model_copy h 54 55)) (fun _ s43_3 => ∀ c k : Nat, ¬ (c = 51 ∧ k = 9) → c ≠ 66 → c ≠ 55 → c ≠ 56 → ¬ (c = 51 ∧ k = 10) → ¬ (c = 51 ∧ k = 11) → c ≠ 67 → c ≠ 68 → s43_3 c k = (o_Model_copy h 54 55) c k) (fun q43_3 => ∀ c k : Nat, ¬ (c = 51 ∧ k = 9) → c ≠ 66 → c ≠ 55 → c ≠ 56 → ¬ (c = 51 ∧ k = 10) → ¬ (c = 51 ∧ k = 11) → c ≠ 67 → c ≠ 68 → q43_3.2 c k = (o_Model_copy h 54 55) c k) (zcn n) (fun _ _ _ _ _ _ _ _ _ _ => rfl) (fun i43_3 s43_3 hi43_3 hI43_3 => ⟨(by intro s2 hs; (try dsimp only at hs); by_cases cc : ((o_Model_judged s43_3 ((Int64.toInt32 (zlrem (row / (o_Model_tenThousands ((n - 1) - (nI i43_3)))) 10000)) / 1000) (zrem ((Int64.toInt32 (zlrem (row / (o_Model_tenThousands ((n - 1) - (nI i43_3)))) 10000)) / 100) 10) (zrem ((Int64.toInt32 (zlrem (row / (o_Model_tenThousands ((n - 1) - (nI i43_3)))) 10000)) / 10) 10) (zrem (Int64.toInt32 (zlrem (row / (o_Model_tenThousands ((n - 1) - (nI i43_3)))) 10000)) 10)).1) = true; (rw [if_pos cc] at hs; cases hs; exact fun c k q0 q1 q2 q3 q4 q5 q6 q7 => (by (try dsimp only); exact ((fr_Model_judged _ _ (by assumption) (by assumption) (by assumption) (by assumption) (by assumption) (by assumption) (by assumption) (by assumption)).trans (hI43_3 _ _ (by assumption) (by assumption) (by assumption) (by assumption) (by assumption) (by assumption) (by assumption) (by assumption))))); (rw [if_neg cc] at hs; cases hs)), (by intro r hs; (try dsimp only at hs); by_cases cc : ((o_Model_judged s43_3 ((Int64.toInt32 (zlrem (row / (o_Model_tenThousands ((n - 1) - (nI i43_3)))) 10000)) / 1000) (zrem ((Int64.toInt32 (zlrem (row / (o_Model_tenThousands ((n - 1) - (nI i43_3)))) 10000)) / 100) 10) (zrem ((Int64.toInt32 (zlrem (row / (o_Model_tenThousands ((n - 1) - (nI i43_3)))) 10000)) / 10) 10) (zrem (Int64.toInt32 (zlrem (row / (o_Model_tenThousands ((n - 1) - (nI i43_3)))) 10000)) 10)).1) = true; (rw [if_pos cc] at hs; cases hs); (rw [if_neg cc] at hs; cases hs; exact fun c k q0 q1 q2 q3 q4 q5 q6 q7 => (by (try dsimp only); exact ((fr_Model_judged _ _ (by assumption) (by assumption) (by assumption) (by assumption) (by assumption) (by assumption) (by assumption) (by assumption)).trans (hI43_3 _ _ (by assumption) (by assumption) (by assumption) (by assumption) (by assumption) (by assumption) (by assumption) (by assumption))))))⟩)
      cases hz : (zrex (fun (i43_3 : Nat) (s43_3 : zHp) => ((if ((o_Model_judged s43_3 ((Int64.toInt32 (zlrem (row / (o_Model_tenThousands ((n - 1) - (nI i43_3)))) 10000)) / 1000) (zrem ((Int64.toInt32 (zlrem (row / (o_Model_tenThousands ((n - 1) - (nI i43_3)))) 10000)) / 100) 10) (zrem ((Int64.toInt32 (zlrem (row / (o_Model_tenThousands ((n - 1) - (nI i43_3)))) 10000)) / 10) 10) (zrem (Int64.toInt32 (zlrem (row / (o_Model_tenThousands ((n - 1) - (nI i43_3)))) 10000)) 10)).1) = true then .inl ((o_Model_judged s43_3 ((Int64.toInt32 (zlrem (row / (o_Model_tenThousands ((n - 1) - (nI i43_3)))) 10000)) / 1000) (zrem ((Int64.toInt32 (zlrem (row / (o_Model_tenThousands ((n - 1) - (nI i43_3)))) 10000)) / 100) 10) (zrem ((Int64.toInt32 (zlrem (row / (o_Model_tenThousands ((n - 1) - (nI i43_3)))) 10000)) / 10) 10) (zrem (Int64.toInt32 (zlrem (row / (o_Model_tenThousands ((n - 1) - (nI i43_3)))) 10000)) 10)).2) else .inr ((nI i43_3), ((o_Model_judged s43_3 ((Int64.toInt32 (zlrem (row / (o_Model_tenThousands ((n - 1) - (nI i43_3)))) 10000)) / 1000) (zrem ((Int64.toInt32 (zlrem (row / (o_Model_tenThousands ((n - 1) - (nI i43_3)))) 10000)) / 100) 10) (zrem ((Int64.toInt32 (zlrem (row / (o_Model_tenThousands ((n - 1) - (nI i43_3)))) 10000)) / 10) 10) (zrem (Int64.toInt32 (zlrem (row / (o_Model_tenThousands ((n - 1) - (nI i43_3)))) 10000)) 10)).2))) : (zHp) ⊕ (Int32 × zHp))) (o_Model_copy h 54 55) (zcn n)) with
      | inl r43_3 =>
        have hI43_3 := hX.1 r43_3 hz
        simp only [Sum.elim_inl]
        try dsimp only
        first | done | exact ((hI43_3 _ _ (by assumption) (by assumption) (by assumption) (by assumption) (by assumption) (by assumption) (by assumption) (by assumption)).trans (fr_Model_copy _ _ (by assumption)))
      | inr q43_3 =>
        exact (hX.2 q43_3 hz c k (by assumption) (by assumption) (by assumption) (by assumption) (by assumption) (by assumption) (by assumption) (by assumption)).trans (fr_Model_copy _ _ (by assumption))
    · rw [if_neg f2]
      try dsimp only
      first | done | exact rfl
  · rw [if_neg f1]
    try dsimp only
    first | done | exact rfl
set_option maxHeartbeats 400000 in
set_option maxRecDepth 20000 in
theorem c_Model_judge (X : zXT) (h : zHp) (g : zLg) (n : Int32) (row : Int64) (hf0 : zfit h 51 1 8) (hper : zper h) : zDi X M_Model_judge 9 [zR X 51, .int n, .long row] h g (zI ((o_Model_judge h n row).1)) ((o_Model_judge h n row).2) g := by
  have hf0_1 := hf0.1
  refine zDi_of "PeriodSlotsModel" prog_9_method_68_code 6 (some .int) rfl (by decide) [zO X 51, zI n, zL row, none, none, none] rfl (fun _ q => q) (Nat.le_of_ble_eq_true rfl) ?_
  intro Γ Q C hQ
  refine zr_iload_n C d_X7_judge_0 rfl ?_
  refine zr_i2l C d_X7_judge_1 ?_
  refine zr_lconst C (v := 1) d_X7_judge_2 (by decide) ?_
  refine zr_ldc2 C (v := 4) m1087 d_X7_judge_3 ?_
  refine zr_callSi (As := [.long (Int32.toInt64 n), .long 1, .long 4]) (st := []) C (c_Model_in X h g (Int32.toInt64 n) 1 4) k_Model_in m856 m857 rfl (by decide) rfl (Nat.le_of_ble_eq_true rfl) d_X7_judge_6 ?_
  refine zr_ifz_eq C 26 d_X7_judge_9 (by decide) (fun c9 => ?_) (fun c9 => ?_)
  · refine zr_bipush C (v := (-2)) d_X7_judge_26 (by decide) ?_
    have eR : o_Model_judge h n row = ((-2), h) := (by unfold o_Model_judge; rw [if_neg (zbf c9)])
    subst hQ
    exact zTQ_Ih eR (zr_ireti C d_X7_judge_28)
  · have ex1 := zin (N := 4) c9 (by decide) (by decide)
    have ex1_2 := ex1.2
    refine zr_lload_n C d_X7_judge_12 rfl ?_
    refine zr_lconst C (v := 0) d_X7_judge_13 (by decide) ?_
    refine zr_iload_n C d_X7_judge_14 rfl ?_
    refine zr_callSl (As := [.int n]) (st := [.long 0, .long row]) C (c_Model_tenThousands X h g n) k_Model_tenThousands m1088 m1089 rfl (by decide) rfl (Nat.le_of_ble_eq_true rfl) d_X7_judge_15 ?_
    refine zr_lconst C (v := 1) d_X7_judge_18 (by decide) ?_
    refine zr_lsub C d_X7_judge_19 ?_
    refine zr_callSi (As := [.long row, .long 0, .long ((o_Model_tenThousands n) - 1)]) (st := []) C (c_Model_in X h g row 0 ((o_Model_tenThousands n) - 1)) k_Model_in m856 m857 rfl (by decide) rfl (Nat.le_of_ble_eq_true rfl) d_X7_judge_20 ?_
    refine zr_ifz_ne C 29 d_X7_judge_23 (by decide) (fun c23 => ?_) (fun c23 => ?_)
    · refine zr_aload_n C d_X7_judge_29 rfl ?_
      refine gf_Model_4 C m757 d_X7_judge_30 ?_
      refine zr_aload_n C d_X7_judge_33 rfl ?_
      refine gf_Model_5 C m758 d_X7_judge_34 ?_
      refine zr_callSv (As := [zR X 54, zR X 55]) (st := []) C (c_Model_copy X h g 54 55 (by decide) (by decide)) k_Model_copy m1027 m1028 rfl (by decide) rfl (Nat.le_of_ble_eq_true rfl) d_X7_judge_37 ?_
      refine zr_h (fun h2 eh2 => ?_)
      refine zr_iconst C (v := 0) d_X7_judge_40 (by decide) ?_
      refine zr_istore C [zO X 51, zI n, zL row, none, zI 0, none] d_X7_judge_41 (Nat.le_of_ble_eq_true rfl) rfl rfl ?_
      refine zforx (f := (fun (i43_3 : Nat) (s43_3 : zHp) => ((if ((o_Model_judged s43_3 ((Int64.toInt32 (zlrem (row / (o_Model_tenThousands ((n - 1) - (nI i43_3)))) 10000)) / 1000) (zrem ((Int64.toInt32 (zlrem (row / (o_Model_tenThousands ((n - 1) - (nI i43_3)))) 10000)) / 100) 10) (zrem ((Int64.toInt32 (zlrem (row / (o_Model_tenThousands ((n - 1) - (nI i43_3)))) 10000)) / 10) 10) (zrem (Int64.toInt32 (zlrem (row / (o_Model_tenThousands ((n - 1) - (nI i43_3)))) 10000)) 10)).1) = true then .inl ((o_Model_judged s43_3 ((Int64.toInt32 (zlrem (row / (o_Model_tenThousands ((n - 1) - (nI i43_3)))) 10000)) / 1000) (zrem ((Int64.toInt32 (zlrem (row / (o_Model_tenThousands ((n - 1) - (nI i43_3)))) 10000)) / 100) 10) (zrem ((Int64.toInt32 (zlrem (row / (o_Model_tenThousands ((n - 1) - (nI i43_3)))) 10000)) / 10) 10) (zrem (Int64.toInt32 (zlrem (row / (o_Model_tenThousands ((n - 1) - (nI i43_3)))) 10000)) 10)).2) else .inr ((nI i43_3), ((o_Model_judged s43_3 ((Int64.toInt32 (zlrem (row / (o_Model_tenThousands ((n - 1) - (nI i43_3)))) 10000)) / 1000) (zrem ((Int64.toInt32 (zlrem (row / (o_Model_tenThousands ((n - 1) - (nI i43_3)))) 10000)) / 100) 10) (zrem ((Int64.toInt32 (zlrem (row / (o_Model_tenThousands ((n - 1) - (nI i43_3)))) 10000)) / 10) 10) (zrem (Int64.toInt32 (zlrem (row / (o_Model_tenThousands ((n - 1) - (nI i43_3)))) 10000)) 10)).2))) : (zHp) ⊕ (Int32 × zHp)))) (a := h2) (fun i43_3 s43_3 => zV X Γ Q 43 [zO X 51, zI n, zL row, none, zI (nI i43_3), none] [] s43_3 g) (fun _ s43_3 => ∀ c k : Nat, ¬ (c = 51 ∧ k = 9) → c ≠ 66 → c ≠ 55 → c ≠ 56 → ¬ (c = 51 ∧ k = 10) → ¬ (c = 51 ∧ k = 11) → c ≠ 67 → c ≠ 68 → s43_3 c k = h2 c k) (zcn n) (fun _ _ _ _ _ _ _ _ _ _ => rfl) (fun i43_3 s43_3 hi43_3 hI43_3 => ⟨(by intro s2 hs; (try dsimp only at hs); by_cases cc : ((o_Model_judged s43_3 ((Int64.toInt32 (zlrem (row / (o_Model_tenThousands ((n - 1) - (nI i43_3)))) 10000)) / 1000) (zrem ((Int64.toInt32 (zlrem (row / (o_Model_tenThousands ((n - 1) - (nI i43_3)))) 10000)) / 100) 10) (zrem ((Int64.toInt32 (zlrem (row / (o_Model_tenThousands ((n - 1) - (nI i43_3)))) 10000)) / 10) 10) (zrem (Int64.toInt32 (zlrem (row / (o_Model_tenThousands ((n - 1) - (nI i43_3)))) 10000)) 10)).1) = true; (rw [if_pos cc] at hs; cases hs; exact fun c k q0 q1 q2 q3 q4 q5 q6 q7 => (by (try dsimp only); exact ((fr_Model_judged _ _ (by assumption) (by assumption) (by assumption) (by assumption) (by assumption) (by assumption) (by assumption) (by assumption)).trans (hI43_3 _ _ (by assumption) (by assumption) (by assumption) (by assumption) (by assumption) (by assumption) (by assumption) (by assumption))))); (rw [if_neg cc] at hs; cases hs)), fun hk43_3 hx43_3 => ?_⟩) (fun r43_3 er43_3 hI43_3 => ?_)
      · refine zr_iload C d_X7_judge_43 rfl ?_
        refine zr_iload_n C d_X7_judge_45 rfl ?_
        refine zr_icmp_ge C 110 d_X7_judge_46 (by decide) (fun c => absurd c (zge_no rfl (by omega))) (fun _ => ?_)
        refine zr_lload_n C d_X7_judge_49 rfl ?_
        refine zr_iload_n C d_X7_judge_50 rfl ?_
        refine zr_iconst C (v := 1) d_X7_judge_51 (by decide) ?_
        refine zr_isub C d_X7_judge_52 ?_
        refine zr_iload C d_X7_judge_53 rfl ?_
        refine zr_isub C d_X7_judge_55 ?_
        refine zr_callSl (As := [.int ((n - 1) - (nI i43_3))]) (st := [.long row]) C (c_Model_tenThousands X s43_3 g ((n - 1) - (nI i43_3))) k_Model_tenThousands m1088 m1089 rfl (by decide) rfl (Nat.le_of_ble_eq_true rfl) d_X7_judge_56 ?_
        refine zr_ldiv C d_X7_judge_59 (zten (zix ex1.1) (by omega) (by omega)) ?_
        refine zr_ldc2 C (v := 10000) m1091 d_X7_judge_60 ?_
        refine zr_lrem C d_X7_judge_63 (by decide) ?_
        refine zr_l2i C d_X7_judge_64 ?_
        refine zr_istore C [zO X 51, zI n, zL row, none, zI (nI i43_3), zI (Int64.toInt32 (zlrem (row / (o_Model_tenThousands ((n - 1) - (nI i43_3)))) 10000))] d_X7_judge_65 (Nat.le_of_ble_eq_true rfl) rfl rfl ?_
        refine zr_aload_n C d_X7_judge_67 rfl ?_
        refine zr_iload C d_X7_judge_68 rfl ?_
        refine zr_sipush C (v := 1000) d_X7_judge_70 (by decide) ?_
        refine zr_idiv C d_X7_judge_73 (by decide) ?_
        refine zr_iload C d_X7_judge_74 rfl ?_
        refine zr_bipush C (v := 100) d_X7_judge_76 (by decide) ?_
        refine zr_idiv C d_X7_judge_78 (by decide) ?_
        refine zr_bipush C (v := 10) d_X7_judge_79 (by decide) ?_
        refine zr_irem C d_X7_judge_81 (by decide) ?_
        refine zr_iload C d_X7_judge_82 rfl ?_
        refine zr_bipush C (v := 10) d_X7_judge_84 (by decide) ?_
        refine zr_idiv C d_X7_judge_86 (by decide) ?_
        refine zr_bipush C (v := 10) d_X7_judge_87 (by decide) ?_
        refine zr_irem C d_X7_judge_89 (by decide) ?_
        refine zr_iload C d_X7_judge_90 rfl ?_
        refine zr_bipush C (v := 10) d_X7_judge_92 (by decide) ?_
        refine zr_irem C d_X7_judge_94 (by decide) ?_
        refine zr_callVi (As := [.int ((Int64.toInt32 (zlrem (row / (o_Model_tenThousands ((n - 1) - (nI i43_3)))) 10000)) / 1000), .int (zrem ((Int64.toInt32 (zlrem (row / (o_Model_tenThousands ((n - 1) - (nI i43_3)))) 10000)) / 100) 10), .int (zrem ((Int64.toInt32 (zlrem (row / (o_Model_tenThousands ((n - 1) - (nI i43_3)))) 10000)) / 10) 10), .int (zrem (Int64.toInt32 (zlrem (row / (o_Model_tenThousands ((n - 1) - (nI i43_3)))) 10000)) 10)]) (st := []) (c := 51) C (c_Model_judged X s43_3 g ((Int64.toInt32 (zlrem (row / (o_Model_tenThousands ((n - 1) - (nI i43_3)))) 10000)) / 1000) (zrem ((Int64.toInt32 (zlrem (row / (o_Model_tenThousands ((n - 1) - (nI i43_3)))) 10000)) / 100) 10) (zrem ((Int64.toInt32 (zlrem (row / (o_Model_tenThousands ((n - 1) - (nI i43_3)))) 10000)) / 10) 10) (zrem (Int64.toInt32 (zlrem (row / (o_Model_tenThousands ((n - 1) - (nI i43_3)))) 10000)) 10) (zfit_fr ((hI43_3 _ _ (by omega) (by omega) (by omega) (by omega) (by omega) (by omega) (by omega) (by omega)).trans ((congrFun (congrFun eh2.symm _) _).trans (fr_Model_copy _ _ (by omega)))) hf0) (zper_fr ((hI43_3 _ _ (by omega) (by omega) (by omega) (by omega) (by omega) (by omega) (by omega) (by omega)).trans ((congrFun (congrFun eh2.symm _) _).trans (fr_Model_copy _ _ (by omega)))) (fun v => ((hI43_3 _ _ (by omega) (by omega) (by omega) (by omega) (by omega) (by omega) (by omega) (by omega)).trans ((congrFun (congrFun eh2.symm _) _).trans (fr_Model_copy _ _ (by omega))))) hper)) k_Model_judged m1092 m1094 m51 (by decide) (zC_Model X _ _) rfl rfl (by decide) rfl (Nat.le_of_ble_eq_true rfl) d_X7_judge_95 ?_
        refine zr_vz (fun y4 ey4 => ?_)
        refine zr_h (fun h5 eh5 => ?_)
        refine zr_ifz_ne C 104 d_X7_judge_98 (by decide) (fun c98 => ?_) (fun c98 => ?_)
        · refine zr_iinc C [zO X 51, zI n, zL row, none, zI (nI (i43_3 + 1)), zI (Int64.toInt32 (zlrem (row / (o_Model_tenThousands ((n - 1) - (nI i43_3)))) 10000))] (v := (nI (i43_3 + 1))) d_X7_judge_104 rfl (zn_add rfl rfl) (Nat.le_of_ble_eq_true rfl) rfl rfl ?_
          refine zr_goto C 43 d_X7_judge_107 (by decide) ?_
          refine zr_lv [zO X 51, zI n, zL row, none, zI (nI (i43_3 + 1)), none] (by simp [zle]) ?_
          exact hk43_3 h5 (by subst eh5 ey4; exact ((if_pos c98)))
        · refine zr_iload C d_X7_judge_101 rfl ?_
          have hr43_3 := hx43_3 (((nI i43_3), h5)) (by subst eh5 ey4; exact ((if_neg (zbf c98))))
          have eR : o_Model_judge h n row = ((nI i43_3), h5) := (by subst eh5 ey4 eh2; unfold o_Model_judge; exact ((if_pos c9).trans ((if_pos c23).trans ((congrArg (Sum.elim _ _) hr43_3)))))
          subst hQ
          exact zTQ_Ih eR (zr_ireti C d_X7_judge_103)
      refine zr_iload C d_X7_judge_43 rfl ?_
      refine zr_iload_n C d_X7_judge_45 rfl ?_
      refine zr_icmp_ge C 110 d_X7_judge_46 (by decide) (fun _ => ?_) (fun c => absurd (zge_yes rfl (by omega) (by have := zcn_small n; omega)) c)
      refine zr_bipush C (v := (-9)) d_X7_judge_110 (by decide) ?_
      have eR : o_Model_judge h n row = ((-9), r43_3) := (by subst eh2; unfold o_Model_judge; exact ((if_pos c9).trans ((if_pos c23).trans ((congrArg (Sum.elim _ _) er43_3)))))
      subst hQ
      exact zTQ_Ih eR (zr_ireti C d_X7_judge_112)
    · refine zr_bipush C (v := (-2)) d_X7_judge_26 (by decide) ?_
      have eR : o_Model_judge h n row = ((-2), h) := (by unfold o_Model_judge; rw [if_pos c9, if_neg (zbf c23)])
      subst hQ
      exact zTQ_Ih eR (zr_ireti C d_X7_judge_28)
theorem d_X7_see_0 : decode prog_9_method_69_code 0 = .ok (.aload_n 0, 1) := by decide +kernel
theorem d_X7_see_1 : decode prog_9_method_69_code 1 = .ok (.iload_n 1, 1) := by decide +kernel
theorem d_X7_see_2 : decode prog_9_method_69_code 2 = .ok (.invokevirtual 212, 3) := by decide +kernel
theorem d_X7_see_5 : decode prog_9_method_69_code 5 = .ok (.ifCond .ne 5, 3) := by decide +kernel
theorem d_X7_see_8 : decode prog_9_method_69_code 8 = .ok (.iconst (-1), 1) := by decide +kernel
theorem d_X7_see_9 : decode prog_9_method_69_code 9 = .ok (.ireturn, 1) := by decide +kernel
theorem d_X7_see_10 : decode prog_9_method_69_code 10 = .ok (.iload_n 2, 1) := by decide +kernel
theorem d_X7_see_11 : decode prog_9_method_69_code 11 = .ok (.i2l, 1) := by decide +kernel
theorem d_X7_see_12 : decode prog_9_method_69_code 12 = .ok (.lconst 0, 1) := by decide +kernel
theorem d_X7_see_13 : decode prog_9_method_69_code 13 = .ok (.ldc2_w 231, 3) := by decide +kernel
theorem d_X7_see_16 : decode prog_9_method_69_code 16 = .ok (.invokestatic 76, 3) := by decide +kernel
theorem d_X7_see_19 : decode prog_9_method_69_code 19 = .ok (.ifCond .eq 15, 3) := by decide +kernel
theorem d_X7_see_22 : decode prog_9_method_69_code 22 = .ok (.iload_n 3, 1) := by decide +kernel
theorem d_X7_see_23 : decode prog_9_method_69_code 23 = .ok (.i2l, 1) := by decide +kernel
theorem d_X7_see_24 : decode prog_9_method_69_code 24 = .ok (.lconst 0, 1) := by decide +kernel
theorem d_X7_see_25 : decode prog_9_method_69_code 25 = .ok (.ldc2_w 274, 3) := by decide +kernel
theorem d_X7_see_28 : decode prog_9_method_69_code 28 = .ok (.invokestatic 76, 3) := by decide +kernel
theorem d_X7_see_31 : decode prog_9_method_69_code 31 = .ok (.ifCond .ne 6, 3) := by decide +kernel
theorem d_X7_see_34 : decode prog_9_method_69_code 34 = .ok (.bipush (-2), 2) := by decide +kernel
theorem d_X7_see_36 : decode prog_9_method_69_code 36 = .ok (.ireturn, 1) := by decide +kernel
theorem d_X7_see_37 : decode prog_9_method_69_code 37 = .ok (.aload_n 0, 1) := by decide +kernel
theorem d_X7_see_38 : decode prog_9_method_69_code 38 = .ok (.getfield 209, 3) := by decide +kernel
theorem d_X7_see_41 : decode prog_9_method_69_code 41 = .ok (.bipush 6, 2) := by decide +kernel
theorem d_X7_see_43 : decode prog_9_method_69_code 43 = .ok (.if_icmp .ne 6, 3) := by decide +kernel
theorem d_X7_see_46 : decode prog_9_method_69_code 46 = .ok (.bipush (-4), 2) := by decide +kernel
theorem d_X7_see_48 : decode prog_9_method_69_code 48 = .ok (.ireturn, 1) := by decide +kernel
theorem d_X7_see_49 : decode prog_9_method_69_code 49 = .ok (.aload_n 0, 1) := by decide +kernel
theorem d_X7_see_50 : decode prog_9_method_69_code 50 = .ok (.getfield 35, 3) := by decide +kernel
theorem d_X7_see_53 : decode prog_9_method_69_code 53 = .ok (.aload_n 0, 1) := by decide +kernel
theorem d_X7_see_54 : decode prog_9_method_69_code 54 = .ok (.getfield 209, 3) := by decide +kernel
theorem d_X7_see_57 : decode prog_9_method_69_code 57 = .ok (.iload_n 1, 1) := by decide +kernel
theorem d_X7_see_58 : decode prog_9_method_69_code 58 = .ok (.iastore, 1) := by decide +kernel
theorem d_X7_see_59 : decode prog_9_method_69_code 59 = .ok (.aload_n 0, 1) := by decide +kernel
theorem d_X7_see_60 : decode prog_9_method_69_code 60 = .ok (.getfield 38, 3) := by decide +kernel
theorem d_X7_see_63 : decode prog_9_method_69_code 63 = .ok (.aload_n 0, 1) := by decide +kernel
theorem d_X7_see_64 : decode prog_9_method_69_code 64 = .ok (.getfield 209, 3) := by decide +kernel
theorem d_X7_see_67 : decode prog_9_method_69_code 67 = .ok (.iload_n 2, 1) := by decide +kernel
theorem d_X7_see_68 : decode prog_9_method_69_code 68 = .ok (.iastore, 1) := by decide +kernel
theorem d_X7_see_69 : decode prog_9_method_69_code 69 = .ok (.aload_n 0, 1) := by decide +kernel
theorem d_X7_see_70 : decode prog_9_method_69_code 70 = .ok (.getfield 41, 3) := by decide +kernel
theorem d_X7_see_73 : decode prog_9_method_69_code 73 = .ok (.aload_n 0, 1) := by decide +kernel
theorem d_X7_see_74 : decode prog_9_method_69_code 74 = .ok (.getfield 209, 3) := by decide +kernel
theorem d_X7_see_77 : decode prog_9_method_69_code 77 = .ok (.iload_n 3, 1) := by decide +kernel
theorem d_X7_see_78 : decode prog_9_method_69_code 78 = .ok (.iastore, 1) := by decide +kernel
theorem d_X7_see_79 : decode prog_9_method_69_code 79 = .ok (.aload_n 0, 1) := by decide +kernel
theorem d_X7_see_80 : decode prog_9_method_69_code 80 = .ok (.dup, 1) := by decide +kernel
theorem d_X7_see_81 : decode prog_9_method_69_code 81 = .ok (.getfield 209, 3) := by decide +kernel
theorem d_X7_see_84 : decode prog_9_method_69_code 84 = .ok (.iconst 1, 1) := by decide +kernel
theorem d_X7_see_85 : decode prog_9_method_69_code 85 = .ok (.iadd, 1) := by decide +kernel
theorem d_X7_see_86 : decode prog_9_method_69_code 86 = .ok (.putfield 209, 3) := by decide +kernel
theorem d_X7_see_89 : decode prog_9_method_69_code 89 = .ok (.aload_n 0, 1) := by decide +kernel
theorem d_X7_see_90 : decode prog_9_method_69_code 90 = .ok (.getfield 209, 3) := by decide +kernel
theorem d_X7_see_93 : decode prog_9_method_69_code 93 = .ok (.ireturn, 1) := by decide +kernel
abbrev M_Model_see : zMT := (⟨"PeriodSlotsModel", "see", "(III)I"⟩, prog_9_method_69_code, 4, (some .int))
theorem k_Model_see : zcall M_Model_see 3 := ⟨zU_in (i := 1099) (by decide +kernel) rfl, m62, ⟨by decide, by decide, by decide +kernel⟩, by decide⟩
def o_Model_see (h : zHp) (s : Int32) (tick : Int32) (was : Int32) : Int32 × zHp :=
  (if (o_Model_isStation h s) = true then (if (o_Model_in (Int32.toInt64 tick) 0 7) = true then (if (o_Model_in (Int32.toInt64 was) 0 2) = true then (if (h 51 4) = 6 then ((-4), h) else (((h 51 4) + 1), (zup (zup (zup (zup h 60 (zcn (h 51 4)) s) 61 (zcn (h 51 4)) tick) 62 (zcn (h 51 4)) was) 51 4 ((h 51 4) + 1)))) else ((-2), h)) else ((-2), h)) else ((-1), h))
theorem fr_Model_see {h : zHp} {s : Int32} {tick : Int32} {was : Int32} (c k : Nat) (q0 : ¬ (c = 51 ∧ k = 4)) (q1 : c ≠ 60) (q2 : c ≠ 61) (q3 : c ≠ 62) : (o_Model_see h s tick was).2 c k = h c k := by
  unfold o_Model_see
  by_cases f1 : (o_Model_isStation h s) = true
  · rw [if_pos f1]
    by_cases f2 : (o_Model_in (Int32.toInt64 tick) 0 7) = true
    · rw [if_pos f2]
      by_cases f3 : (o_Model_in (Int32.toInt64 was) 0 2) = true
      · rw [if_pos f3]
        by_cases f4 : (h 51 4) = 6
        · rw [if_pos f4]
          try dsimp only
          first | done | exact rfl
        · rw [if_neg f4]
          try dsimp only
          first | done | exact ((zup_fr (by omega)).trans ((zup_fr (Or.inl (by assumption))).trans ((zup_fr (Or.inl (by assumption))).trans (zup_fr (Or.inl (by assumption))))))
      · rw [if_neg f3]
        try dsimp only
        first | done | exact rfl
    · rw [if_neg f2]
      try dsimp only
      first | done | exact rfl
  · rw [if_neg f1]
    try dsimp only
    first | done | exact rfl
set_option maxHeartbeats 400000 in
set_option maxRecDepth 20000 in
theorem c_Model_see (X : zXT) (h : zHp) (g : zLg) (s : Int32) (tick : Int32) (was : Int32) (hf0 : zfit h 51 1 8) (hf1 : zfit h 51 4 6) : zDi X M_Model_see 2 [zR X 51, .int s, .int tick, .int was] h g (zI ((o_Model_see h s tick was).1)) ((o_Model_see h s tick was).2) g := by
  have hf0_1 := hf0.1
  have hf1_1 := hf1.1
  refine zDi_of "PeriodSlotsModel" prog_9_method_69_code 4 (some .int) rfl (by decide) [zO X 51, zI s, zI tick, zI was] rfl (fun _ q => q) (Nat.le_of_ble_eq_true rfl) ?_
  intro Γ Q C hQ
  refine zr_aload_n C d_X7_see_0 rfl ?_
  refine zr_iload_n C d_X7_see_1 rfl ?_
  refine zr_callVi (As := [.int s]) (st := []) (c := 51) C (c_Model_isStation X h g s) k_Model_isStation m980 m982 m40 (by decide) (zC_Model X _ _) rfl rfl (by decide) rfl (Nat.le_of_ble_eq_true rfl) d_X7_see_2 ?_
  refine zr_ifz_ne C 10 d_X7_see_5 (by decide) (fun c5 => ?_) (fun c5 => ?_)
  · have ex1 := zist hf0 c5
    have ex1_2 := ex1.2
    have ex1_b := (hf0).1
    refine zr_iload_n C d_X7_see_10 rfl ?_
    refine zr_i2l C d_X7_see_11 ?_
    refine zr_lconst C (v := 0) d_X7_see_12 (by decide) ?_
    refine zr_ldc2 C (v := 7) m1018 d_X7_see_13 ?_
    refine zr_callSi (As := [.long (Int32.toInt64 tick), .long 0, .long 7]) (st := []) C (c_Model_in X h g (Int32.toInt64 tick) 0 7) k_Model_in m856 m857 rfl (by decide) rfl (Nat.le_of_ble_eq_true rfl) d_X7_see_16 ?_
    refine zr_ifz_eq C 34 d_X7_see_19 (by decide) (fun c19 => ?_) (fun c19 => ?_)
    · refine zr_bipush C (v := (-2)) d_X7_see_34 (by decide) ?_
      have eR : o_Model_see h s tick was = ((-2), h) := (by unfold o_Model_see; rw [if_pos c5, if_neg (zbf c19)])
      subst hQ
      exact zTQ_Ih eR (zr_ireti C d_X7_see_36)
    · have ex2 := zin (N := 7) c19 (by decide) (by decide)
      have ex2_2 := ex2.2
      refine zr_iload_n C d_X7_see_22 rfl ?_
      refine zr_i2l C d_X7_see_23 ?_
      refine zr_lconst C (v := 0) d_X7_see_24 (by decide) ?_
      refine zr_ldc2 C (v := 2) m1100 d_X7_see_25 ?_
      refine zr_callSi (As := [.long (Int32.toInt64 was), .long 0, .long 2]) (st := []) C (c_Model_in X h g (Int32.toInt64 was) 0 2) k_Model_in m856 m857 rfl (by decide) rfl (Nat.le_of_ble_eq_true rfl) d_X7_see_28 ?_
      refine zr_ifz_ne C 37 d_X7_see_31 (by decide) (fun c31 => ?_) (fun c31 => ?_)
      · have ex3 := zin (N := 2) c31 (by decide) (by decide)
        have ex3_2 := ex3.2
        refine zr_aload_n C d_X7_see_37 rfl ?_
        refine gf_Model_15 C m768 d_X7_see_38 ?_
        refine zr_bipush C (v := 6) d_X7_see_41 (by decide) ?_
        refine zr_icmp_ne C 49 d_X7_see_43 (by decide) (fun c43 => ?_) (fun c43 => ?_)
        · have en4 := zn_ne (a := zcn (h 51 4)) (b := 6) hf1.2 rfl c43 (zcn_small _) (by decide)
          refine zr_aload_n C d_X7_see_49 rfl ?_
          refine gf_Model_12 C m765 d_X7_see_50 ?_
          refine zr_aload_n C d_X7_see_53 rfl ?_
          refine gf_Model_15 C m768 d_X7_see_54 ?_
          refine zr_iload_n C d_X7_see_57 rfl ?_
          refine zr_iast C za_60 (zcn (h 51 4)) hf1.2 (by omega) (by decide) d_X7_see_58 ?_
          refine zr_h (fun h5 eh5 => ?_)
          refine zr_aload_n C d_X7_see_59 rfl ?_
          refine gf_Model_13 C m766 d_X7_see_60 ?_
          refine zr_aload_n C d_X7_see_63 rfl ?_
          refine gf_Model_15 C m768 d_X7_see_64 ?_
          refine zr_top ((congrFun (congrFun eh5.symm _) _).trans (zup_fr (by omega))) ?_
          refine zr_iload_n C d_X7_see_67 rfl ?_
          refine zr_iast C za_61 (zcn (h 51 4)) hf1.2 (by omega) (by decide) d_X7_see_68 ?_
          refine zr_h (fun h6 eh6 => ?_)
          refine zr_aload_n C d_X7_see_69 rfl ?_
          refine gf_Model_14 C m767 d_X7_see_70 ?_
          refine zr_aload_n C d_X7_see_73 rfl ?_
          refine gf_Model_15 C m768 d_X7_see_74 ?_
          refine zr_top ((congrFun (congrFun eh6.symm _) _).trans ((zup_fr (by omega)).trans ((congrFun (congrFun eh5.symm _) _).trans (zup_fr (by omega))))) ?_
          refine zr_iload_n C d_X7_see_77 rfl ?_
          refine zr_iast C za_62 (zcn (h 51 4)) hf1.2 (by omega) (by decide) d_X7_see_78 ?_
          refine zr_h (fun h7 eh7 => ?_)
          refine zr_aload_n C d_X7_see_79 rfl ?_
          refine zr_dup C d_X7_see_80 rfl ?_
          refine gf_Model_15 C m768 d_X7_see_81 ?_
          refine zr_top ((congrFun (congrFun eh7.symm _) _).trans ((zup_fr (by omega)).trans ((congrFun (congrFun eh6.symm _) _).trans ((zup_fr (by omega)).trans ((congrFun (congrFun eh5.symm _) _).trans (zup_fr (by omega))))))) ?_
          refine zr_iconst C (v := 1) d_X7_see_84 (by decide) ?_
          refine zr_iadd C d_X7_see_85 ?_
          refine pf_Model_15 C m768 d_X7_see_86 ?_
          refine zr_h (fun h8 eh8 => ?_)
          refine zr_aload_n C d_X7_see_89 rfl ?_
          refine gf_Model_15 C m768 d_X7_see_90 ?_
          refine zr_top ((congrFun (congrFun eh8.symm _) _).trans zup_at) ?_
          have eR : o_Model_see h s tick was = (((h 51 4) + 1), h8) := (by subst eh8 eh7 eh6 eh5; unfold o_Model_see; rw [if_pos c5, if_pos c19, if_pos c31, if_neg c43])
          subst hQ
          exact zTQ_Ih eR (zr_ireti C d_X7_see_93)
        · have en9 := zn_nne (a := zcn (h 51 4)) (b := 6) hf1.2 rfl c43 (zcn_small _) (by decide)
          refine zr_bipush C (v := (-4)) d_X7_see_46 (by decide) ?_
          have eR : o_Model_see h s tick was = ((-4), h) := (by unfold o_Model_see; rw [if_pos c5, if_pos c19, if_pos c31, if_pos c43])
          subst hQ
          exact zTQ_Ih eR (zr_ireti C d_X7_see_48)
      · refine zr_bipush C (v := (-2)) d_X7_see_34 (by decide) ?_
        have eR : o_Model_see h s tick was = ((-2), h) := (by unfold o_Model_see; rw [if_pos c5, if_pos c19, if_neg (zbf c31)])
        subst hQ
        exact zTQ_Ih eR (zr_ireti C d_X7_see_36)
  · refine zr_iconst C (v := (-1)) d_X7_see_8 (by decide) ?_
    have eR : o_Model_see h s tick was = ((-1), h) := (by unfold o_Model_see; rw [if_neg (zbf c5)])
    subst hQ
    exact zTQ_Ih eR (zr_ireti C d_X7_see_9)
theorem d_X7_unsee_0 : decode prog_9_method_70_code 0 = .ok (.aload_n 0, 1) := by decide +kernel
theorem d_X7_unsee_1 : decode prog_9_method_70_code 1 = .ok (.getfield 209, 3) := by decide +kernel
theorem d_X7_unsee_4 : decode prog_9_method_70_code 4 = .ok (.istore_n 1, 1) := by decide +kernel
theorem d_X7_unsee_5 : decode prog_9_method_70_code 5 = .ok (.aload_n 0, 1) := by decide +kernel
theorem d_X7_unsee_6 : decode prog_9_method_70_code 6 = .ok (.iconst 0, 1) := by decide +kernel
theorem d_X7_unsee_7 : decode prog_9_method_70_code 7 = .ok (.putfield 209, 3) := by decide +kernel
theorem d_X7_unsee_10 : decode prog_9_method_70_code 10 = .ok (.iload_n 1, 1) := by decide +kernel
theorem d_X7_unsee_11 : decode prog_9_method_70_code 11 = .ok (.ireturn, 1) := by decide +kernel
abbrev M_Model_unsee : zMT := (⟨"PeriodSlotsModel", "unsee", "()I"⟩, prog_9_method_70_code, 2, (some .int))
theorem k_Model_unsee : zcall M_Model_unsee 0 := ⟨zU_in (i := 1104) (by decide +kernel) rfl, m62, ⟨by decide, by decide, by decide +kernel⟩, by decide⟩
def o_Model_unsee (h : zHp) : Int32 × zHp :=
  ((h 51 4), (zup h 51 4 0))
theorem fr_Model_unsee {h : zHp} (c k : Nat) (q0 : ¬ (c = 51 ∧ k = 4)) : (o_Model_unsee h).2 c k = h c k := by
  unfold o_Model_unsee
  try dsimp only
  first | done | exact (zup_fr (by omega))
set_option maxHeartbeats 400000 in
set_option maxRecDepth 20000 in
theorem c_Model_unsee (X : zXT) (h : zHp) (g : zLg)  : zDi X M_Model_unsee 0 [zR X 51] h g (zI ((o_Model_unsee h).1)) ((o_Model_unsee h).2) g := by
  refine zDi_of "PeriodSlotsModel" prog_9_method_70_code 2 (some .int) rfl (by decide) [zO X 51, none] rfl (fun _ q => q) (Nat.le_of_ble_eq_true rfl) ?_
  intro Γ Q C hQ
  refine zr_aload_n C d_X7_unsee_0 rfl ?_
  refine gf_Model_15 C m768 d_X7_unsee_1 ?_
  refine zr_istore_n C [zO X 51, zI (h 51 4)] d_X7_unsee_4 (Nat.le_of_ble_eq_true rfl) rfl rfl ?_
  refine zr_aload_n C d_X7_unsee_5 rfl ?_
  refine zr_iconst C (v := 0) d_X7_unsee_6 (by decide) ?_
  refine pf_Model_15 C m768 d_X7_unsee_7 ?_
  refine zr_h (fun h1 eh1 => ?_)
  refine zr_iload_n C d_X7_unsee_10 rfl ?_
  have eR : o_Model_unsee h = ((h 51 4), h1) := (by subst eh1; unfold o_Model_unsee; exact rfl)
  subst hQ
  exact zTQ_Ih eR (zr_ireti C d_X7_unsee_11)
theorem d_X7_which_0 : decode prog_9_method_71_code 0 = .ok (.aload_n 0, 1) := by decide +kernel
theorem d_X7_which_1 : decode prog_9_method_71_code 1 = .ok (.iload_n 1, 1) := by decide +kernel
theorem d_X7_which_2 : decode prog_9_method_71_code 2 = .ok (.invokevirtual 212, 3) := by decide +kernel
theorem d_X7_which_5 : decode prog_9_method_71_code 5 = .ok (.ifCond .ne 5, 3) := by decide +kernel
theorem d_X7_which_8 : decode prog_9_method_71_code 8 = .ok (.iconst (-1), 1) := by decide +kernel
theorem d_X7_which_9 : decode prog_9_method_71_code 9 = .ok (.ireturn, 1) := by decide +kernel
theorem d_X7_which_10 : decode prog_9_method_71_code 10 = .ok (.aload_n 0, 1) := by decide +kernel
theorem d_X7_which_11 : decode prog_9_method_71_code 11 = .ok (.getfield 16, 3) := by decide +kernel
theorem d_X7_which_14 : decode prog_9_method_71_code 14 = .ok (.aload_n 0, 1) := by decide +kernel
theorem d_X7_which_15 : decode prog_9_method_71_code 15 = .ok (.getfield 22, 3) := by decide +kernel
theorem d_X7_which_18 : decode prog_9_method_71_code 18 = .ok (.invokestatic 236, 3) := by decide +kernel
theorem d_X7_which_21 : decode prog_9_method_71_code 21 = .ok (.iconst 0, 1) := by decide +kernel
theorem d_X7_which_22 : decode prog_9_method_71_code 22 = .ok (.istore_n 2, 1) := by decide +kernel
theorem d_X7_which_23 : decode prog_9_method_71_code 23 = .ok (.iconst 0, 1) := by decide +kernel
theorem d_X7_which_24 : decode prog_9_method_71_code 24 = .ok (.istore_n 3, 1) := by decide +kernel
theorem d_X7_which_25 : decode prog_9_method_71_code 25 = .ok (.iload_n 3, 1) := by decide +kernel
theorem d_X7_which_26 : decode prog_9_method_71_code 26 = .ok (.aload_n 0, 1) := by decide +kernel
theorem d_X7_which_27 : decode prog_9_method_71_code 27 = .ok (.getfield 13, 3) := by decide +kernel
theorem d_X7_which_30 : decode prog_9_method_71_code 30 = .ok (.iload_n 1, 1) := by decide +kernel
theorem d_X7_which_31 : decode prog_9_method_71_code 31 = .ok (.iaload, 1) := by decide +kernel
theorem d_X7_which_32 : decode prog_9_method_71_code 32 = .ok (.if_icmp .ge 134, 3) := by decide +kernel
theorem d_X7_which_35 : decode prog_9_method_71_code 35 = .ok (.aload_n 0, 1) := by decide +kernel
theorem d_X7_which_36 : decode prog_9_method_71_code 36 = .ok (.getfield 22, 3) := by decide +kernel
theorem d_X7_which_39 : decode prog_9_method_71_code 39 = .ok (.iload_n 1, 1) := by decide +kernel
theorem d_X7_which_40 : decode prog_9_method_71_code 40 = .ok (.iload_n 3, 1) := by decide +kernel
theorem d_X7_which_41 : decode prog_9_method_71_code 41 = .ok (.iastore, 1) := by decide +kernel
theorem d_X7_which_42 : decode prog_9_method_71_code 42 = .ok (.iconst 1, 1) := by decide +kernel
theorem d_X7_which_43 : decode prog_9_method_71_code 43 = .ok (.istore 4, 2) := by decide +kernel
theorem d_X7_which_45 : decode prog_9_method_71_code 45 = .ok (.iconst 0, 1) := by decide +kernel
theorem d_X7_which_46 : decode prog_9_method_71_code 46 = .ok (.istore 5, 2) := by decide +kernel
theorem d_X7_which_48 : decode prog_9_method_71_code 48 = .ok (.iload 5, 2) := by decide +kernel
theorem d_X7_which_50 : decode prog_9_method_71_code 50 = .ok (.aload_n 0, 1) := by decide +kernel
theorem d_X7_which_51 : decode prog_9_method_71_code 51 = .ok (.getfield 209, 3) := by decide +kernel
theorem d_X7_which_54 : decode prog_9_method_71_code 54 = .ok (.if_icmp .ge 91, 3) := by decide +kernel
theorem d_X7_which_57 : decode prog_9_method_71_code 57 = .ok (.aload_n 0, 1) := by decide +kernel
theorem d_X7_which_58 : decode prog_9_method_71_code 58 = .ok (.aload_n 0, 1) := by decide +kernel
theorem d_X7_which_59 : decode prog_9_method_71_code 59 = .ok (.getfield 35, 3) := by decide +kernel
theorem d_X7_which_62 : decode prog_9_method_71_code 62 = .ok (.iload 5, 2) := by decide +kernel
theorem d_X7_which_64 : decode prog_9_method_71_code 64 = .ok (.iaload, 1) := by decide +kernel
theorem d_X7_which_65 : decode prog_9_method_71_code 65 = .ok (.invokevirtual 212, 3) := by decide +kernel
theorem d_X7_which_68 : decode prog_9_method_71_code 68 = .ok (.ifCond .eq 28, 3) := by decide +kernel
theorem d_X7_which_71 : decode prog_9_method_71_code 71 = .ok (.aload_n 0, 1) := by decide +kernel
theorem d_X7_which_72 : decode prog_9_method_71_code 72 = .ok (.aload_n 0, 1) := by decide +kernel
theorem d_X7_which_73 : decode prog_9_method_71_code 73 = .ok (.getfield 22, 3) := by decide +kernel
theorem d_X7_which_76 : decode prog_9_method_71_code 76 = .ok (.aload_n 0, 1) := by decide +kernel
theorem d_X7_which_77 : decode prog_9_method_71_code 77 = .ok (.getfield 35, 3) := by decide +kernel
theorem d_X7_which_80 : decode prog_9_method_71_code 80 = .ok (.iload 5, 2) := by decide +kernel
theorem d_X7_which_82 : decode prog_9_method_71_code 82 = .ok (.iaload, 1) := by decide +kernel
theorem d_X7_which_83 : decode prog_9_method_71_code 83 = .ok (.aload_n 0, 1) := by decide +kernel
theorem d_X7_which_84 : decode prog_9_method_71_code 84 = .ok (.getfield 38, 3) := by decide +kernel
theorem d_X7_which_87 : decode prog_9_method_71_code 87 = .ok (.iload 5, 2) := by decide +kernel
theorem d_X7_which_89 : decode prog_9_method_71_code 89 = .ok (.iaload, 1) := by decide +kernel
theorem d_X7_which_90 : decode prog_9_method_71_code 90 = .ok (.invokevirtual 252, 3) := by decide +kernel
theorem d_X7_which_93 : decode prog_9_method_71_code 93 = .ok (.goto 10, 3) := by decide +kernel
theorem d_X7_which_96 : decode prog_9_method_71_code 96 = .ok (.aload_n 0, 1) := by decide +kernel
theorem d_X7_which_97 : decode prog_9_method_71_code 97 = .ok (.getfield 41, 3) := by decide +kernel
theorem d_X7_which_100 : decode prog_9_method_71_code 100 = .ok (.iload 5, 2) := by decide +kernel
theorem d_X7_which_102 : decode prog_9_method_71_code 102 = .ok (.iaload, 1) := by decide +kernel
theorem d_X7_which_103 : decode prog_9_method_71_code 103 = .ok (.istore 6, 2) := by decide +kernel
theorem d_X7_which_105 : decode prog_9_method_71_code 105 = .ok (.iload 4, 2) := by decide +kernel
theorem d_X7_which_107 : decode prog_9_method_71_code 107 = .ok (.ifCond .eq 29, 3) := by decide +kernel
theorem d_X7_which_110 : decode prog_9_method_71_code 110 = .ok (.iload 6, 2) := by decide +kernel
theorem d_X7_which_112 : decode prog_9_method_71_code 112 = .ok (.iconst 2, 1) := by decide +kernel
theorem d_X7_which_113 : decode prog_9_method_71_code 113 = .ok (.if_icmp .le 7, 3) := by decide +kernel
theorem d_X7_which_116 : decode prog_9_method_71_code 116 = .ok (.iconst 2, 1) := by decide +kernel
theorem d_X7_which_117 : decode prog_9_method_71_code 117 = .ok (.goto 5, 3) := by decide +kernel
theorem d_X7_which_120 : decode prog_9_method_71_code 120 = .ok (.iload 6, 2) := by decide +kernel
theorem d_X7_which_122 : decode prog_9_method_71_code 122 = .ok (.aload_n 0, 1) := by decide +kernel
theorem d_X7_which_123 : decode prog_9_method_71_code 123 = .ok (.getfield 41, 3) := by decide +kernel
theorem d_X7_which_126 : decode prog_9_method_71_code 126 = .ok (.iload 5, 2) := by decide +kernel
theorem d_X7_which_128 : decode prog_9_method_71_code 128 = .ok (.iaload, 1) := by decide +kernel
theorem d_X7_which_129 : decode prog_9_method_71_code 129 = .ok (.if_icmp .ne 7, 3) := by decide +kernel
theorem d_X7_which_132 : decode prog_9_method_71_code 132 = .ok (.iconst 1, 1) := by decide +kernel
theorem d_X7_which_133 : decode prog_9_method_71_code 133 = .ok (.goto 4, 3) := by decide +kernel
theorem d_X7_which_136 : decode prog_9_method_71_code 136 = .ok (.iconst 0, 1) := by decide +kernel
theorem d_X7_which_137 : decode prog_9_method_71_code 137 = .ok (.istore 4, 2) := by decide +kernel
theorem d_X7_which_139 : decode prog_9_method_71_code 139 = .ok (.iinc 5 1, 3) := by decide +kernel
theorem d_X7_which_142 : decode prog_9_method_71_code 142 = .ok (.goto (-94), 3) := by decide +kernel
theorem d_X7_which_145 : decode prog_9_method_71_code 145 = .ok (.iload_n 2, 1) := by decide +kernel
theorem d_X7_which_146 : decode prog_9_method_71_code 146 = .ok (.iload 4, 2) := by decide +kernel
theorem d_X7_which_148 : decode prog_9_method_71_code 148 = .ok (.ifCond .eq 9, 3) := by decide +kernel
theorem d_X7_which_151 : decode prog_9_method_71_code 151 = .ok (.iconst 1, 1) := by decide +kernel
theorem d_X7_which_152 : decode prog_9_method_71_code 152 = .ok (.iload_n 3, 1) := by decide +kernel
theorem d_X7_which_153 : decode prog_9_method_71_code 153 = .ok (.ishl, 1) := by decide +kernel
theorem d_X7_which_154 : decode prog_9_method_71_code 154 = .ok (.goto 4, 3) := by decide +kernel
theorem d_X7_which_157 : decode prog_9_method_71_code 157 = .ok (.iconst 0, 1) := by decide +kernel
theorem d_X7_which_158 : decode prog_9_method_71_code 158 = .ok (.ior, 1) := by decide +kernel
theorem d_X7_which_159 : decode prog_9_method_71_code 159 = .ok (.istore_n 2, 1) := by decide +kernel
theorem d_X7_which_160 : decode prog_9_method_71_code 160 = .ok (.iinc 3 1, 3) := by decide +kernel
theorem d_X7_which_163 : decode prog_9_method_71_code 163 = .ok (.goto (-138), 3) := by decide +kernel
theorem d_X7_which_166 : decode prog_9_method_71_code 166 = .ok (.iload_n 2, 1) := by decide +kernel
theorem d_X7_which_167 : decode prog_9_method_71_code 167 = .ok (.ireturn, 1) := by decide +kernel
abbrev M_Model_which : zMT := (⟨"PeriodSlotsModel", "which", "(I)I"⟩, prog_9_method_71_code, 7, (some .int))
theorem k_Model_which : zcall M_Model_which 1 := ⟨zU_in (i := 1108) (by decide +kernel) rfl, m62, ⟨by decide, by decide, by decide +kernel⟩, by decide⟩
def o_Model_which (h : zHp) (s : Int32) : Int32 × zHp :=
  (if (o_Model_isStation h s) = true then ((zrep (fun (i25_3 : Nat) (s25_3 : Int32 × zHp) => ((s25_3.1 ||| (if (zrep (fun (i48_10 : Nat) (s48_10 : Bool) => (s48_10 && (decide ((if (if (o_Model_isStation h (h 60 i48_10)) = true then (o_Model_senders (zup s25_3.2 56 (zcn s) (nI i25_3)) 56 (zcn (h 60 i48_10)) (h 61 i48_10)) else (h 62 i48_10)) ≤ 2 then (if (o_Model_isStation h (h 60 i48_10)) = true then (o_Model_senders (zup s25_3.2 56 (zcn s) (nI i25_3)) 56 (zcn (h 60 i48_10)) (h 61 i48_10)) else (h 62 i48_10)) else 2) = (h 62 i48_10))))) true (zcn (h 51 4))) = true then (zshl 1 (nI i25_3)) else 0)), (zup s25_3.2 56 (zcn s) (nI i25_3)))) (0, (o_Model_copy h 54 56)) (zcn (h 53 (zcn s)))).1, (zrep (fun (i25_3 : Nat) (s25_3 : Int32 × zHp) => ((s25_3.1 ||| (if (zrep (fun (i48_10 : Nat) (s48_10 : Bool) => (s48_10 && (decide ((if (if (o_Model_isStation h (h 60 i48_10)) = true then (o_Model_senders (zup s25_3.2 56 (zcn s) (nI i25_3)) 56 (zcn (h 60 i48_10)) (h 61 i48_10)) else (h 62 i48_10)) ≤ 2 then (if (o_Model_isStation h (h 60 i48_10)) = true then (o_Model_senders (zup s25_3.2 56 (zcn s) (nI i25_3)) 56 (zcn (h 60 i48_10)) (h 61 i48_10)) else (h 62 i48_10)) else 2) = (h 62 i48_10))))) true (zcn (h 51 4))) = true then (zshl 1 (nI i25_3)) else 0)), (zup s25_3.2 56 (zcn s) (nI i25_3)))) (0, (o_Model_copy h 54 56)) (zcn (h 53 (zcn s)))).2) else ((-1), h))
theorem fr_Model_which {h : zHp} {s : Int32} (c k : Nat) (q0 : c ≠ 56) : (o_Model_which h s).2 c k = h c k := by
  unfold o_Model_which
  by_cases f1 : (o_Model_isStation h s) = true
  · rw [if_pos f1]
    have hI25_3 := zrep_inv (f := (fun (i25_3 : Nat) (s25_3 : Int32 × zHp) => ((s25_3.1 ||| (if (zrep (fun (i48_10 : Nat) (s48_10 : Bool) => (s48_10 && (decide ((if (if (o_Model_isStation h (h 60 i48_10)) = true then (o_Model_senders (zup s25_3.2 56 (zcn s) (nI i25_3)) 56 (zcn (h 60 i48_10)) (h 61 i48_10)) else (h 62 i48_10)) ≤ 2 then (if (o_Model_isStation h (h 60 i48_10)) = true then (o_Model_senders (zup s25_3.2 56 (zcn s) (nI i25_3)) 56 (zcn (h 60 i48_10)) (h 61 i48_10)) else (h 62 i48_10)) else 2) = (h 62 i48_10))))) true (zcn (h 51 4))) = true then (zshl 1 (nI i25_3)) else 0)), (zup s25_3.2 56 (zcn s) (nI i25_3))))) (a := (0, (o_Model_copy h 54 56))) (fun _ s25_3 => ∀ c k : Nat, c ≠ 56 → s25_3.2 c k = (o_Model_copy h 54 56) c k) (zcn (h 53 (zcn s))) (fun _ _ _ => (by dsimp only)) (fun i25_3 s25_3 hi25_3 hI25_3 => (fun c k q0 => (by (try dsimp only); exact ((zup_fr (Or.inl (by assumption))).trans (hI25_3 _ _ (by assumption))))))
    try dsimp only
    first | done | exact ((hI25_3 _ _ (by assumption)).trans (fr_Model_copy _ _ (by assumption)))
  · rw [if_neg f1]
    try dsimp only
    first | done | exact rfl
set_option maxHeartbeats 400000 in
set_option maxRecDepth 20000 in
theorem c_Model_which (X : zXT) (h : zHp) (g : zLg) (s : Int32) (hf0 : zfit h 51 1 8) (hper : zper h) (hf2 : zfit h 51 4 6) : zDi X M_Model_which 3 [zR X 51, .int s] h g (zI ((o_Model_which h s).1)) ((o_Model_which h s).2) g := by
  have hf0_1 := hf0.1
  have hf2_1 := hf2.1
  refine zDi_of "PeriodSlotsModel" prog_9_method_71_code 7 (some .int) rfl (by decide) [zO X 51, zI s, none, none, none, none, none] rfl (fun _ q => q) (Nat.le_of_ble_eq_true rfl) ?_
  intro Γ Q C hQ
  refine zr_aload_n C d_X7_which_0 rfl ?_
  refine zr_iload_n C d_X7_which_1 rfl ?_
  refine zr_callVi (As := [.int s]) (st := []) (c := 51) C (c_Model_isStation X h g s) k_Model_isStation m980 m982 m40 (by decide) (zC_Model X _ _) rfl rfl (by decide) rfl (Nat.le_of_ble_eq_true rfl) d_X7_which_2 ?_
  refine zr_ifz_ne C 10 d_X7_which_5 (by decide) (fun c5 => ?_) (fun c5 => ?_)
  · have ex1 := zist hf0 c5
    have ex1_2 := ex1.2
    have ex1_b := (hf0).1
    refine zr_aload_n C d_X7_which_10 rfl ?_
    refine gf_Model_4 C m757 d_X7_which_11 ?_
    refine zr_aload_n C d_X7_which_14 rfl ?_
    refine gf_Model_6 C m759 d_X7_which_15 ?_
    refine zr_callSv (As := [zR X 54, zR X 56]) (st := []) C (c_Model_copy X h g 54 56 (by decide) (by decide)) k_Model_copy m1027 m1028 rfl (by decide) rfl (Nat.le_of_ble_eq_true rfl) d_X7_which_18 ?_
    refine zr_h (fun h2 eh2 => ?_)
    refine zr_iconst C (v := 0) d_X7_which_21 (by decide) ?_
    refine zr_istore_n C [zO X 51, zI s, zI 0, none, none, none, none] d_X7_which_22 (Nat.le_of_ble_eq_true rfl) rfl rfl ?_
    refine zr_iconst C (v := 0) d_X7_which_23 (by decide) ?_
    refine zr_istore_n C [zO X 51, zI s, zI 0, zI 0, none, none, none] d_X7_which_24 (Nat.le_of_ble_eq_true rfl) rfl rfl ?_
    refine zfor (f := (fun (i25_3 : Nat) (s25_3 : Int32 × zHp) => ((s25_3.1 ||| (if (zrep (fun (i48_10 : Nat) (s48_10 : Bool) => (s48_10 && (decide ((if (if (o_Model_isStation h (h 60 i48_10)) = true then (o_Model_senders (zup s25_3.2 56 (zcn s) (nI i25_3)) 56 (zcn (h 60 i48_10)) (h 61 i48_10)) else (h 62 i48_10)) ≤ 2 then (if (o_Model_isStation h (h 60 i48_10)) = true then (o_Model_senders (zup s25_3.2 56 (zcn s) (nI i25_3)) 56 (zcn (h 60 i48_10)) (h 61 i48_10)) else (h 62 i48_10)) else 2) = (h 62 i48_10))))) true (zcn (h 51 4))) = true then (zshl 1 (nI i25_3)) else 0)), (zup s25_3.2 56 (zcn s) (nI i25_3))))) (a := (0, h2)) (fun i25_3 s25_3 => zV X Γ Q 25 [zO X 51, zI s, zI s25_3.1, zI (nI i25_3), none, none, none] [] s25_3.2 g) (fun _ s25_3 => ∀ c k : Nat, c ≠ 56 → s25_3.2 c k = h2 c k) (zcn (h 53 (zcn s))) (fun _ _ _ => (by dsimp only)) (fun i25_3 s25_3 hi25_3 hI25_3 => ⟨(fun c k q0 => (by (try dsimp only); exact ((zup_fr (Or.inl (by assumption))).trans (hI25_3 _ _ (by assumption))))), fun hk25_3 => ?_⟩) (fun r25_3 er25_3 hI25_3 => ?_)
    · refine zr_iload_n C d_X7_which_25 rfl ?_
      refine zr_aload_n C d_X7_which_26 rfl ?_
      refine gf_Model_3 C m756 d_X7_which_27 ?_
      refine zr_iload_n C d_X7_which_30 rfl ?_
      refine zr_iald C za_53 (zcn s) (zix ex1.1) (by omega) (by decide) d_X7_which_31 ?_
      refine zr_top ((hI25_3 _ _ (by omega)).trans ((congrFun (congrFun eh2.symm _) _).trans (fr_Model_copy _ _ (by omega)))) ?_
      refine zr_icmp_ge C 166 d_X7_which_32 (by decide) (fun c => absurd c (zge_no rfl (by omega))) (fun _ => ?_)
      refine zr_aload_n C d_X7_which_35 rfl ?_
      refine gf_Model_6 C m759 d_X7_which_36 ?_
      refine zr_iload_n C d_X7_which_39 rfl ?_
      refine zr_iload_n C d_X7_which_40 rfl ?_
      refine zr_iast C za_56 (zcn s) (zix ex1.1) (by omega) (by decide) d_X7_which_41 ?_
      refine zr_h (fun h4 eh4 => ?_)
      refine zr_iconst C (v := 1) d_X7_which_42 (by decide) ?_
      refine zr_istore C [zO X 51, zI s, zI s25_3.1, zI (nI i25_3), zI 1, none, none] d_X7_which_43 (Nat.le_of_ble_eq_true rfl) rfl rfl ?_
      refine zr_iconst C (v := 0) d_X7_which_45 (by decide) ?_
      refine zr_istore C [zO X 51, zI s, zI s25_3.1, zI (nI i25_3), zI 1, zI 0, none] d_X7_which_46 (Nat.le_of_ble_eq_true rfl) rfl rfl ?_
      refine zfor (f := (fun (i48_10 : Nat) (s48_10 : Bool) => (s48_10 && (decide ((if (if (o_Model_isStation h (h 60 i48_10)) = true then (o_Model_senders h4 56 (zcn (h 60 i48_10)) (h 61 i48_10)) else (h 62 i48_10)) ≤ 2 then (if (o_Model_isStation h (h 60 i48_10)) = true then (o_Model_senders h4 56 (zcn (h 60 i48_10)) (h 61 i48_10)) else (h 62 i48_10)) else 2) = (h 62 i48_10)))))) (a := true) (fun i48_10 s48_10 => zV X Γ Q 48 [zO X 51, zI s, zI s25_3.1, zI (nI i25_3), zI (zb s48_10), zI (nI i48_10), none] [] h4 g) (fun _ _ => True) (zcn (h 51 4)) trivial (fun i48_10 s48_10 hi48_10 hI48_10 => ⟨trivial, fun hk48_10 => ?_⟩) (fun r48_10 er48_10 hI48_10 => ?_)
      · refine zr_iload C d_X7_which_48 rfl ?_
        refine zr_aload_n C d_X7_which_50 rfl ?_
        refine gf_Model_15 C m768 d_X7_which_51 ?_
        refine zr_top ((congrFun (congrFun eh4.symm _) _).trans ((zup_fr (by omega)).trans ((hI25_3 _ _ (by omega)).trans ((congrFun (congrFun eh2.symm _) _).trans (fr_Model_copy _ _ (by omega)))))) ?_
        refine zr_icmp_ge C 145 d_X7_which_54 (by decide) (fun c => absurd c (zge_no rfl (by omega))) (fun _ => ?_)
        refine zr_aload_n C d_X7_which_57 rfl ?_
        refine zr_aload_n C d_X7_which_58 rfl ?_
        refine gf_Model_12 C m765 d_X7_which_59 ?_
        refine zr_iload C d_X7_which_62 rfl ?_
        refine zr_iald C za_60 (i48_10) rfl (by omega) (by decide) d_X7_which_64 ?_
        refine zr_top ((congrFun (congrFun eh4.symm _) _).trans ((zup_fr (by omega)).trans ((hI25_3 _ _ (by omega)).trans ((congrFun (congrFun eh2.symm _) _).trans (fr_Model_copy _ _ (by omega)))))) ?_
        refine zr_callVi (As := [.int (h 60 i48_10)]) (st := []) (c := 51) C (c_Model_isStation X h4 g (h 60 i48_10)) k_Model_isStation m980 m982 m40 (by decide) (zC_Model X _ _) rfl rfl (by decide) rfl (Nat.le_of_ble_eq_true rfl) d_X7_which_65 ?_
        refine zr_topz (rd_Model_isStation ((congrFun (congrFun eh4.symm _) _).trans ((zup_fr (by omega)).trans ((hI25_3 _ _ (by omega)).trans ((congrFun (congrFun eh2.symm _) _).trans (fr_Model_copy _ _ (by omega))))))) ?_
        suffices hJ68 : ∀ (y12 : Int32), (if (o_Model_isStation h (h 60 i48_10)) = true then (o_Model_senders h4 56 (zcn (h 60 i48_10)) (h 61 i48_10)) else (h 62 i48_10)) = y12 → zV X Γ Q 103 [zO X 51, zI s, zI s25_3.1, zI (nI i25_3), zI (zb s48_10), zI (nI i48_10), none] [.int y12] h4 g by
          refine zr_ifz_eq C 96 d_X7_which_68 (by decide) (fun c68 => ?_) (fun c68 => ?_)
          · refine zr_aload_n C d_X7_which_96 rfl ?_
            refine gf_Model_14 C m767 d_X7_which_97 ?_
            refine zr_iload C d_X7_which_100 rfl ?_
            refine zr_iald C za_62 (i48_10) rfl (by omega) (by decide) d_X7_which_102 ?_
            refine zr_top ((congrFun (congrFun eh4.symm _) _).trans ((zup_fr (by omega)).trans ((hI25_3 _ _ (by omega)).trans ((congrFun (congrFun eh2.symm _) _).trans (fr_Model_copy _ _ (by omega)))))) ?_
            exact hJ68 (h 62 i48_10) (((if_neg (zbf c68))))
          · have ex11 := zist hf0 c68
            have ex11_2 := ex11.2
            have ex11_c : zcn (h 60 i48_10) < zcn (h4 51 1) := by rw [((congrFun (congrFun eh4.symm _) _).trans ((zup_fr (by omega)).trans ((hI25_3 _ _ (by omega)).trans ((congrFun (congrFun eh2.symm _) _).trans (fr_Model_copy _ _ (by omega))))))]; exact ex11.2
            have ex11_b := ((zfit_fr ((congrFun (congrFun eh4.symm _) _).trans ((zup_fr (by omega)).trans ((hI25_3 _ _ (by omega)).trans ((congrFun (congrFun eh2.symm _) _).trans (fr_Model_copy _ _ (by omega)))))) hf0)).1
            refine zr_aload_n C d_X7_which_71 rfl ?_
            refine zr_aload_n C d_X7_which_72 rfl ?_
            refine gf_Model_6 C m759 d_X7_which_73 ?_
            refine zr_aload_n C d_X7_which_76 rfl ?_
            refine gf_Model_12 C m765 d_X7_which_77 ?_
            refine zr_iload C d_X7_which_80 rfl ?_
            refine zr_iald C za_60 (i48_10) rfl (by omega) (by decide) d_X7_which_82 ?_
            refine zr_top ((congrFun (congrFun eh4.symm _) _).trans ((zup_fr (by omega)).trans ((hI25_3 _ _ (by omega)).trans ((congrFun (congrFun eh2.symm _) _).trans (fr_Model_copy _ _ (by omega)))))) ?_
            refine zr_aload_n C d_X7_which_83 rfl ?_
            refine gf_Model_13 C m766 d_X7_which_84 ?_
            refine zr_iload C d_X7_which_87 rfl ?_
            refine zr_iald C za_61 (i48_10) rfl (by omega) (by decide) d_X7_which_89 ?_
            refine zr_top ((congrFun (congrFun eh4.symm _) _).trans ((zup_fr (by omega)).trans ((hI25_3 _ _ (by omega)).trans ((congrFun (congrFun eh2.symm _) _).trans (fr_Model_copy _ _ (by omega)))))) ?_
            refine zr_callVi (As := [zR X 56, .int (h 60 i48_10), .int (h 61 i48_10)]) (st := []) (c := 51) C (c_Model_senders X h4 g 56 (zcn (h 60 i48_10)) (h 61 i48_10) (zix ex11.1) (by decide) (zfit_fr ((congrFun (congrFun eh4.symm _) _).trans ((zup_fr (by omega)).trans ((hI25_3 _ _ (by omega)).trans ((congrFun (congrFun eh2.symm _) _).trans (fr_Model_copy _ _ (by omega)))))) hf0) (zper_fr ((congrFun (congrFun eh4.symm _) _).trans ((zup_fr (by omega)).trans ((hI25_3 _ _ (by omega)).trans ((congrFun (congrFun eh2.symm _) _).trans (fr_Model_copy _ _ (by omega)))))) (fun v => ((congrFun (congrFun eh4.symm _) _).trans ((zup_fr (by omega)).trans ((hI25_3 _ _ (by omega)).trans ((congrFun (congrFun eh2.symm _) _).trans (fr_Model_copy _ _ (by omega))))))) hper) (by omega)) k_Model_senders m1075 m1077 m50 (by decide) (zC_Model X _ _) rfl rfl (by decide) rfl (Nat.le_of_ble_eq_true rfl) d_X7_which_90 ?_
            refine zr_goto C 103 d_X7_which_93 (by decide) ?_
            exact hJ68 (o_Model_senders h4 56 (zcn (h 60 i48_10)) (h 61 i48_10)) (((if_pos c68)))
        intro y12 ey12
        refine zr_istore C [zO X 51, zI s, zI s25_3.1, zI (nI i25_3), zI (zb s48_10), zI (nI i48_10), zI y12] d_X7_which_103 (Nat.le_of_ble_eq_true rfl) rfl rfl ?_
        refine zr_iload C d_X7_which_105 rfl ?_
        suffices hJ107 : ∀ (y14 : Bool), (s48_10 && (decide ((if y12 ≤ 2 then y12 else 2) = (h 62 i48_10)))) = y14 → zV X Γ Q 137 [zO X 51, zI s, zI s25_3.1, zI (nI i25_3), none, zI (nI i48_10), none] [.int (zb y14)] h4 g by
          refine zr_ifz_eq C 136 d_X7_which_107 (by decide) (fun c107 => ?_) (fun c107 => ?_)
          · refine zr_iconst C (v := 0) d_X7_which_136 (by decide) ?_
            refine zr_lv [zO X 51, zI s, zI s25_3.1, zI (nI i25_3), none, zI (nI i48_10), none] (by simp [zle]) ?_
            exact hJ107 false (by simp [c107])
          · refine zr_iload C d_X7_which_110 rfl ?_
            refine zr_iconst C (v := 2) d_X7_which_112 (by decide) ?_
            suffices hJ113 : ∀ (y13 : Int32), (if y12 ≤ 2 then y12 else 2) = y13 → zV X Γ Q 122 [zO X 51, zI s, zI s25_3.1, zI (nI i25_3), none, zI (nI i48_10), none] [.int y13] h4 g by
              refine zr_icmp_le C 120 d_X7_which_113 (by decide) (fun c113 => ?_) (fun c113 => ?_)
              · refine zr_iload C d_X7_which_120 rfl ?_
                refine zr_lv [zO X 51, zI s, zI s25_3.1, zI (nI i25_3), none, zI (nI i48_10), none] (by simp [zle]) ?_
                exact hJ113 y12 (((if_pos c113)))
              · refine zr_iconst C (v := 2) d_X7_which_116 (by decide) ?_
                refine zr_goto C 122 d_X7_which_117 (by decide) ?_
                refine zr_lv [zO X 51, zI s, zI s25_3.1, zI (nI i25_3), none, zI (nI i48_10), none] (by simp [zle]) ?_
                exact hJ113 2 (((if_neg c113)))
            intro y13 ey13
            refine zr_aload_n C d_X7_which_122 rfl ?_
            refine gf_Model_14 C m767 d_X7_which_123 ?_
            refine zr_iload C d_X7_which_126 rfl ?_
            refine zr_iald C za_62 (i48_10) rfl (by omega) (by decide) d_X7_which_128 ?_
            refine zr_top ((congrFun (congrFun eh4.symm _) _).trans ((zup_fr (by omega)).trans ((hI25_3 _ _ (by omega)).trans ((congrFun (congrFun eh2.symm _) _).trans (fr_Model_copy _ _ (by omega)))))) ?_
            refine zr_icmp_ne C 136 d_X7_which_129 (by decide) (fun c129 => ?_) (fun c129 => ?_)
            · refine zr_iconst C (v := 0) d_X7_which_136 (by decide) ?_
              exact hJ107 false (by subst ey13; simp [c107, c129])
            · refine zr_iconst C (v := 1) d_X7_which_132 (by decide) ?_
              refine zr_goto C 137 d_X7_which_133 (by decide) ?_
              exact hJ107 true (by subst ey13; simp [c107, c129])
        intro y14 ey14
        refine zr_istore C [zO X 51, zI s, zI s25_3.1, zI (nI i25_3), zI (zb y14), zI (nI i48_10), none] d_X7_which_137 (Nat.le_of_ble_eq_true rfl) rfl rfl ?_
        refine zr_iinc C [zO X 51, zI s, zI s25_3.1, zI (nI i25_3), zI (zb y14), zI (nI (i48_10 + 1)), none] (v := (nI (i48_10 + 1))) d_X7_which_139 rfl (zn_add rfl rfl) (Nat.le_of_ble_eq_true rfl) rfl rfl ?_
        refine zr_goto C 48 d_X7_which_142 (by decide) ?_
        exact hk48_10 y14 (by subst ey14 ey12; exact rfl)
      refine zr_iload C d_X7_which_48 rfl ?_
      refine zr_aload_n C d_X7_which_50 rfl ?_
      refine gf_Model_15 C m768 d_X7_which_51 ?_
      refine zr_top ((congrFun (congrFun eh4.symm _) _).trans ((zup_fr (by omega)).trans ((hI25_3 _ _ (by omega)).trans ((congrFun (congrFun eh2.symm _) _).trans (fr_Model_copy _ _ (by omega)))))) ?_
      refine zr_icmp_ge C 145 d_X7_which_54 (by decide) (fun _ => ?_) (fun c => absurd (zge_yes rfl (by omega) (by have := zcn_small (h 51 4); omega)) c)
      refine zr_iload_n C d_X7_which_145 rfl ?_
      refine zr_iload C d_X7_which_146 rfl ?_
      suffices hJ148 : ∀ (y15 : Int32), (if r48_10 = true then (zshl 1 (nI i25_3)) else 0) = y15 → zV X Γ Q 158 [zO X 51, zI s, none, zI (nI i25_3), none, none, none] [.int y15, .int s25_3.1] h4 g by
        refine zr_ifz_eq C 157 d_X7_which_148 (by decide) (fun c148 => ?_) (fun c148 => ?_)
        · refine zr_iconst C (v := 0) d_X7_which_157 (by decide) ?_
          refine zr_lv [zO X 51, zI s, none, zI (nI i25_3), none, none, none] (by simp [zle]) ?_
          exact hJ148 0 (((if_neg (zbf c148))))
        · refine zr_iconst C (v := 1) d_X7_which_151 (by decide) ?_
          refine zr_iload_n C d_X7_which_152 rfl ?_
          refine zr_ishl C d_X7_which_153 ?_
          refine zr_goto C 158 d_X7_which_154 (by decide) ?_
          refine zr_lv [zO X 51, zI s, none, zI (nI i25_3), none, none, none] (by simp [zle]) ?_
          exact hJ148 (zshl 1 (nI i25_3)) (((if_pos c148)))
      intro y15 ey15
      refine zr_ior C d_X7_which_158 ?_
      refine zr_istore_n C [zO X 51, zI s, zI (s25_3.1 ||| y15), zI (nI i25_3), none, none, none] d_X7_which_159 (Nat.le_of_ble_eq_true rfl) rfl rfl ?_
      refine zr_iinc C [zO X 51, zI s, zI (s25_3.1 ||| y15), zI (nI (i25_3 + 1)), none, none, none] (v := (nI (i25_3 + 1))) d_X7_which_160 rfl (zn_add rfl rfl) (Nat.le_of_ble_eq_true rfl) rfl rfl ?_
      refine zr_goto C 25 d_X7_which_163 (by decide) ?_
      exact hk25_3 ((s25_3.1 ||| y15), h4) (by subst ey15 er48_10 eh4; exact rfl)
    refine zr_iload_n C d_X7_which_25 rfl ?_
    refine zr_aload_n C d_X7_which_26 rfl ?_
    refine gf_Model_3 C m756 d_X7_which_27 ?_
    refine zr_iload_n C d_X7_which_30 rfl ?_
    refine zr_iald C za_53 (zcn s) (zix ex1.1) (by omega) (by decide) d_X7_which_31 ?_
    refine zr_top ((hI25_3 _ _ (by omega)).trans ((congrFun (congrFun eh2.symm _) _).trans (fr_Model_copy _ _ (by omega)))) ?_
    refine zr_icmp_ge C 166 d_X7_which_32 (by decide) (fun _ => ?_) (fun c => absurd (zge_yes rfl (by omega) (by have := zcn_small (h 53 (zcn s)); omega)) c)
    refine zr_iload_n C d_X7_which_166 rfl ?_
    have eR : o_Model_which h s = (r25_3.1, r25_3.2) := (by subst er25_3 eh2; unfold o_Model_which; rw [if_pos c5])
    subst hQ
    exact zTQ_Ih eR (zr_ireti C d_X7_which_167)
  · refine zr_iconst C (v := (-1)) d_X7_which_8 (by decide) ?_
    have eR : o_Model_which h s = ((-1), h) := (by unfold o_Model_which; rw [if_neg (zbf c5)])
    subst hQ
    exact zTQ_Ih eR (zr_ireti C d_X7_which_9)
theorem d_X7_runWith_0 : decode prog_9_method_72_code 0 = .ok (.aload_n 0, 1) := by decide +kernel
theorem d_X7_runWith_1 : decode prog_9_method_72_code 1 = .ok (.getfield 16, 3) := by decide +kernel
theorem d_X7_runWith_4 : decode prog_9_method_72_code 4 = .ok (.aload_n 0, 1) := by decide +kernel
theorem d_X7_runWith_5 : decode prog_9_method_72_code 5 = .ok (.getfield 22, 3) := by decide +kernel
theorem d_X7_runWith_8 : decode prog_9_method_72_code 8 = .ok (.invokestatic 236, 3) := by decide +kernel
theorem d_X7_runWith_11 : decode prog_9_method_72_code 11 = .ok (.iconst 0, 1) := by decide +kernel
theorem d_X7_runWith_12 : decode prog_9_method_72_code 12 = .ok (.istore_n 2, 1) := by decide +kernel
theorem d_X7_runWith_13 : decode prog_9_method_72_code 13 = .ok (.iload_n 2, 1) := by decide +kernel
theorem d_X7_runWith_14 : decode prog_9_method_72_code 14 = .ok (.bipush 16, 2) := by decide +kernel
theorem d_X7_runWith_16 : decode prog_9_method_72_code 16 = .ok (.if_icmp .ge 17, 3) := by decide +kernel
theorem d_X7_runWith_19 : decode prog_9_method_72_code 19 = .ok (.aload_n 0, 1) := by decide +kernel
theorem d_X7_runWith_20 : decode prog_9_method_72_code 20 = .ok (.getfield 22, 3) := by decide +kernel
theorem d_X7_runWith_23 : decode prog_9_method_72_code 23 = .ok (.iload_n 2, 1) := by decide +kernel
theorem d_X7_runWith_24 : decode prog_9_method_72_code 24 = .ok (.bipush (-9), 2) := by decide +kernel
theorem d_X7_runWith_26 : decode prog_9_method_72_code 26 = .ok (.iastore, 1) := by decide +kernel
theorem d_X7_runWith_27 : decode prog_9_method_72_code 27 = .ok (.iinc 2 1, 3) := by decide +kernel
theorem d_X7_runWith_30 : decode prog_9_method_72_code 30 = .ok (.goto (-17), 3) := by decide +kernel
theorem d_X7_runWith_33 : decode prog_9_method_72_code 33 = .ok (.aload_n 0, 1) := by decide +kernel
theorem d_X7_runWith_34 : decode prog_9_method_72_code 34 = .ok (.getfield 22, 3) := by decide +kernel
theorem d_X7_runWith_37 : decode prog_9_method_72_code 37 = .ok (.bipush 24, 2) := by decide +kernel
theorem d_X7_runWith_39 : decode prog_9_method_72_code 39 = .ok (.iconst 0, 1) := by decide +kernel
theorem d_X7_runWith_40 : decode prog_9_method_72_code 40 = .ok (.iastore, 1) := by decide +kernel
theorem d_X7_runWith_41 : decode prog_9_method_72_code 41 = .ok (.aload_n 0, 1) := by decide +kernel
theorem d_X7_runWith_42 : decode prog_9_method_72_code 42 = .ok (.aload_n 0, 1) := by decide +kernel
theorem d_X7_runWith_43 : decode prog_9_method_72_code 43 = .ok (.getfield 22, 3) := by decide +kernel
theorem d_X7_runWith_46 : decode prog_9_method_72_code 46 = .ok (.iload_n 1, 1) := by decide +kernel
theorem d_X7_runWith_47 : decode prog_9_method_72_code 47 = .ok (.invokevirtual 162, 3) := by decide +kernel
theorem d_X7_runWith_50 : decode prog_9_method_72_code 50 = .ok (.aload_n 0, 1) := by decide +kernel
theorem d_X7_runWith_51 : decode prog_9_method_72_code 51 = .ok (.aload_n 0, 1) := by decide +kernel
theorem d_X7_runWith_52 : decode prog_9_method_72_code 52 = .ok (.getfield 22, 3) := by decide +kernel
theorem d_X7_runWith_55 : decode prog_9_method_72_code 55 = .ok (.invokevirtual 240, 3) := by decide +kernel
theorem d_X7_runWith_58 : decode prog_9_method_72_code 58 = .ok (.pop, 1) := by decide +kernel
theorem d_X7_runWith_59 : decode prog_9_method_72_code 59 = .ok (.aload_n 0, 1) := by decide +kernel
theorem d_X7_runWith_60 : decode prog_9_method_72_code 60 = .ok (.aload_n 0, 1) := by decide +kernel
theorem d_X7_runWith_61 : decode prog_9_method_72_code 61 = .ok (.getfield 22, 3) := by decide +kernel
theorem d_X7_runWith_64 : decode prog_9_method_72_code 64 = .ok (.invokevirtual 203, 3) := by decide +kernel
theorem d_X7_runWith_67 : decode prog_9_method_72_code 67 = .ok (.ireturn, 1) := by decide +kernel
abbrev M_Model_runWith : zMT := (⟨"PeriodSlotsModel", "runWith", "(I)I"⟩, prog_9_method_72_code, 3, (some .int))
theorem k_Model_runWith : zcall M_Model_runWith 1 := ⟨zU_in (i := 1116) (by decide +kernel) rfl, m62, ⟨by decide, by decide, by decide +kernel⟩, by decide⟩
def o_Model_runWith (h : zHp) (some_ : Int32) : Int32 × zHp :=
  ((o_Model_withOffset ((o_Model_runOf (o_Model_layNear (zup (zrep (fun (i13_2 : Nat) (s13_2 : zHp) => (zup s13_2 56 i13_2 (-9))) (o_Model_copy h 54 56) 16) 56 24 0) 56 some_) 56).2) 56), ((o_Model_runOf (o_Model_layNear (zup (zrep (fun (i13_2 : Nat) (s13_2 : zHp) => (zup s13_2 56 i13_2 (-9))) (o_Model_copy h 54 56) 16) 56 24 0) 56 some_) 56).2))
theorem fr_Model_runWith {h : zHp} {some_ : Int32} (c k : Nat) (q0 : ¬ (c = 51 ∧ k = 9)) (q1 : c ≠ 66) (q2 : c ≠ 56) (q3 : ¬ (c = 51 ∧ k = 10)) (q4 : ¬ (c = 51 ∧ k = 11)) (q5 : c ≠ 67) (q6 : c ≠ 68) : (o_Model_runWith h some_).2 c k = h c k := by
  unfold o_Model_runWith
  have hI13_2 := zrep_inv (f := (fun (i13_2 : Nat) (s13_2 : zHp) => (zup s13_2 56 i13_2 (-9)))) (a := (o_Model_copy h 54 56)) (fun _ s13_2 => ∀ c k : Nat, ¬ (c = 51 ∧ k = 9) → c ≠ 66 → c ≠ 56 → ¬ (c = 51 ∧ k = 10) → ¬ (c = 51 ∧ k = 11) → c ≠ 67 → c ≠ 68 → s13_2 c k = (o_Model_copy h 54 56) c k) (16) (fun _ _ _ _ _ _ _ _ _ => rfl) (fun i13_2 s13_2 hi13_2 hI13_2 => (fun c k q0 q1 q2 q3 q4 q5 q6 => (by (try dsimp only); exact ((zup_fr (Or.inl (by assumption))).trans (hI13_2 _ _ (by assumption) (by assumption) (by assumption) (by assumption) (by assumption) (by assumption) (by assumption))))))
  try dsimp only
  first | done | exact ((fr_Model_runOf _ _ (by assumption) (by assumption) (by assumption) (by assumption) (by assumption)).trans ((fr_Model_layNear _ _ (by assumption) (by assumption)).trans ((zup_fr (Or.inl (by assumption))).trans ((hI13_2 _ _ (by assumption) (by assumption) (by assumption) (by assumption) (by assumption) (by assumption) (by assumption)).trans (fr_Model_copy _ _ (by assumption))))))
set_option maxHeartbeats 400000 in
set_option maxRecDepth 20000 in
theorem c_Model_runWith (X : zXT) (h : zHp) (g : zLg) (some_ : Int32) (hf0 : zfit h 51 1 8) (hper : zper h) : zDi X M_Model_runWith 8 [zR X 51, .int some_] h g (zI ((o_Model_runWith h some_).1)) ((o_Model_runWith h some_).2) g := by
  have hf0_1 := hf0.1
  refine zDi_of "PeriodSlotsModel" prog_9_method_72_code 3 (some .int) rfl (by decide) [zO X 51, zI some_, none] rfl (fun _ q => q) (Nat.le_of_ble_eq_true rfl) ?_
  intro Γ Q C hQ
  refine zr_aload_n C d_X7_runWith_0 rfl ?_
  refine gf_Model_4 C m757 d_X7_runWith_1 ?_
  refine zr_aload_n C d_X7_runWith_4 rfl ?_
  refine gf_Model_6 C m759 d_X7_runWith_5 ?_
  refine zr_callSv (As := [zR X 54, zR X 56]) (st := []) C (c_Model_copy X h g 54 56 (by decide) (by decide)) k_Model_copy m1027 m1028 rfl (by decide) rfl (Nat.le_of_ble_eq_true rfl) d_X7_runWith_8 ?_
  refine zr_h (fun h1 eh1 => ?_)
  refine zr_iconst C (v := 0) d_X7_runWith_11 (by decide) ?_
  refine zr_istore_n C [zO X 51, zI some_, zI 0] d_X7_runWith_12 (Nat.le_of_ble_eq_true rfl) rfl rfl ?_
  refine zfor (f := (fun (i13_2 : Nat) (s13_2 : zHp) => (zup s13_2 56 i13_2 (-9)))) (a := h1) (fun i13_2 s13_2 => zV X Γ Q 13 [zO X 51, zI some_, zI (nI i13_2)] [] s13_2 g) (fun _ s13_2 => ∀ c k : Nat, ¬ (c = 51 ∧ k = 9) → c ≠ 66 → c ≠ 56 → ¬ (c = 51 ∧ k = 10) → ¬ (c = 51 ∧ k = 11) → c ≠ 67 → c ≠ 68 → s13_2 c k = h1 c k) (16) (fun _ _ _ _ _ _ _ _ _ => rfl) (fun i13_2 s13_2 hi13_2 hI13_2 => ⟨(fun c k q0 q1 q2 q3 q4 q5 q6 => (by (try dsimp only); exact ((zup_fr (Or.inl (by assumption))).trans (hI13_2 _ _ (by assumption) (by assumption) (by assumption) (by assumption) (by assumption) (by assumption) (by assumption))))), fun hk13_2 => ?_⟩) (fun r13_2 er13_2 hI13_2 => ?_)
  · refine zr_iload_n C d_X7_runWith_13 rfl ?_
    refine zr_bipush C (v := 16) d_X7_runWith_14 (by decide) ?_
    refine zr_icmp_ge C 33 d_X7_runWith_16 (by decide) (fun c => absurd c (zge_noN (B := 16) rfl (by omega) (by omega))) (fun _ => ?_)
    refine zr_aload_n C d_X7_runWith_19 rfl ?_
    refine gf_Model_6 C m759 d_X7_runWith_20 ?_
    refine zr_iload_n C d_X7_runWith_23 rfl ?_
    refine zr_bipush C (v := (-9)) d_X7_runWith_24 (by decide) ?_
    refine zr_iast C za_56 (i13_2) rfl (by omega) (by decide) d_X7_runWith_26 ?_
    refine zr_h (fun h3 eh3 => ?_)
    refine zr_iinc C [zO X 51, zI some_, zI (nI (i13_2 + 1))] (v := (nI (i13_2 + 1))) d_X7_runWith_27 rfl (zn_add rfl rfl) (Nat.le_of_ble_eq_true rfl) rfl rfl ?_
    refine zr_goto C 13 d_X7_runWith_30 (by decide) ?_
    exact hk13_2 h3 (by subst eh3; exact rfl)
  refine zr_iload_n C d_X7_runWith_13 rfl ?_
  refine zr_bipush C (v := 16) d_X7_runWith_14 (by decide) ?_
  refine zr_icmp_ge C 33 d_X7_runWith_16 (by decide) (fun _ => ?_) (fun c => absurd (zge_yesN (B := 16) rfl (by omega) (by omega)) c)
  refine zr_aload_n C d_X7_runWith_33 rfl ?_
  refine gf_Model_6 C m759 d_X7_runWith_34 ?_
  refine zr_bipush C (v := 24) d_X7_runWith_37 (by decide) ?_
  refine zr_iconst C (v := 0) d_X7_runWith_39 (by decide) ?_
  refine zr_iast C za_56 (24) rfl (by omega) (by decide) d_X7_runWith_40 ?_
  refine zr_h (fun h4 eh4 => ?_)
  refine zr_aload_n C d_X7_runWith_41 rfl ?_
  refine zr_aload_n C d_X7_runWith_42 rfl ?_
  refine gf_Model_6 C m759 d_X7_runWith_43 ?_
  refine zr_iload_n C d_X7_runWith_46 rfl ?_
  refine zr_callVv (As := [zR X 56, .int some_]) (st := []) (c := 51) C (c_Model_layNear X h4 g 56 some_ (by decide) (zfit_fr ((congrFun (congrFun eh4.symm _) _).trans ((zup_fr (by omega)).trans ((hI13_2 _ _ (by omega) (by omega) (by omega) (by omega) (by omega) (by omega) (by omega)).trans ((congrFun (congrFun eh1.symm _) _).trans (fr_Model_copy _ _ (by omega)))))) hf0)) k_Model_layNear m905 m907 m26 (by decide) (zC_Model X _ _) rfl rfl (by decide) rfl (Nat.le_of_ble_eq_true rfl) d_X7_runWith_47 ?_
  refine zr_h (fun h5 eh5 => ?_)
  refine zr_aload_n C d_X7_runWith_50 rfl ?_
  refine zr_aload_n C d_X7_runWith_51 rfl ?_
  refine gf_Model_6 C m759 d_X7_runWith_52 ?_
  refine zr_callVi (As := [zR X 56]) (st := []) (c := 51) C (c_Model_runOf X h5 g 56 (by decide) (zfit_fr ((congrFun (congrFun eh5.symm _) _).trans ((fr_Model_layNear _ _ (by omega) (by omega)).trans ((congrFun (congrFun eh4.symm _) _).trans ((zup_fr (by omega)).trans ((hI13_2 _ _ (by omega) (by omega) (by omega) (by omega) (by omega) (by omega) (by omega)).trans ((congrFun (congrFun eh1.symm _) _).trans (fr_Model_copy _ _ (by omega)))))))) hf0) (zper_fr ((congrFun (congrFun eh5.symm _) _).trans ((fr_Model_layNear _ _ (by omega) (by omega)).trans ((congrFun (congrFun eh4.symm _) _).trans ((zup_fr (by omega)).trans ((hI13_2 _ _ (by omega) (by omega) (by omega) (by omega) (by omega) (by omega) (by omega)).trans ((congrFun (congrFun eh1.symm _) _).trans (fr_Model_copy _ _ (by omega)))))))) (fun v => ((congrFun (congrFun eh5.symm _) _).trans ((fr_Model_layNear _ _ (by omega) (by omega)).trans ((congrFun (congrFun eh4.symm _) _).trans ((zup_fr (by omega)).trans ((hI13_2 _ _ (by omega) (by omega) (by omega) (by omega) (by omega) (by omega) (by omega)).trans ((congrFun (congrFun eh1.symm _) _).trans (fr_Model_copy _ _ (by omega))))))))) hper)) k_Model_runOf m1034 m1036 m45 (by decide) (zC_Model X _ _) rfl rfl (by decide) rfl (Nat.le_of_ble_eq_true rfl) d_X7_runWith_55 ?_
  refine zr_vi (fun y6 ey6 => ?_)
  refine zr_h (fun h7 eh7 => ?_)
  refine zr_pop C d_X7_runWith_58 rfl ?_
  refine zr_aload_n C d_X7_runWith_59 rfl ?_
  refine zr_aload_n C d_X7_runWith_60 rfl ?_
  refine gf_Model_6 C m759 d_X7_runWith_61 ?_
  refine zr_callVi (As := [zR X 56]) (st := []) (c := 51) C (c_Model_withOffset X h7 g 56 (by decide) (zfit_fr ((congrFun (congrFun eh7.symm _) _).trans ((fr_Model_runOf _ _ (by omega) (by omega) (by omega) (by omega) (by omega)).trans ((congrFun (congrFun eh5.symm _) _).trans ((fr_Model_layNear _ _ (by omega) (by omega)).trans ((congrFun (congrFun eh4.symm _) _).trans ((zup_fr (by omega)).trans ((hI13_2 _ _ (by omega) (by omega) (by omega) (by omega) (by omega) (by omega) (by omega)).trans ((congrFun (congrFun eh1.symm _) _).trans (fr_Model_copy _ _ (by omega)))))))))) hf0)) k_Model_withOffset m953 m955 m35 (by decide) (zC_Model X _ _) rfl rfl (by decide) rfl (Nat.le_of_ble_eq_true rfl) d_X7_runWith_64 ?_
  have eR : o_Model_runWith h some_ = ((o_Model_withOffset h7 56), h7) := (by subst eh7 ey6 eh5 eh4 er13_2 eh1; unfold o_Model_runWith; exact rfl)
  subst hQ
  exact zTQ_Ih eR (zr_ireti C d_X7_runWith_67)
theorem d_X7_seed_0 : decode prog_9_method_75_code 0 = .ok (.aload_n 0, 1) := by decide +kernel
theorem d_X7_seed_1 : decode prog_9_method_75_code 1 = .ok (.getfield 291, 3) := by decide +kernel
theorem d_X7_seed_4 : decode prog_9_method_75_code 4 = .ok (.lstore_n 3, 1) := by decide +kernel
theorem d_X7_seed_5 : decode prog_9_method_75_code 5 = .ok (.aload_n 0, 1) := by decide +kernel
theorem d_X7_seed_6 : decode prog_9_method_75_code 6 = .ok (.lload_n 1, 1) := by decide +kernel
theorem d_X7_seed_7 : decode prog_9_method_75_code 7 = .ok (.putfield 291, 3) := by decide +kernel
theorem d_X7_seed_10 : decode prog_9_method_75_code 10 = .ok (.lload_n 3, 1) := by decide +kernel
theorem d_X7_seed_11 : decode prog_9_method_75_code 11 = .ok (.lreturn, 1) := by decide +kernel
abbrev M_Model_seed : zMT := (⟨"PeriodSlotsModel", "seed", "(J)J"⟩, prog_9_method_75_code, 5, (some .long))
theorem k_Model_seed : zcall M_Model_seed 1 := ⟨zU_in (i := 1134) (by decide +kernel) rfl, m62, ⟨by decide, by decide, by decide +kernel⟩, by decide⟩
def o_Model_seed (h : zHp) (g : zLg) (v : Int64) : Int64 × zLg :=
  ((g 1), (zupg g 1 v))
set_option maxHeartbeats 400000 in
set_option maxRecDepth 20000 in
theorem c_Model_seed (X : zXT) (h : zHp) (g : zLg) (v : Int64) : zDi X M_Model_seed 0 [zR X 51, .long v] h g (zL ((o_Model_seed h g v).1)) h ((o_Model_seed h g v).2) := by
  refine zDi_of "PeriodSlotsModel" prog_9_method_75_code 5 (some .long) rfl (by decide) [zO X 51, zL v, none, none, none] rfl (fun _ q => q) (Nat.le_of_ble_eq_true rfl) ?_
  intro Γ Q C hQ
  refine zr_aload_n C d_X7_seed_0 rfl ?_
  refine gf_Model_16 C m769 d_X7_seed_1 ?_
  refine zr_lstore_n C [zO X 51, zL v, none, zL (g 1), none] d_X7_seed_4 (Nat.le_of_ble_eq_true rfl) rfl rfl ?_
  refine zr_aload_n C d_X7_seed_5 rfl ?_
  refine zr_lload_n C d_X7_seed_6 rfl ?_
  refine pf_Model_16 C m769 d_X7_seed_7 ?_
  refine zr_g (fun g1 eg1 => ?_)
  refine zr_lload_n C d_X7_seed_10 rfl ?_
  have eR : o_Model_seed h g v = ((g 1), g1) := (by subst eg1; unfold o_Model_seed; exact rfl)
  subst hQ
  exact zTQ_Jg eR (zr_lret C d_X7_seed_11)
theorem d_X7_drawn_0 : decode prog_9_method_76_code 0 = .ok (.iload_n 1, 1) := by decide +kernel
theorem d_X7_drawn_1 : decode prog_9_method_76_code 1 = .ok (.i2l, 1) := by decide +kernel
theorem d_X7_drawn_2 : decode prog_9_method_76_code 2 = .ok (.lconst 1, 1) := by decide +kernel
theorem d_X7_drawn_3 : decode prog_9_method_76_code 3 = .ok (.ldc2_w 286, 3) := by decide +kernel
theorem d_X7_drawn_6 : decode prog_9_method_76_code 6 = .ok (.invokestatic 76, 3) := by decide +kernel
theorem d_X7_drawn_9 : decode prog_9_method_76_code 9 = .ok (.ifCond .ne 6, 3) := by decide +kernel
theorem d_X7_drawn_12 : decode prog_9_method_76_code 12 = .ok (.bipush (-2), 2) := by decide +kernel
theorem d_X7_drawn_14 : decode prog_9_method_76_code 14 = .ok (.ireturn, 1) := by decide +kernel
theorem d_X7_drawn_15 : decode prog_9_method_76_code 15 = .ok (.iconst 0, 1) := by decide +kernel
theorem d_X7_drawn_16 : decode prog_9_method_76_code 16 = .ok (.istore_n 2, 1) := by decide +kernel
theorem d_X7_drawn_17 : decode prog_9_method_76_code 17 = .ok (.iconst 0, 1) := by decide +kernel
theorem d_X7_drawn_18 : decode prog_9_method_76_code 18 = .ok (.istore_n 3, 1) := by decide +kernel
theorem d_X7_drawn_19 : decode prog_9_method_76_code 19 = .ok (.iload_n 3, 1) := by decide +kernel
theorem d_X7_drawn_20 : decode prog_9_method_76_code 20 = .ok (.iload_n 1, 1) := by decide +kernel
theorem d_X7_drawn_21 : decode prog_9_method_76_code 21 = .ok (.if_icmp .ge 132, 3) := by decide +kernel
theorem d_X7_drawn_24 : decode prog_9_method_76_code 24 = .ok (.aload_n 0, 1) := by decide +kernel
theorem d_X7_drawn_25 : decode prog_9_method_76_code 25 = .ok (.getfield 16, 3) := by decide +kernel
theorem d_X7_drawn_28 : decode prog_9_method_76_code 28 = .ok (.aload_n 0, 1) := by decide +kernel
theorem d_X7_drawn_29 : decode prog_9_method_76_code 29 = .ok (.getfield 19, 3) := by decide +kernel
theorem d_X7_drawn_32 : decode prog_9_method_76_code 32 = .ok (.invokestatic 236, 3) := by decide +kernel
theorem d_X7_drawn_35 : decode prog_9_method_76_code 35 = .ok (.aload_n 0, 1) := by decide +kernel
theorem d_X7_drawn_36 : decode prog_9_method_76_code 36 = .ok (.getfield 19, 3) := by decide +kernel
theorem d_X7_drawn_39 : decode prog_9_method_76_code 39 = .ok (.invokestatic 221, 3) := by decide +kernel
theorem d_X7_drawn_42 : decode prog_9_method_76_code 42 = .ok (.aload_n 0, 1) := by decide +kernel
theorem d_X7_drawn_43 : decode prog_9_method_76_code 43 = .ok (.getfield 19, 3) := by decide +kernel
theorem d_X7_drawn_46 : decode prog_9_method_76_code 46 = .ok (.bipush 24, 2) := by decide +kernel
theorem d_X7_drawn_48 : decode prog_9_method_76_code 48 = .ok (.iconst 0, 1) := by decide +kernel
theorem d_X7_drawn_49 : decode prog_9_method_76_code 49 = .ok (.iastore, 1) := by decide +kernel
theorem d_X7_drawn_50 : decode prog_9_method_76_code 50 = .ok (.iconst 0, 1) := by decide +kernel
theorem d_X7_drawn_51 : decode prog_9_method_76_code 51 = .ok (.istore 4, 2) := by decide +kernel
theorem d_X7_drawn_53 : decode prog_9_method_76_code 53 = .ok (.iload 4, 2) := by decide +kernel
theorem d_X7_drawn_55 : decode prog_9_method_76_code 55 = .ok (.aload_n 0, 1) := by decide +kernel
theorem d_X7_drawn_56 : decode prog_9_method_76_code 56 = .ok (.getfield 72, 3) := by decide +kernel
theorem d_X7_drawn_59 : decode prog_9_method_76_code 59 = .ok (.if_icmp .ge 49, 3) := by decide +kernel
theorem d_X7_drawn_62 : decode prog_9_method_76_code 62 = .ok (.aload_n 0, 1) := by decide +kernel
theorem d_X7_drawn_63 : decode prog_9_method_76_code 63 = .ok (.aload_n 0, 1) := by decide +kernel
theorem d_X7_drawn_64 : decode prog_9_method_76_code 64 = .ok (.getfield 291, 3) := by decide +kernel
theorem d_X7_drawn_67 : decode prog_9_method_76_code 67 = .ok (.ldc2_w 295, 3) := by decide +kernel
theorem d_X7_drawn_70 : decode prog_9_method_76_code 70 = .ok (.lmul, 1) := by decide +kernel
theorem d_X7_drawn_71 : decode prog_9_method_76_code 71 = .ok (.ldc2_w 297, 3) := by decide +kernel
theorem d_X7_drawn_74 : decode prog_9_method_76_code 74 = .ok (.ladd, 1) := by decide +kernel
theorem d_X7_drawn_75 : decode prog_9_method_76_code 75 = .ok (.putfield 291, 3) := by decide +kernel
theorem d_X7_drawn_78 : decode prog_9_method_76_code 78 = .ok (.aload_n 0, 1) := by decide +kernel
theorem d_X7_drawn_79 : decode prog_9_method_76_code 79 = .ok (.getfield 19, 3) := by decide +kernel
theorem d_X7_drawn_82 : decode prog_9_method_76_code 82 = .ok (.iload 4, 2) := by decide +kernel
theorem d_X7_drawn_84 : decode prog_9_method_76_code 84 = .ok (.aload_n 0, 1) := by decide +kernel
theorem d_X7_drawn_85 : decode prog_9_method_76_code 85 = .ok (.getfield 291, 3) := by decide +kernel
theorem d_X7_drawn_88 : decode prog_9_method_76_code 88 = .ok (.bipush 33, 2) := by decide +kernel
theorem d_X7_drawn_90 : decode prog_9_method_76_code 90 = .ok (.lushr, 1) := by decide +kernel
theorem d_X7_drawn_91 : decode prog_9_method_76_code 91 = .ok (.aload_n 0, 1) := by decide +kernel
theorem d_X7_drawn_92 : decode prog_9_method_76_code 92 = .ok (.getfield 13, 3) := by decide +kernel
theorem d_X7_drawn_95 : decode prog_9_method_76_code 95 = .ok (.iload 4, 2) := by decide +kernel
theorem d_X7_drawn_97 : decode prog_9_method_76_code 97 = .ok (.iaload, 1) := by decide +kernel
theorem d_X7_drawn_98 : decode prog_9_method_76_code 98 = .ok (.i2l, 1) := by decide +kernel
theorem d_X7_drawn_99 : decode prog_9_method_76_code 99 = .ok (.lrem, 1) := by decide +kernel
theorem d_X7_drawn_100 : decode prog_9_method_76_code 100 = .ok (.l2i, 1) := by decide +kernel
theorem d_X7_drawn_101 : decode prog_9_method_76_code 101 = .ok (.iastore, 1) := by decide +kernel
theorem d_X7_drawn_102 : decode prog_9_method_76_code 102 = .ok (.iinc 4 1, 3) := by decide +kernel
theorem d_X7_drawn_105 : decode prog_9_method_76_code 105 = .ok (.goto (-52), 3) := by decide +kernel
theorem d_X7_drawn_108 : decode prog_9_method_76_code 108 = .ok (.aload_n 0, 1) := by decide +kernel
theorem d_X7_drawn_109 : decode prog_9_method_76_code 109 = .ok (.aload_n 0, 1) := by decide +kernel
theorem d_X7_drawn_110 : decode prog_9_method_76_code 110 = .ok (.getfield 19, 3) := by decide +kernel
theorem d_X7_drawn_113 : decode prog_9_method_76_code 113 = .ok (.aload_n 0, 1) := by decide +kernel
theorem d_X7_drawn_114 : decode prog_9_method_76_code 114 = .ok (.invokevirtual 159, 3) := by decide +kernel
theorem d_X7_drawn_117 : decode prog_9_method_76_code 117 = .ok (.invokevirtual 162, 3) := by decide +kernel
theorem d_X7_drawn_120 : decode prog_9_method_76_code 120 = .ok (.aload_n 0, 1) := by decide +kernel
theorem d_X7_drawn_121 : decode prog_9_method_76_code 121 = .ok (.aload_n 0, 1) := by decide +kernel
theorem d_X7_drawn_122 : decode prog_9_method_76_code 122 = .ok (.getfield 19, 3) := by decide +kernel
theorem d_X7_drawn_125 : decode prog_9_method_76_code 125 = .ok (.invokevirtual 240, 3) := by decide +kernel
theorem d_X7_drawn_128 : decode prog_9_method_76_code 128 = .ok (.istore 4, 2) := by decide +kernel
theorem d_X7_drawn_130 : decode prog_9_method_76_code 130 = .ok (.iload_n 2, 1) := by decide +kernel
theorem d_X7_drawn_131 : decode prog_9_method_76_code 131 = .ok (.iload 4, 2) := by decide +kernel
theorem d_X7_drawn_133 : decode prog_9_method_76_code 133 = .ok (.bipush (-9), 2) := by decide +kernel
theorem d_X7_drawn_135 : decode prog_9_method_76_code 135 = .ok (.if_icmp .ne 8, 3) := by decide +kernel
theorem d_X7_drawn_138 : decode prog_9_method_76_code 138 = .ok (.bipush 40, 2) := by decide +kernel
theorem d_X7_drawn_140 : decode prog_9_method_76_code 140 = .ok (.goto 5, 3) := by decide +kernel
theorem d_X7_drawn_143 : decode prog_9_method_76_code 143 = .ok (.iload 4, 2) := by decide +kernel
theorem d_X7_drawn_145 : decode prog_9_method_76_code 145 = .ok (.iadd, 1) := by decide +kernel
theorem d_X7_drawn_146 : decode prog_9_method_76_code 146 = .ok (.istore_n 2, 1) := by decide +kernel
theorem d_X7_drawn_147 : decode prog_9_method_76_code 147 = .ok (.iinc 3 1, 3) := by decide +kernel
theorem d_X7_drawn_150 : decode prog_9_method_76_code 150 = .ok (.goto (-131), 3) := by decide +kernel
theorem d_X7_drawn_153 : decode prog_9_method_76_code 153 = .ok (.iload_n 2, 1) := by decide +kernel
theorem d_X7_drawn_154 : decode prog_9_method_76_code 154 = .ok (.ireturn, 1) := by decide +kernel
abbrev M_Model_drawn : zMT := (⟨"PeriodSlotsModel", "drawn", "(I)I"⟩, prog_9_method_76_code, 5, (some .int))
theorem k_Model_drawn : zcall M_Model_drawn 1 := ⟨zU_in (i := 1138) (by decide +kernel) rfl, m62, ⟨by decide, by decide, by decide +kernel⟩, by decide⟩
def o_Model_drawn (h : zHp) (g : zLg) (m : Int32) : Int32 × zHp × zLg :=
  (if (o_Model_in (Int32.toInt64 m) 1 10) = true then ((zrep (fun (i19_2 : Nat) (s19_2 : Int32 × zHp × zLg) => ((s19_2.1 + (if ((o_Model_runOf (o_Model_layNear (zrep (fun (i53_6 : Nat) (s53_6 : zHp × zLg) => ((zup s53_6.1 55 i53_6 (Int64.toInt32 (zlrem (zlshr ((zupg s53_6.2 1 (((s53_6.2 1) * 6364136223846793005) + 1442695040888963407)) 1) 33) (Int32.toInt64 (h 53 i53_6))))), (zupg s53_6.2 1 (((s53_6.2 1) * 6364136223846793005) + 1442695040888963407)))) ((zup (o_Model_dropOld (o_Model_copy s19_2.2.1 54 55) 55) 55 24 0), s19_2.2.2) (zcn (h 51 1))).1 55 (o_Model_all h)) 55).1) = (-9) then 40 else ((o_Model_runOf (o_Model_layNear (zrep (fun (i53_6 : Nat) (s53_6 : zHp × zLg) => ((zup s53_6.1 55 i53_6 (Int64.toInt32 (zlrem (zlshr ((zupg s53_6.2 1 (((s53_6.2 1) * 6364136223846793005) + 1442695040888963407)) 1) 33) (Int32.toInt64 (h 53 i53_6))))), (zupg s53_6.2 1 (((s53_6.2 1) * 6364136223846793005) + 1442695040888963407)))) ((zup (o_Model_dropOld (o_Model_copy s19_2.2.1 54 55) 55) 55 24 0), s19_2.2.2) (zcn (h 51 1))).1 55 (o_Model_all h)) 55).1))), ((o_Model_runOf (o_Model_layNear (zrep (fun (i53_6 : Nat) (s53_6 : zHp × zLg) => ((zup s53_6.1 55 i53_6 (Int64.toInt32 (zlrem (zlshr ((zupg s53_6.2 1 (((s53_6.2 1) * 6364136223846793005) + 1442695040888963407)) 1) 33) (Int32.toInt64 (h 53 i53_6))))), (zupg s53_6.2 1 (((s53_6.2 1) * 6364136223846793005) + 1442695040888963407)))) ((zup (o_Model_dropOld (o_Model_copy s19_2.2.1 54 55) 55) 55 24 0), s19_2.2.2) (zcn (h 51 1))).1 55 (o_Model_all h)) 55).2), (zrep (fun (i53_6 : Nat) (s53_6 : zHp × zLg) => ((zup s53_6.1 55 i53_6 (Int64.toInt32 (zlrem (zlshr ((zupg s53_6.2 1 (((s53_6.2 1) * 6364136223846793005) + 1442695040888963407)) 1) 33) (Int32.toInt64 (h 53 i53_6))))), (zupg s53_6.2 1 (((s53_6.2 1) * 6364136223846793005) + 1442695040888963407)))) ((zup (o_Model_dropOld (o_Model_copy s19_2.2.1 54 55) 55) 55 24 0), s19_2.2.2) (zcn (h 51 1))).2)) (0, h, g) (zcn m)).1, (zrep (fun (i19_2 : Nat) (s19_2 : Int32 × zHp × zLg) => ((s19_2.1 + (if ((o_Model_runOf (o_Model_layNear (zrep (fun (i53_6 : Nat) (s53_6 : zHp × zLg) => ((zup s53_6.1 55 i53_6 (Int64.toInt32 (zlrem (zlshr ((zupg s53_6.2 1 (((s53_6.2 1) * 6364136223846793005) + 1442695040888963407)) 1) 33) (Int32.toInt64 (h 53 i53_6))))), (zupg s53_6.2 1 (((s53_6.2 1) * 6364136223846793005) + 1442695040888963407)))) ((zup (o_Model_dropOld (o_Model_copy s19_2.2.1 54 55) 55) 55 24 0), s19_2.2.2) (zcn (h 51 1))).1 55 (o_Model_all h)) 55).1) = (-9) then 40 else ((o_Model_runOf (o_Model_layNear (zrep (fun (i53_6 : Nat) (s53_6 : zHp × zLg) => ((zup s53_6.1 55 i53_6 (Int64.toInt32 (zlrem (zlshr ((zupg s53_6.2 1 (((s53_6.2 1) * 6364136223846793005) + 1442695040888963407)) 1) 33) (Int32.toInt64 (h 53 i53_6))))), (zupg s53_6.2 1 (((s53_6.2 1) * 6364136223846793005) + 1442695040888963407)))) ((zup (o_Model_dropOld (o_Model_copy s19_2.2.1 54 55) 55) 55 24 0), s19_2.2.2) (zcn (h 51 1))).1 55 (o_Model_all h)) 55).1))), ((o_Model_runOf (o_Model_layNear (zrep (fun (i53_6 : Nat) (s53_6 : zHp × zLg) => ((zup s53_6.1 55 i53_6 (Int64.toInt32 (zlrem (zlshr ((zupg s53_6.2 1 (((s53_6.2 1) * 6364136223846793005) + 1442695040888963407)) 1) 33) (Int32.toInt64 (h 53 i53_6))))), (zupg s53_6.2 1 (((s53_6.2 1) * 6364136223846793005) + 1442695040888963407)))) ((zup (o_Model_dropOld (o_Model_copy s19_2.2.1 54 55) 55) 55 24 0), s19_2.2.2) (zcn (h 51 1))).1 55 (o_Model_all h)) 55).2), (zrep (fun (i53_6 : Nat) (s53_6 : zHp × zLg) => ((zup s53_6.1 55 i53_6 (Int64.toInt32 (zlrem (zlshr ((zupg s53_6.2 1 (((s53_6.2 1) * 6364136223846793005) + 1442695040888963407)) 1) 33) (Int32.toInt64 (h 53 i53_6))))), (zupg s53_6.2 1 (((s53_6.2 1) * 6364136223846793005) + 1442695040888963407)))) ((zup (o_Model_dropOld (o_Model_copy s19_2.2.1 54 55) 55) 55 24 0), s19_2.2.2) (zcn (h 51 1))).2)) (0, h, g) (zcn m)).2.1, (zrep (fun (i19_2 : Nat) (s19_2 : Int32 × zHp × zLg) => ((s19_2.1 + (if ((o_Model_runOf (o_Model_layNear (zrep (fun (i53_6 : Nat) (s53_6 : zHp × zLg) => ((zup s53_6.1 55 i53_6 (Int64.toInt32 (zlrem (zlshr ((zupg s53_6.2 1 (((s53_6.2 1) * 6364136223846793005) + 1442695040888963407)) 1) 33) (Int32.toInt64 (h 53 i53_6))))), (zupg s53_6.2 1 (((s53_6.2 1) * 6364136223846793005) + 1442695040888963407)))) ((zup (o_Model_dropOld (o_Model_copy s19_2.2.1 54 55) 55) 55 24 0), s19_2.2.2) (zcn (h 51 1))).1 55 (o_Model_all h)) 55).1) = (-9) then 40 else ((o_Model_runOf (o_Model_layNear (zrep (fun (i53_6 : Nat) (s53_6 : zHp × zLg) => ((zup s53_6.1 55 i53_6 (Int64.toInt32 (zlrem (zlshr ((zupg s53_6.2 1 (((s53_6.2 1) * 6364136223846793005) + 1442695040888963407)) 1) 33) (Int32.toInt64 (h 53 i53_6))))), (zupg s53_6.2 1 (((s53_6.2 1) * 6364136223846793005) + 1442695040888963407)))) ((zup (o_Model_dropOld (o_Model_copy s19_2.2.1 54 55) 55) 55 24 0), s19_2.2.2) (zcn (h 51 1))).1 55 (o_Model_all h)) 55).1))), ((o_Model_runOf (o_Model_layNear (zrep (fun (i53_6 : Nat) (s53_6 : zHp × zLg) => ((zup s53_6.1 55 i53_6 (Int64.toInt32 (zlrem (zlshr ((zupg s53_6.2 1 (((s53_6.2 1) * 6364136223846793005) + 1442695040888963407)) 1) 33) (Int32.toInt64 (h 53 i53_6))))), (zupg s53_6.2 1 (((s53_6.2 1) * 6364136223846793005) + 1442695040888963407)))) ((zup (o_Model_dropOld (o_Model_copy s19_2.2.1 54 55) 55) 55 24 0), s19_2.2.2) (zcn (h 51 1))).1 55 (o_Model_all h)) 55).2), (zrep (fun (i53_6 : Nat) (s53_6 : zHp × zLg) => ((zup s53_6.1 55 i53_6 (Int64.toInt32 (zlrem (zlshr ((zupg s53_6.2 1 (((s53_6.2 1) * 6364136223846793005) + 1442695040888963407)) 1) 33) (Int32.toInt64 (h 53 i53_6))))), (zupg s53_6.2 1 (((s53_6.2 1) * 6364136223846793005) + 1442695040888963407)))) ((zup (o_Model_dropOld (o_Model_copy s19_2.2.1 54 55) 55) 55 24 0), s19_2.2.2) (zcn (h 51 1))).2)) (0, h, g) (zcn m)).2.2) else ((-2), h, g))
theorem fr_Model_drawn {h : zHp} {g : zLg} {m : Int32} (c k : Nat) (q0 : ¬ (c = 51 ∧ k = 9)) (q1 : c ≠ 66) (q2 : c ≠ 55) (q3 : ¬ (c = 51 ∧ k = 10)) (q4 : ¬ (c = 51 ∧ k = 11)) (q5 : c ≠ 67) (q6 : c ≠ 68) : (o_Model_drawn h g m).2.1 c k = h c k := by
  unfold o_Model_drawn
  by_cases f1 : (o_Model_in (Int32.toInt64 m) 1 10) = true
  · rw [if_pos f1]
    have hI19_2 := zrep_inv (f := (fun (i19_2 : Nat) (s19_2 : Int32 × zHp × zLg) => ((s19_2.1 + (if ((o_Model_runOf (o_Model_layNear (zrep (fun (i53_6 : Nat) (s53_6 : zHp × zLg) => ((zup s53_6.1 55 i53_6 (Int64.toInt32 (zlrem (zlshr ((zupg s53_6.2 1 (((s53_6.2 1) * 6364136223846793005) + 1442695040888963407)) 1) 33) (Int32.toInt64 (h 53 i53_6))))), (zupg s53_6.2 1 (((s53_6.2 1) * 6364136223846793005) + 1442695040888963407)))) ((zup (o_Model_dropOld (o_Model_copy s19_2.2.1 54 55) 55) 55 24 0), s19_2.2.2) (zcn (h 51 1))).1 55 (o_Model_all h)) 55).1) = (-9) then 40 else ((o_Model_runOf (o_Model_layNear (zrep (fun (i53_6 : Nat) (s53_6 : zHp × zLg) => ((zup s53_6.1 55 i53_6 (Int64.toInt32 (zlrem (zlshr ((zupg s53_6.2 1 (((s53_6.2 1) * 6364136223846793005) + 1442695040888963407)) 1) 33) (Int32.toInt64 (h 53 i53_6))))), (zupg s53_6.2 1 (((s53_6.2 1) * 6364136223846793005) + 1442695040888963407)))) ((zup (o_Model_dropOld (o_Model_copy s19_2.2.1 54 55) 55) 55 24 0), s19_2.2.2) (zcn (h 51 1))).1 55 (o_Model_all h)) 55).1))), ((o_Model_runOf (o_Model_layNear (zrep (fun (i53_6 : Nat) (s53_6 : zHp × zLg) => ((zup s53_6.1 55 i53_6 (Int64.toInt32 (zlrem (zlshr ((zupg s53_6.2 1 (((s53_6.2 1) * 6364136223846793005) + 1442695040888963407)) 1) 33) (Int32.toInt64 (h 53 i53_6))))), (zupg s53_6.2 1 (((s53_6.2 1) * 6364136223846793005) + 1442695040888963407)))) ((zup (o_Model_dropOld (o_Model_copy s19_2.2.1 54 55) 55) 55 24 0), s19_2.2.2) (zcn (h 51 1))).1 55 (o_Model_all h)) 55).2), (zrep (fun (i53_6 : Nat) (s53_6 : zHp × zLg) => ((zup s53_6.1 55 i53_6 (Int64.toInt32 (zlrem (zlshr ((zupg s53_6.2 1 (((s53_6.2 1) * 6364136223846793005) + 1442695040888963407)) 1) 33) (Int32.toInt64 (h 53 i53_6))))), (zupg s53_6.2 1 (((s53_6.2 1) * 6364136223846793005) + 1442695040888963407)))) ((zup (o_Model_dropOld (o_Model_copy s19_2.2.1 54 55) 55) 55 24 0), s19_2.2.2) (zcn (h 51 1))).2))) (a := (0, h, g)) (fun _ s19_2 => ∀ c k : Nat, ¬ (c = 51 ∧ k = 9) → c ≠ 66 → c ≠ 55 → ¬ (c = 51 ∧ k = 10) → ¬ (c = 51 ∧ k = 11) → c ≠ 67 → c ≠ 68 → s19_2.2.1 c k = h c k) (zcn m) (fun _ _ _ _ _ _ _ _ _ => (by dsimp only)) (fun i19_2 s19_2 hi19_2 hI19_2 => (by
      have hI53_6 := zrep_inv (f := (fun (i53_6 : Nat) (s53_6 : zHp × zLg) => ((zup s53_6.1 55 i53_6 (Int64.toInt32 (zlrem (zlshr ((zupg s53_6.2 1 (((s53_6.2 1) * 6364136223846793005) + 1442695040888963407)) 1) 33) (Int32.toInt64 (h 53 i53_6))))), (zupg s53_6.2 1 (((s53_6.2 1) * 6364136223846793005) + 1442695040888963407))))) (a := ((zup (o_Model_dropOld (o_Model_copy s19_2.2.1 54 55) 55) 55 24 0), s19_2.2.2)) (fun _ s53_6 => ∀ c k : Nat, ¬ (c = 51 ∧ k = 9) → c ≠ 66 → c ≠ 55 → ¬ (c = 51 ∧ k = 10) → ¬ (c = 51 ∧ k = 11) → c ≠ 67 → c ≠ 68 → s53_6.1 c k = (zup (o_Model_dropOld (o_Model_copy s19_2.2.1 54 55) 55) 55 24 0) c k) (zcn (h 51 1)) (fun _ _ _ _ _ _ _ _ _ => (by dsimp only)) (fun i53_6 s53_6 hi53_6 hI53_6 => (fun c k q0 q1 q2 q3 q4 q5 q6 => (by (try dsimp only); exact ((zup_fr (Or.inl (by assumption))).trans (hI53_6 _ _ (by assumption) (by assumption) (by assumption) (by assumption) (by assumption) (by assumption) (by assumption))))))
      exact fun c k q0 q1 q2 q3 q4 q5 q6 => (by (try dsimp only); exact ((fr_Model_runOf _ _ (by assumption) (by assumption) (by assumption) (by assumption) (by assumption)).trans ((fr_Model_layNear _ _ (by assumption) (by assumption)).trans ((hI53_6 _ _ (by assumption) (by assumption) (by assumption) (by assumption) (by assumption) (by assumption) (by assumption)).trans ((zup_fr (Or.inl (by assumption))).trans ((fr_Model_dropOld _ _ (by assumption)).trans ((fr_Model_copy _ _ (by assumption)).trans (hI19_2 _ _ (by assumption) (by assumption) (by assumption) (by assumption) (by assumption) (by assumption) (by assumption)))))))))))
    try dsimp only
    first | done | exact (hI19_2 _ _ (by assumption) (by assumption) (by assumption) (by assumption) (by assumption) (by assumption) (by assumption))
  · rw [if_neg f1]
    try dsimp only
    first | done | exact rfl
set_option maxHeartbeats 400000 in
set_option maxRecDepth 20000 in
theorem c_Model_drawn (X : zXT) (h : zHp) (g : zLg) (m : Int32) (hf0 : zfit h 51 1 8) (hper : zper h) : zDi X M_Model_drawn 8 [zR X 51, .int m] h g (zI ((o_Model_drawn h g m).1)) ((o_Model_drawn h g m).2.1) ((o_Model_drawn h g m).2.2) := by
  have hf0_1 := hf0.1
  refine zDi_of "PeriodSlotsModel" prog_9_method_76_code 5 (some .int) rfl (by decide) [zO X 51, zI m, none, none, none] rfl (fun _ q => q) (Nat.le_of_ble_eq_true rfl) ?_
  intro Γ Q C hQ
  refine zr_iload_n C d_X7_drawn_0 rfl ?_
  refine zr_i2l C d_X7_drawn_1 ?_
  refine zr_lconst C (v := 1) d_X7_drawn_2 (by decide) ?_
  refine zr_ldc2 C (v := 10) m1127 d_X7_drawn_3 ?_
  refine zr_callSi (As := [.long (Int32.toInt64 m), .long 1, .long 10]) (st := []) C (c_Model_in X h g (Int32.toInt64 m) 1 10) k_Model_in m856 m857 rfl (by decide) rfl (Nat.le_of_ble_eq_true rfl) d_X7_drawn_6 ?_
  refine zr_ifz_ne C 15 d_X7_drawn_9 (by decide) (fun c9 => ?_) (fun c9 => ?_)
  · have ex1 := zin (N := 10) c9 (by decide) (by decide)
    have ex1_2 := ex1.2
    refine zr_iconst C (v := 0) d_X7_drawn_15 (by decide) ?_
    refine zr_istore_n C [zO X 51, zI m, zI 0, none, none] d_X7_drawn_16 (Nat.le_of_ble_eq_true rfl) rfl rfl ?_
    refine zr_iconst C (v := 0) d_X7_drawn_17 (by decide) ?_
    refine zr_istore_n C [zO X 51, zI m, zI 0, zI 0, none] d_X7_drawn_18 (Nat.le_of_ble_eq_true rfl) rfl rfl ?_
    refine zfor (f := (fun (i19_2 : Nat) (s19_2 : Int32 × zHp × zLg) => ((s19_2.1 + (if ((o_Model_runOf (o_Model_layNear (zrep (fun (i53_6 : Nat) (s53_6 : zHp × zLg) => ((zup s53_6.1 55 i53_6 (Int64.toInt32 (zlrem (zlshr ((zupg s53_6.2 1 (((s53_6.2 1) * 6364136223846793005) + 1442695040888963407)) 1) 33) (Int32.toInt64 (h 53 i53_6))))), (zupg s53_6.2 1 (((s53_6.2 1) * 6364136223846793005) + 1442695040888963407)))) ((zup (o_Model_dropOld (o_Model_copy s19_2.2.1 54 55) 55) 55 24 0), s19_2.2.2) (zcn (h 51 1))).1 55 (o_Model_all h)) 55).1) = (-9) then 40 else ((o_Model_runOf (o_Model_layNear (zrep (fun (i53_6 : Nat) (s53_6 : zHp × zLg) => ((zup s53_6.1 55 i53_6 (Int64.toInt32 (zlrem (zlshr ((zupg s53_6.2 1 (((s53_6.2 1) * 6364136223846793005) + 1442695040888963407)) 1) 33) (Int32.toInt64 (h 53 i53_6))))), (zupg s53_6.2 1 (((s53_6.2 1) * 6364136223846793005) + 1442695040888963407)))) ((zup (o_Model_dropOld (o_Model_copy s19_2.2.1 54 55) 55) 55 24 0), s19_2.2.2) (zcn (h 51 1))).1 55 (o_Model_all h)) 55).1))), ((o_Model_runOf (o_Model_layNear (zrep (fun (i53_6 : Nat) (s53_6 : zHp × zLg) => ((zup s53_6.1 55 i53_6 (Int64.toInt32 (zlrem (zlshr ((zupg s53_6.2 1 (((s53_6.2 1) * 6364136223846793005) + 1442695040888963407)) 1) 33) (Int32.toInt64 (h 53 i53_6))))), (zupg s53_6.2 1 (((s53_6.2 1) * 6364136223846793005) + 1442695040888963407)))) ((zup (o_Model_dropOld (o_Model_copy s19_2.2.1 54 55) 55) 55 24 0), s19_2.2.2) (zcn (h 51 1))).1 55 (o_Model_all h)) 55).2), (zrep (fun (i53_6 : Nat) (s53_6 : zHp × zLg) => ((zup s53_6.1 55 i53_6 (Int64.toInt32 (zlrem (zlshr ((zupg s53_6.2 1 (((s53_6.2 1) * 6364136223846793005) + 1442695040888963407)) 1) 33) (Int32.toInt64 (h 53 i53_6))))), (zupg s53_6.2 1 (((s53_6.2 1) * 6364136223846793005) + 1442695040888963407)))) ((zup (o_Model_dropOld (o_Model_copy s19_2.2.1 54 55) 55) 55 24 0), s19_2.2.2) (zcn (h 51 1))).2))) (a := (0, h, g)) (fun i19_2 s19_2 => zV X Γ Q 19 [zO X 51, zI m, zI s19_2.1, zI (nI i19_2), none] [] s19_2.2.1 s19_2.2.2) (fun _ s19_2 => ∀ c k : Nat, ¬ (c = 51 ∧ k = 9) → c ≠ 66 → c ≠ 55 → ¬ (c = 51 ∧ k = 10) → ¬ (c = 51 ∧ k = 11) → c ≠ 67 → c ≠ 68 → s19_2.2.1 c k = h c k) (zcn m) (fun _ _ _ _ _ _ _ _ _ => (by dsimp only)) (fun i19_2 s19_2 hi19_2 hI19_2 => ⟨(by
      have hI53_6 := zrep_inv (f := (fun (i53_6 : Nat) (s53_6 : zHp × zLg) => ((zup s53_6.1 55 i53_6 (Int64.toInt32 (zlrem (zlshr ((zupg s53_6.2 1 (((s53_6.2 1) * 6364136223846793005) + 1442695040888963407)) 1) 33) (Int32.toInt64 (h 53 i53_6))))), (zupg s53_6.2 1 (((s53_6.2 1) * 6364136223846793005) + 1442695040888963407))))) (a := ((zup (o_Model_dropOld (o_Model_copy s19_2.2.1 54 55) 55) 55 24 0), s19_2.2.2)) (fun _ s53_6 => ∀ c k : Nat, ¬ (c = 51 ∧ k = 9) → c ≠ 66 → c ≠ 55 → ¬ (c = 51 ∧ k = 10) → ¬ (c = 51 ∧ k = 11) → c ≠ 67 → c ≠ 68 → s53_6.1 c k = (zup (o_Model_dropOld (o_Model_copy s19_2.2.1 54 55) 55) 55 24 0) c k) (zcn (h 51 1)) (fun _ _ _ _ _ _ _ _ _ => (by dsimp only)) (fun i53_6 s53_6 hi53_6 hI53_6 => (fun c k q0 q1 q2 q3 q4 q5 q6 => (by (try dsimp only); exact ((zup_fr (Or.inl (by assumption))).trans (hI53_6 _ _ (by assumption) (by assumption) (by assumption) (by assumption) (by assumption) (by assumption) (by assumption))))))
      exact fun c k q0 q1 q2 q3 q4 q5 q6 => (by (try dsimp only); exact ((fr_Model_runOf _ _ (by assumption) (by assumption) (by assumption) (by assumption) (by assumption)).trans ((fr_Model_layNear _ _ (by assumption) (by assumption)).trans ((hI53_6 _ _ (by assumption) (by assumption) (by assumption) (by assumption) (by assumption) (by assumption) (by assumption)).trans ((zup_fr (Or.inl (by assumption))).trans ((fr_Model_dropOld _ _ (by assumption)).trans ((fr_Model_copy _ _ (by assumption)).trans (hI19_2 _ _ (by assumption) (by assumption) (by assumption) (by assumption) (by assumption) (by assumption) (by assumption)))))))))), fun hk19_2 => ?_⟩) (fun r19_2 er19_2 hI19_2 => ?_)
    · refine zr_iload_n C d_X7_drawn_19 rfl ?_
      refine zr_iload_n C d_X7_drawn_20 rfl ?_
      refine zr_icmp_ge C 153 d_X7_drawn_21 (by decide) (fun c => absurd c (zge_no rfl (by omega))) (fun _ => ?_)
      refine zr_aload_n C d_X7_drawn_24 rfl ?_
      refine gf_Model_4 C m757 d_X7_drawn_25 ?_
      refine zr_aload_n C d_X7_drawn_28 rfl ?_
      refine gf_Model_5 C m758 d_X7_drawn_29 ?_
      refine zr_callSv (As := [zR X 54, zR X 55]) (st := []) C (c_Model_copy X s19_2.2.1 s19_2.2.2 54 55 (by decide) (by decide)) k_Model_copy m1027 m1028 rfl (by decide) rfl (Nat.le_of_ble_eq_true rfl) d_X7_drawn_32 ?_
      refine zr_h (fun h3 eh3 => ?_)
      refine zr_aload_n C d_X7_drawn_35 rfl ?_
      refine gf_Model_5 C m758 d_X7_drawn_36 ?_
      refine zr_callSv (As := [zR X 55]) (st := []) C (c_Model_dropOld X h3 s19_2.2.2 55 (by decide)) k_Model_dropOld m1000 m1001 rfl (by decide) rfl (Nat.le_of_ble_eq_true rfl) d_X7_drawn_39 ?_
      refine zr_h (fun h4 eh4 => ?_)
      refine zr_aload_n C d_X7_drawn_42 rfl ?_
      refine gf_Model_5 C m758 d_X7_drawn_43 ?_
      refine zr_bipush C (v := 24) d_X7_drawn_46 (by decide) ?_
      refine zr_iconst C (v := 0) d_X7_drawn_48 (by decide) ?_
      refine zr_iast C za_55 (24) rfl (by omega) (by decide) d_X7_drawn_49 ?_
      refine zr_h (fun h5 eh5 => ?_)
      refine zr_iconst C (v := 0) d_X7_drawn_50 (by decide) ?_
      refine zr_istore C [zO X 51, zI m, zI s19_2.1, zI (nI i19_2), zI 0] d_X7_drawn_51 (Nat.le_of_ble_eq_true rfl) rfl rfl ?_
      refine zfor (f := (fun (i53_6 : Nat) (s53_6 : zHp × zLg) => ((zup s53_6.1 55 i53_6 (Int64.toInt32 (zlrem (zlshr ((zupg s53_6.2 1 (((s53_6.2 1) * 6364136223846793005) + 1442695040888963407)) 1) 33) (Int32.toInt64 (h 53 i53_6))))), (zupg s53_6.2 1 (((s53_6.2 1) * 6364136223846793005) + 1442695040888963407))))) (a := (h5, s19_2.2.2)) (fun i53_6 s53_6 => zV X Γ Q 53 [zO X 51, zI m, zI s19_2.1, zI (nI i19_2), zI (nI i53_6)] [] s53_6.1 s53_6.2) (fun _ s53_6 => ∀ c k : Nat, ¬ (c = 51 ∧ k = 9) → c ≠ 66 → c ≠ 55 → ¬ (c = 51 ∧ k = 10) → ¬ (c = 51 ∧ k = 11) → c ≠ 67 → c ≠ 68 → s53_6.1 c k = h5 c k) (zcn (h 51 1)) (fun _ _ _ _ _ _ _ _ _ => (by dsimp only)) (fun i53_6 s53_6 hi53_6 hI53_6 => ⟨(fun c k q0 q1 q2 q3 q4 q5 q6 => (by (try dsimp only); exact ((zup_fr (Or.inl (by assumption))).trans (hI53_6 _ _ (by assumption) (by assumption) (by assumption) (by assumption) (by assumption) (by assumption) (by assumption))))), fun hk53_6 => ?_⟩) (fun r53_6 er53_6 hI53_6 => ?_)
      · refine zr_iload C d_X7_drawn_53 rfl ?_
        refine zr_aload_n C d_X7_drawn_55 rfl ?_
        refine gf_Model_2 C m755 d_X7_drawn_56 ?_
        refine zr_top ((hI53_6 _ _ (by omega) (by omega) (by omega) (by omega) (by omega) (by omega) (by omega)).trans ((congrFun (congrFun eh5.symm _) _).trans ((zup_fr (by omega)).trans ((congrFun (congrFun eh4.symm _) _).trans ((fr_Model_dropOld _ _ (by omega)).trans ((congrFun (congrFun eh3.symm _) _).trans ((fr_Model_copy _ _ (by omega)).trans (hI19_2 _ _ (by omega) (by omega) (by omega) (by omega) (by omega) (by omega) (by omega))))))))) ?_
        refine zr_icmp_ge C 108 d_X7_drawn_59 (by decide) (fun c => absurd c (zge_no rfl (by omega))) (fun _ => ?_)
        refine zr_aload_n C d_X7_drawn_62 rfl ?_
        refine zr_aload_n C d_X7_drawn_63 rfl ?_
        refine gf_Model_16 C m769 d_X7_drawn_64 ?_
        refine zr_ldc2 C (v := 6364136223846793005) m1139 d_X7_drawn_67 ?_
        refine zr_lmul C d_X7_drawn_70 ?_
        refine zr_ldc2 C (v := 1442695040888963407) m1140 d_X7_drawn_71 ?_
        refine zr_ladd C d_X7_drawn_74 ?_
        refine pf_Model_16 C m769 d_X7_drawn_75 ?_
        refine zr_g (fun g7 eg7 => ?_)
        refine zr_aload_n C d_X7_drawn_78 rfl ?_
        refine gf_Model_5 C m758 d_X7_drawn_79 ?_
        refine zr_iload C d_X7_drawn_82 rfl ?_
        refine zr_aload_n C d_X7_drawn_84 rfl ?_
        refine gf_Model_16 C m769 d_X7_drawn_85 ?_
        refine zr_bipush C (v := 33) d_X7_drawn_88 (by decide) ?_
        refine zr_lushr C d_X7_drawn_90 ?_
        refine zr_aload_n C d_X7_drawn_91 rfl ?_
        refine gf_Model_3 C m756 d_X7_drawn_92 ?_
        refine zr_iload C d_X7_drawn_95 rfl ?_
        refine zr_iald C za_53 (i53_6) rfl (by omega) (by decide) d_X7_drawn_97 ?_
        refine zr_top ((hI53_6 _ _ (by omega) (by omega) (by omega) (by omega) (by omega) (by omega) (by omega)).trans ((congrFun (congrFun eh5.symm _) _).trans ((zup_fr (by omega)).trans ((congrFun (congrFun eh4.symm _) _).trans ((fr_Model_dropOld _ _ (by omega)).trans ((congrFun (congrFun eh3.symm _) _).trans ((fr_Model_copy _ _ (by omega)).trans (hI19_2 _ _ (by omega) (by omega) (by omega) (by omega) (by omega) (by omega) (by omega))))))))) ?_
        refine zr_i2l C d_X7_drawn_98 ?_
        refine zr_lrem C d_X7_drawn_99 (zi2l_ne (hper i53_6 (by omega))) ?_
        refine zr_l2i C d_X7_drawn_100 ?_
        refine zr_iast C za_55 (i53_6) rfl (by omega) (by decide) d_X7_drawn_101 ?_
        refine zr_h (fun h8 eh8 => ?_)
        refine zr_iinc C [zO X 51, zI m, zI s19_2.1, zI (nI i19_2), zI (nI (i53_6 + 1))] (v := (nI (i53_6 + 1))) d_X7_drawn_102 rfl (zn_add rfl rfl) (Nat.le_of_ble_eq_true rfl) rfl rfl ?_
        refine zr_goto C 53 d_X7_drawn_105 (by decide) ?_
        exact hk53_6 (h8, g7) (by subst eh8 eg7; exact rfl)
      refine zr_iload C d_X7_drawn_53 rfl ?_
      refine zr_aload_n C d_X7_drawn_55 rfl ?_
      refine gf_Model_2 C m755 d_X7_drawn_56 ?_
      refine zr_top ((hI53_6 _ _ (by omega) (by omega) (by omega) (by omega) (by omega) (by omega) (by omega)).trans ((congrFun (congrFun eh5.symm _) _).trans ((zup_fr (by omega)).trans ((congrFun (congrFun eh4.symm _) _).trans ((fr_Model_dropOld _ _ (by omega)).trans ((congrFun (congrFun eh3.symm _) _).trans ((fr_Model_copy _ _ (by omega)).trans (hI19_2 _ _ (by omega) (by omega) (by omega) (by omega) (by omega) (by omega) (by omega))))))))) ?_
      refine zr_icmp_ge C 108 d_X7_drawn_59 (by decide) (fun _ => ?_) (fun c => absurd (zge_yes rfl (by omega) (by have := zcn_small (h 51 1); omega)) c)
      refine zr_aload_n C d_X7_drawn_108 rfl ?_
      refine zr_aload_n C d_X7_drawn_109 rfl ?_
      refine gf_Model_5 C m758 d_X7_drawn_110 ?_
      refine zr_aload_n C d_X7_drawn_113 rfl ?_
      refine zr_callVi (As := []) (st := [zR X 55, zR X 51]) (c := 51) C (c_Model_all X r53_6.1 r53_6.2 ) k_Model_all m901 m903 m25 (by decide) (zC_Model X _ _) rfl rfl (by decide) rfl (Nat.le_of_ble_eq_true rfl) d_X7_drawn_114 ?_
      refine zr_top (rd_Model_all ((hI53_6 _ _ (by omega) (by omega) (by omega) (by omega) (by omega) (by omega) (by omega)).trans ((congrFun (congrFun eh5.symm _) _).trans ((zup_fr (by omega)).trans ((congrFun (congrFun eh4.symm _) _).trans ((fr_Model_dropOld _ _ (by omega)).trans ((congrFun (congrFun eh3.symm _) _).trans ((fr_Model_copy _ _ (by omega)).trans (hI19_2 _ _ (by omega) (by omega) (by omega) (by omega) (by omega) (by omega) (by omega)))))))))) ?_
      refine zr_callVv (As := [zR X 55, .int (o_Model_all h)]) (st := []) (c := 51) C (c_Model_layNear X r53_6.1 r53_6.2 55 (o_Model_all h) (by decide) (zfit_fr ((hI53_6 _ _ (by omega) (by omega) (by omega) (by omega) (by omega) (by omega) (by omega)).trans ((congrFun (congrFun eh5.symm _) _).trans ((zup_fr (by omega)).trans ((congrFun (congrFun eh4.symm _) _).trans ((fr_Model_dropOld _ _ (by omega)).trans ((congrFun (congrFun eh3.symm _) _).trans ((fr_Model_copy _ _ (by omega)).trans (hI19_2 _ _ (by omega) (by omega) (by omega) (by omega) (by omega) (by omega) (by omega))))))))) hf0)) k_Model_layNear m905 m907 m26 (by decide) (zC_Model X _ _) rfl rfl (by decide) rfl (Nat.le_of_ble_eq_true rfl) d_X7_drawn_117 ?_
      refine zr_h (fun h9 eh9 => ?_)
      refine zr_aload_n C d_X7_drawn_120 rfl ?_
      refine zr_aload_n C d_X7_drawn_121 rfl ?_
      refine gf_Model_5 C m758 d_X7_drawn_122 ?_
      refine zr_callVi (As := [zR X 55]) (st := []) (c := 51) C (c_Model_runOf X h9 r53_6.2 55 (by decide) (zfit_fr ((congrFun (congrFun eh9.symm _) _).trans ((fr_Model_layNear _ _ (by omega) (by omega)).trans ((hI53_6 _ _ (by omega) (by omega) (by omega) (by omega) (by omega) (by omega) (by omega)).trans ((congrFun (congrFun eh5.symm _) _).trans ((zup_fr (by omega)).trans ((congrFun (congrFun eh4.symm _) _).trans ((fr_Model_dropOld _ _ (by omega)).trans ((congrFun (congrFun eh3.symm _) _).trans ((fr_Model_copy _ _ (by omega)).trans (hI19_2 _ _ (by omega) (by omega) (by omega) (by omega) (by omega) (by omega) (by omega))))))))))) hf0) (zper_fr ((congrFun (congrFun eh9.symm _) _).trans ((fr_Model_layNear _ _ (by omega) (by omega)).trans ((hI53_6 _ _ (by omega) (by omega) (by omega) (by omega) (by omega) (by omega) (by omega)).trans ((congrFun (congrFun eh5.symm _) _).trans ((zup_fr (by omega)).trans ((congrFun (congrFun eh4.symm _) _).trans ((fr_Model_dropOld _ _ (by omega)).trans ((congrFun (congrFun eh3.symm _) _).trans ((fr_Model_copy _ _ (by omega)).trans (hI19_2 _ _ (by omega) (by omega) (by omega) (by omega) (by omega) (by omega) (by omega))))))))))) (fun v => ((congrFun (congrFun eh9.symm _) _).trans ((fr_Model_layNear _ _ (by omega) (by omega)).trans ((hI53_6 _ _ (by omega) (by omega) (by omega) (by omega) (by omega) (by omega) (by omega)).trans ((congrFun (congrFun eh5.symm _) _).trans ((zup_fr (by omega)).trans ((congrFun (congrFun eh4.symm _) _).trans ((fr_Model_dropOld _ _ (by omega)).trans ((congrFun (congrFun eh3.symm _) _).trans ((fr_Model_copy _ _ (by omega)).trans (hI19_2 _ _ (by omega) (by omega) (by omega) (by omega) (by omega) (by omega) (by omega)))))))))))) hper)) k_Model_runOf m1034 m1036 m45 (by decide) (zC_Model X _ _) rfl rfl (by decide) rfl (Nat.le_of_ble_eq_true rfl) d_X7_drawn_125 ?_
      refine zr_vi (fun y10 ey10 => ?_)
      refine zr_h (fun h11 eh11 => ?_)
      refine zr_istore C [zO X 51, zI m, zI s19_2.1, zI (nI i19_2), zI y10] d_X7_drawn_128 (Nat.le_of_ble_eq_true rfl) rfl rfl ?_
      refine zr_iload_n C d_X7_drawn_130 rfl ?_
      refine zr_iload C d_X7_drawn_131 rfl ?_
      refine zr_bipush C (v := (-9)) d_X7_drawn_133 (by decide) ?_
      suffices hJ135 : ∀ (y12 : Int32), (if y10 = (-9) then 40 else y10) = y12 → zV X Γ Q 145 [zO X 51, zI m, none, zI (nI i19_2), none] [.int y12, .int s19_2.1] h11 r53_6.2 by
        refine zr_icmp_ne C 143 d_X7_drawn_135 (by decide) (fun c135 => ?_) (fun c135 => ?_)
        · refine zr_iload C d_X7_drawn_143 rfl ?_
          refine zr_lv [zO X 51, zI m, none, zI (nI i19_2), none] (by simp [zle]) ?_
          exact hJ135 y10 (((if_neg c135)))
        · refine zr_bipush C (v := 40) d_X7_drawn_138 (by decide) ?_
          refine zr_goto C 145 d_X7_drawn_140 (by decide) ?_
          refine zr_lv [zO X 51, zI m, none, zI (nI i19_2), none] (by simp [zle]) ?_
          exact hJ135 40 (((if_pos c135)))
      intro y12 ey12
      refine zr_iadd C d_X7_drawn_145 ?_
      refine zr_istore_n C [zO X 51, zI m, zI (s19_2.1 + y12), zI (nI i19_2), none] d_X7_drawn_146 (Nat.le_of_ble_eq_true rfl) rfl rfl ?_
      refine zr_iinc C [zO X 51, zI m, zI (s19_2.1 + y12), zI (nI (i19_2 + 1)), none] (v := (nI (i19_2 + 1))) d_X7_drawn_147 rfl (zn_add rfl rfl) (Nat.le_of_ble_eq_true rfl) rfl rfl ?_
      refine zr_goto C 19 d_X7_drawn_150 (by decide) ?_
      exact hk19_2 ((s19_2.1 + y12), h11, r53_6.2) (by subst ey12 eh11 ey10 eh9 er53_6 eh5 eh4 eh3; exact rfl)
    refine zr_iload_n C d_X7_drawn_19 rfl ?_
    refine zr_iload_n C d_X7_drawn_20 rfl ?_
    refine zr_icmp_ge C 153 d_X7_drawn_21 (by decide) (fun _ => ?_) (fun c => absurd (zge_yes rfl (by omega) (by have := zcn_small m; omega)) c)
    refine zr_iload_n C d_X7_drawn_153 rfl ?_
    have eR : o_Model_drawn h g m = (r19_2.1, r19_2.2.1, r19_2.2.2) := (by subst er19_2; unfold o_Model_drawn; rw [if_pos c9])
    subst hQ
    exact zTQ_Ihg eR (zr_ireti C d_X7_drawn_154)
  · refine zr_bipush C (v := (-2)) d_X7_drawn_12 (by decide) ?_
    have eR : o_Model_drawn h g m = ((-2), h, g) := (by unfold o_Model_drawn; rw [if_neg (zbf c9)])
    subst hQ
    exact zTQ_Ihg eR (zr_ireti C d_X7_drawn_14)
theorem d_X7_keep_0 : decode prog_9_method_77_code 0 = .ok (.iload_n 1, 1) := by decide +kernel
theorem d_X7_keep_1 : decode prog_9_method_77_code 1 = .ok (.i2l, 1) := by decide +kernel
theorem d_X7_keep_2 : decode prog_9_method_77_code 2 = .ok (.lconst 0, 1) := by decide +kernel
theorem d_X7_keep_3 : decode prog_9_method_77_code 3 = .ok (.lconst 1, 1) := by decide +kernel
theorem d_X7_keep_4 : decode prog_9_method_77_code 4 = .ok (.invokestatic 76, 3) := by decide +kernel
theorem d_X7_keep_7 : decode prog_9_method_77_code 7 = .ok (.ifCond .ne 5, 3) := by decide +kernel
theorem d_X7_keep_10 : decode prog_9_method_77_code 10 = .ok (.iconst (-1), 1) := by decide +kernel
theorem d_X7_keep_11 : decode prog_9_method_77_code 11 = .ok (.ireturn, 1) := by decide +kernel
theorem d_X7_keep_12 : decode prog_9_method_77_code 12 = .ok (.aload_n 0, 1) := by decide +kernel
theorem d_X7_keep_13 : decode prog_9_method_77_code 13 = .ok (.getfield 31, 3) := by decide +kernel
theorem d_X7_keep_16 : decode prog_9_method_77_code 16 = .ok (.iload_n 1, 1) := by decide +kernel
theorem d_X7_keep_17 : decode prog_9_method_77_code 17 = .ok (.iconst 1, 1) := by decide +kernel
theorem d_X7_keep_18 : decode prog_9_method_77_code 18 = .ok (.bastore, 1) := by decide +kernel
theorem d_X7_keep_19 : decode prog_9_method_77_code 19 = .ok (.iconst 0, 1) := by decide +kernel
theorem d_X7_keep_20 : decode prog_9_method_77_code 20 = .ok (.istore_n 2, 1) := by decide +kernel
theorem d_X7_keep_21 : decode prog_9_method_77_code 21 = .ok (.iload_n 2, 1) := by decide +kernel
theorem d_X7_keep_22 : decode prog_9_method_77_code 22 = .ok (.bipush 25, 2) := by decide +kernel
theorem d_X7_keep_24 : decode prog_9_method_77_code 24 = .ok (.if_icmp .ge 26, 3) := by decide +kernel
theorem d_X7_keep_27 : decode prog_9_method_77_code 27 = .ok (.aload_n 0, 1) := by decide +kernel
theorem d_X7_keep_28 : decode prog_9_method_77_code 28 = .ok (.getfield 28, 3) := by decide +kernel
theorem d_X7_keep_31 : decode prog_9_method_77_code 31 = .ok (.bipush 25, 2) := by decide +kernel
theorem d_X7_keep_33 : decode prog_9_method_77_code 33 = .ok (.iload_n 1, 1) := by decide +kernel
theorem d_X7_keep_34 : decode prog_9_method_77_code 34 = .ok (.imul, 1) := by decide +kernel
theorem d_X7_keep_35 : decode prog_9_method_77_code 35 = .ok (.iload_n 2, 1) := by decide +kernel
theorem d_X7_keep_36 : decode prog_9_method_77_code 36 = .ok (.iadd, 1) := by decide +kernel
theorem d_X7_keep_37 : decode prog_9_method_77_code 37 = .ok (.aload_n 0, 1) := by decide +kernel
theorem d_X7_keep_38 : decode prog_9_method_77_code 38 = .ok (.getfield 16, 3) := by decide +kernel
theorem d_X7_keep_41 : decode prog_9_method_77_code 41 = .ok (.iload_n 2, 1) := by decide +kernel
theorem d_X7_keep_42 : decode prog_9_method_77_code 42 = .ok (.iaload, 1) := by decide +kernel
theorem d_X7_keep_43 : decode prog_9_method_77_code 43 = .ok (.iastore, 1) := by decide +kernel
theorem d_X7_keep_44 : decode prog_9_method_77_code 44 = .ok (.iinc 2 1, 3) := by decide +kernel
theorem d_X7_keep_47 : decode prog_9_method_77_code 47 = .ok (.goto (-26), 3) := by decide +kernel
theorem d_X7_keep_50 : decode prog_9_method_77_code 50 = .ok (.aload_n 0, 1) := by decide +kernel
theorem d_X7_keep_51 : decode prog_9_method_77_code 51 = .ok (.getfield 72, 3) := by decide +kernel
theorem d_X7_keep_54 : decode prog_9_method_77_code 54 = .ok (.ireturn, 1) := by decide +kernel
abbrev M_Model_keep : zMT := (⟨"PeriodSlotsModel", "keep", "(I)I"⟩, prog_9_method_77_code, 3, (some .int))
theorem k_Model_keep : zcall M_Model_keep 1 := ⟨zU_in (i := 1144) (by decide +kernel) rfl, m62, ⟨by decide, by decide, by decide +kernel⟩, by decide⟩
def o_Model_keep (h : zHp) (slot : Int32) : Int32 × zHp :=
  (if (o_Model_in (Int32.toInt64 slot) 0 1) = true then ((h 51 1), (zrep (fun (i21_3 : Nat) (s21_3 : zHp) => (zup s21_3 58 ((25 * (zcn slot)) + i21_3) (h 54 i21_3))) (zup h 59 (zcn slot) 1) 25)) else ((-1), h))
theorem fr_Model_keep {h : zHp} {slot : Int32} (c k : Nat) (q0 : c ≠ 58) (q1 : c ≠ 59) : (o_Model_keep h slot).2 c k = h c k := by
  unfold o_Model_keep
  by_cases f1 : (o_Model_in (Int32.toInt64 slot) 0 1) = true
  · rw [if_pos f1]
    have hI21_3 := zrep_inv (f := (fun (i21_3 : Nat) (s21_3 : zHp) => (zup s21_3 58 ((25 * (zcn slot)) + i21_3) (h 54 i21_3)))) (a := (zup h 59 (zcn slot) 1)) (fun _ s21_3 => ∀ c k : Nat, c ≠ 58 → c ≠ 59 → s21_3 c k = (zup h 59 (zcn slot) 1) c k) (25) (fun _ _ _ _ => rfl) (fun i21_3 s21_3 hi21_3 hI21_3 => (fun c k q0 q1 => (by (try dsimp only); exact ((zup_fr (Or.inl (by assumption))).trans (hI21_3 _ _ (by assumption) (by assumption))))))
    try dsimp only
    first | done | exact ((hI21_3 _ _ (by assumption) (by assumption)).trans (zup_fr (Or.inl (by assumption))))
  · rw [if_neg f1]
    try dsimp only
    first | done | exact rfl
set_option maxHeartbeats 400000 in
set_option maxRecDepth 20000 in
theorem c_Model_keep (X : zXT) (h : zHp) (g : zLg) (slot : Int32) : zDi X M_Model_keep 1 [zR X 51, .int slot] h g (zI ((o_Model_keep h slot).1)) ((o_Model_keep h slot).2) g := by
  refine zDi_of "PeriodSlotsModel" prog_9_method_77_code 3 (some .int) rfl (by decide) [zO X 51, zI slot, none] rfl (fun _ q => q) (Nat.le_of_ble_eq_true rfl) ?_
  intro Γ Q C hQ
  refine zr_iload_n C d_X7_keep_0 rfl ?_
  refine zr_i2l C d_X7_keep_1 ?_
  refine zr_lconst C (v := 0) d_X7_keep_2 (by decide) ?_
  refine zr_lconst C (v := 1) d_X7_keep_3 (by decide) ?_
  refine zr_callSi (As := [.long (Int32.toInt64 slot), .long 0, .long 1]) (st := []) C (c_Model_in X h g (Int32.toInt64 slot) 0 1) k_Model_in m856 m857 rfl (by decide) rfl (Nat.le_of_ble_eq_true rfl) d_X7_keep_4 ?_
  refine zr_ifz_ne C 12 d_X7_keep_7 (by decide) (fun c7 => ?_) (fun c7 => ?_)
  · have ex1 := zin (N := 1) c7 (by decide) (by decide)
    have ex1_2 := ex1.2
    refine zr_aload_n C d_X7_keep_12 rfl ?_
    refine gf_Model_11 C m764 d_X7_keep_13 ?_
    refine zr_iload_n C d_X7_keep_16 rfl ?_
    refine zr_iconst C (v := 1) d_X7_keep_17 (by decide) ?_
    refine zr_zast C (zcn slot) (zix ex1.1) (by omega) (Or.inr rfl) d_X7_keep_18 ?_
    refine zr_h (fun h2 eh2 => ?_)
    refine zr_iconst C (v := 0) d_X7_keep_19 (by decide) ?_
    refine zr_istore_n C [zO X 51, zI slot, zI 0] d_X7_keep_20 (Nat.le_of_ble_eq_true rfl) rfl rfl ?_
    refine zfor (f := (fun (i21_3 : Nat) (s21_3 : zHp) => (zup s21_3 58 ((25 * (zcn slot)) + i21_3) (h 54 i21_3)))) (a := h2) (fun i21_3 s21_3 => zV X Γ Q 21 [zO X 51, zI slot, zI (nI i21_3)] [] s21_3 g) (fun _ s21_3 => ∀ c k : Nat, c ≠ 58 → c ≠ 59 → s21_3 c k = h2 c k) (25) (fun _ _ _ _ => rfl) (fun i21_3 s21_3 hi21_3 hI21_3 => ⟨(fun c k q0 q1 => (by (try dsimp only); exact ((zup_fr (Or.inl (by assumption))).trans (hI21_3 _ _ (by assumption) (by assumption))))), fun hk21_3 => ?_⟩) (fun r21_3 er21_3 hI21_3 => ?_)
    · refine zr_iload_n C d_X7_keep_21 rfl ?_
      refine zr_bipush C (v := 25) d_X7_keep_22 (by decide) ?_
      refine zr_icmp_ge C 50 d_X7_keep_24 (by decide) (fun c => absurd c (zge_noN (B := 25) rfl (by omega) (by omega))) (fun _ => ?_)
      refine zr_aload_n C d_X7_keep_27 rfl ?_
      refine gf_Model_10 C m763 d_X7_keep_28 ?_
      refine zr_bipush C (v := 25) d_X7_keep_31 (by decide) ?_
      refine zr_iload_n C d_X7_keep_33 rfl ?_
      refine zr_imul C d_X7_keep_34 ?_
      refine zr_iload_n C d_X7_keep_35 rfl ?_
      refine zr_iadd C d_X7_keep_36 ?_
      refine zr_aload_n C d_X7_keep_37 rfl ?_
      refine gf_Model_4 C m757 d_X7_keep_38 ?_
      refine zr_iload_n C d_X7_keep_41 rfl ?_
      refine zr_iald C za_54 (i21_3) rfl (by omega) (by decide) d_X7_keep_42 ?_
      refine zr_top ((hI21_3 _ _ (by omega) (by omega)).trans ((congrFun (congrFun eh2.symm _) _).trans (zup_fr (by omega)))) ?_
      refine zr_iast C za_58 ((25 * (zcn slot)) + i21_3) (zn_add (zn_mul rfl (zix ex1.1)) rfl) (by omega) (by decide) d_X7_keep_43 ?_
      refine zr_h (fun h4 eh4 => ?_)
      refine zr_iinc C [zO X 51, zI slot, zI (nI (i21_3 + 1))] (v := (nI (i21_3 + 1))) d_X7_keep_44 rfl (zn_add rfl rfl) (Nat.le_of_ble_eq_true rfl) rfl rfl ?_
      refine zr_goto C 21 d_X7_keep_47 (by decide) ?_
      exact hk21_3 h4 (by subst eh4; exact rfl)
    refine zr_iload_n C d_X7_keep_21 rfl ?_
    refine zr_bipush C (v := 25) d_X7_keep_22 (by decide) ?_
    refine zr_icmp_ge C 50 d_X7_keep_24 (by decide) (fun _ => ?_) (fun c => absurd (zge_yesN (B := 25) rfl (by omega) (by omega)) c)
    refine zr_aload_n C d_X7_keep_50 rfl ?_
    refine gf_Model_2 C m755 d_X7_keep_51 ?_
    refine zr_top ((hI21_3 _ _ (by omega) (by omega)).trans ((congrFun (congrFun eh2.symm _) _).trans (zup_fr (by omega)))) ?_
    have eR : o_Model_keep h slot = ((h 51 1), r21_3) := (by subst er21_3 eh2; unfold o_Model_keep; rw [if_pos c7])
    subst hQ
    exact zTQ_Ih eR (zr_ireti C d_X7_keep_54)
  · refine zr_iconst C (v := (-1)) d_X7_keep_10 (by decide) ?_
    have eR : o_Model_keep h slot = ((-1), h) := (by unfold o_Model_keep; rw [if_neg (zbf c7)])
    subst hQ
    exact zTQ_Ih eR (zr_ireti C d_X7_keep_11)
theorem d_X7_again_0 : decode prog_9_method_78_code 0 = .ok (.iload_n 1, 1) := by decide +kernel
theorem d_X7_again_1 : decode prog_9_method_78_code 1 = .ok (.i2l, 1) := by decide +kernel
theorem d_X7_again_2 : decode prog_9_method_78_code 2 = .ok (.lconst 0, 1) := by decide +kernel
theorem d_X7_again_3 : decode prog_9_method_78_code 3 = .ok (.lconst 1, 1) := by decide +kernel
theorem d_X7_again_4 : decode prog_9_method_78_code 4 = .ok (.invokestatic 76, 3) := by decide +kernel
theorem d_X7_again_7 : decode prog_9_method_78_code 7 = .ok (.ifCond .ne 5, 3) := by decide +kernel
theorem d_X7_again_10 : decode prog_9_method_78_code 10 = .ok (.iconst (-1), 1) := by decide +kernel
theorem d_X7_again_11 : decode prog_9_method_78_code 11 = .ok (.ireturn, 1) := by decide +kernel
theorem d_X7_again_12 : decode prog_9_method_78_code 12 = .ok (.aload_n 0, 1) := by decide +kernel
theorem d_X7_again_13 : decode prog_9_method_78_code 13 = .ok (.getfield 31, 3) := by decide +kernel
theorem d_X7_again_16 : decode prog_9_method_78_code 16 = .ok (.iload_n 1, 1) := by decide +kernel
theorem d_X7_again_17 : decode prog_9_method_78_code 17 = .ok (.baload, 1) := by decide +kernel
theorem d_X7_again_18 : decode prog_9_method_78_code 18 = .ok (.ifCond .ne 6, 3) := by decide +kernel
theorem d_X7_again_21 : decode prog_9_method_78_code 21 = .ok (.bipush (-3), 2) := by decide +kernel
theorem d_X7_again_23 : decode prog_9_method_78_code 23 = .ok (.ireturn, 1) := by decide +kernel
theorem d_X7_again_24 : decode prog_9_method_78_code 24 = .ok (.iconst 0, 1) := by decide +kernel
theorem d_X7_again_25 : decode prog_9_method_78_code 25 = .ok (.istore_n 2, 1) := by decide +kernel
theorem d_X7_again_26 : decode prog_9_method_78_code 26 = .ok (.iload_n 2, 1) := by decide +kernel
theorem d_X7_again_27 : decode prog_9_method_78_code 27 = .ok (.bipush 25, 2) := by decide +kernel
theorem d_X7_again_29 : decode prog_9_method_78_code 29 = .ok (.if_icmp .ge 26, 3) := by decide +kernel
theorem d_X7_again_32 : decode prog_9_method_78_code 32 = .ok (.aload_n 0, 1) := by decide +kernel
theorem d_X7_again_33 : decode prog_9_method_78_code 33 = .ok (.getfield 16, 3) := by decide +kernel
theorem d_X7_again_36 : decode prog_9_method_78_code 36 = .ok (.iload_n 2, 1) := by decide +kernel
theorem d_X7_again_37 : decode prog_9_method_78_code 37 = .ok (.aload_n 0, 1) := by decide +kernel
theorem d_X7_again_38 : decode prog_9_method_78_code 38 = .ok (.getfield 28, 3) := by decide +kernel
theorem d_X7_again_41 : decode prog_9_method_78_code 41 = .ok (.bipush 25, 2) := by decide +kernel
theorem d_X7_again_43 : decode prog_9_method_78_code 43 = .ok (.iload_n 1, 1) := by decide +kernel
theorem d_X7_again_44 : decode prog_9_method_78_code 44 = .ok (.imul, 1) := by decide +kernel
theorem d_X7_again_45 : decode prog_9_method_78_code 45 = .ok (.iload_n 2, 1) := by decide +kernel
theorem d_X7_again_46 : decode prog_9_method_78_code 46 = .ok (.iadd, 1) := by decide +kernel
theorem d_X7_again_47 : decode prog_9_method_78_code 47 = .ok (.iaload, 1) := by decide +kernel
theorem d_X7_again_48 : decode prog_9_method_78_code 48 = .ok (.iastore, 1) := by decide +kernel
theorem d_X7_again_49 : decode prog_9_method_78_code 49 = .ok (.iinc 2 1, 3) := by decide +kernel
theorem d_X7_again_52 : decode prog_9_method_78_code 52 = .ok (.goto (-26), 3) := by decide +kernel
theorem d_X7_again_55 : decode prog_9_method_78_code 55 = .ok (.aload_n 0, 1) := by decide +kernel
theorem d_X7_again_56 : decode prog_9_method_78_code 56 = .ok (.iconst 0, 1) := by decide +kernel
theorem d_X7_again_57 : decode prog_9_method_78_code 57 = .ok (.putfield 124, 3) := by decide +kernel
theorem d_X7_again_60 : decode prog_9_method_78_code 60 = .ok (.aload_n 0, 1) := by decide +kernel
theorem d_X7_again_61 : decode prog_9_method_78_code 61 = .ok (.getfield 72, 3) := by decide +kernel
theorem d_X7_again_64 : decode prog_9_method_78_code 64 = .ok (.ireturn, 1) := by decide +kernel
abbrev M_Model_again : zMT := (⟨"PeriodSlotsModel", "again", "(I)I"⟩, prog_9_method_78_code, 3, (some .int))
theorem k_Model_again : zcall M_Model_again 1 := ⟨zU_in (i := 1148) (by decide +kernel) rfl, m62, ⟨by decide, by decide, by decide +kernel⟩, by decide⟩
def o_Model_again (h : zHp) (slot : Int32) : Int32 × zHp :=
  (if (o_Model_in (Int32.toInt64 slot) 0 1) = true then (if (h 59 (zcn slot)) = 0 then ((-3), h) else ((h 51 1), (zup (zrep (fun (i26_2 : Nat) (s26_2 : zHp) => (zup s26_2 54 i26_2 (h 58 ((25 * (zcn slot)) + i26_2)))) h 25) 51 2 0))) else ((-1), h))
theorem fr_Model_again {h : zHp} {slot : Int32} (c k : Nat) (q0 : ¬ (c = 51 ∧ k = 2)) (q1 : c ≠ 54) : (o_Model_again h slot).2 c k = h c k := by
  unfold o_Model_again
  by_cases f1 : (o_Model_in (Int32.toInt64 slot) 0 1) = true
  · rw [if_pos f1]
    by_cases f2 : (h 59 (zcn slot)) = 0
    · rw [if_pos f2]
      try dsimp only
      first | done | exact rfl
    · rw [if_neg f2]
      have hI26_2 := zrep_inv (f := (fun (i26_2 : Nat) (s26_2 : zHp) => (zup s26_2 54 i26_2 (h 58 ((25 * (zcn slot)) + i26_2))))) (a := h) (fun _ s26_2 => ∀ c k : Nat, ¬ (c = 51 ∧ k = 2) → c ≠ 54 → s26_2 c k = h c k) (25) (fun _ _ _ _ => rfl) (fun i26_2 s26_2 hi26_2 hI26_2 => (fun c k q0 q1 => (by (try dsimp only); exact ((zup_fr (Or.inl (by assumption))).trans (hI26_2 _ _ (by assumption) (by assumption))))))
      try dsimp only
      first | done | exact ((zup_fr (by omega)).trans (hI26_2 _ _ (by assumption) (by assumption)))
  · rw [if_neg f1]
    try dsimp only
    first | done | exact rfl
set_option maxHeartbeats 400000 in
set_option maxRecDepth 20000 in
theorem c_Model_again (X : zXT) (h : zHp) (g : zLg) (slot : Int32) : zDi X M_Model_again 1 [zR X 51, .int slot] h g (zI ((o_Model_again h slot).1)) ((o_Model_again h slot).2) g := by
  refine zDi_of "PeriodSlotsModel" prog_9_method_78_code 3 (some .int) rfl (by decide) [zO X 51, zI slot, none] rfl (fun _ q => q) (Nat.le_of_ble_eq_true rfl) ?_
  intro Γ Q C hQ
  refine zr_iload_n C d_X7_again_0 rfl ?_
  refine zr_i2l C d_X7_again_1 ?_
  refine zr_lconst C (v := 0) d_X7_again_2 (by decide) ?_
  refine zr_lconst C (v := 1) d_X7_again_3 (by decide) ?_
  refine zr_callSi (As := [.long (Int32.toInt64 slot), .long 0, .long 1]) (st := []) C (c_Model_in X h g (Int32.toInt64 slot) 0 1) k_Model_in m856 m857 rfl (by decide) rfl (Nat.le_of_ble_eq_true rfl) d_X7_again_4 ?_
  refine zr_ifz_ne C 12 d_X7_again_7 (by decide) (fun c7 => ?_) (fun c7 => ?_)
  · have ex1 := zin (N := 1) c7 (by decide) (by decide)
    have ex1_2 := ex1.2
    refine zr_aload_n C d_X7_again_12 rfl ?_
    refine gf_Model_11 C m764 d_X7_again_13 ?_
    refine zr_iload_n C d_X7_again_16 rfl ?_
    refine zr_zald C (zcn slot) (zix ex1.1) (by omega) d_X7_again_17 ?_
    refine zr_if_ne C 24 d_X7_again_18 (by decide) (fun c18 => ?_) (fun c18 => ?_)
    · refine zr_iconst C (v := 0) d_X7_again_24 (by decide) ?_
      refine zr_istore_n C [zO X 51, zI slot, zI 0] d_X7_again_25 (Nat.le_of_ble_eq_true rfl) rfl rfl ?_
      refine zfor (f := (fun (i26_2 : Nat) (s26_2 : zHp) => (zup s26_2 54 i26_2 (h 58 ((25 * (zcn slot)) + i26_2))))) (a := h) (fun i26_2 s26_2 => zV X Γ Q 26 [zO X 51, zI slot, zI (nI i26_2)] [] s26_2 g) (fun _ s26_2 => ∀ c k : Nat, ¬ (c = 51 ∧ k = 2) → c ≠ 54 → s26_2 c k = h c k) (25) (fun _ _ _ _ => rfl) (fun i26_2 s26_2 hi26_2 hI26_2 => ⟨(fun c k q0 q1 => (by (try dsimp only); exact ((zup_fr (Or.inl (by assumption))).trans (hI26_2 _ _ (by assumption) (by assumption))))), fun hk26_2 => ?_⟩) (fun r26_2 er26_2 hI26_2 => ?_)
      · refine zr_iload_n C d_X7_again_26 rfl ?_
        refine zr_bipush C (v := 25) d_X7_again_27 (by decide) ?_
        refine zr_icmp_ge C 55 d_X7_again_29 (by decide) (fun c => absurd c (zge_noN (B := 25) rfl (by omega) (by omega))) (fun _ => ?_)
        refine zr_aload_n C d_X7_again_32 rfl ?_
        refine gf_Model_4 C m757 d_X7_again_33 ?_
        refine zr_iload_n C d_X7_again_36 rfl ?_
        refine zr_aload_n C d_X7_again_37 rfl ?_
        refine gf_Model_10 C m763 d_X7_again_38 ?_
        refine zr_bipush C (v := 25) d_X7_again_41 (by decide) ?_
        refine zr_iload_n C d_X7_again_43 rfl ?_
        refine zr_imul C d_X7_again_44 ?_
        refine zr_iload_n C d_X7_again_45 rfl ?_
        refine zr_iadd C d_X7_again_46 ?_
        refine zr_iald C za_58 ((25 * (zcn slot)) + i26_2) (zn_add (zn_mul rfl (zix ex1.1)) rfl) (by omega) (by decide) d_X7_again_47 ?_
        refine zr_top (hI26_2 _ _ (by omega) (by omega)) ?_
        refine zr_iast C za_54 (i26_2) rfl (by omega) (by decide) d_X7_again_48 ?_
        refine zr_h (fun h3 eh3 => ?_)
        refine zr_iinc C [zO X 51, zI slot, zI (nI (i26_2 + 1))] (v := (nI (i26_2 + 1))) d_X7_again_49 rfl (zn_add rfl rfl) (Nat.le_of_ble_eq_true rfl) rfl rfl ?_
        refine zr_goto C 26 d_X7_again_52 (by decide) ?_
        exact hk26_2 h3 (by subst eh3; exact rfl)
      refine zr_iload_n C d_X7_again_26 rfl ?_
      refine zr_bipush C (v := 25) d_X7_again_27 (by decide) ?_
      refine zr_icmp_ge C 55 d_X7_again_29 (by decide) (fun _ => ?_) (fun c => absurd (zge_yesN (B := 25) rfl (by omega) (by omega)) c)
      refine zr_aload_n C d_X7_again_55 rfl ?_
      refine zr_iconst C (v := 0) d_X7_again_56 (by decide) ?_
      refine pf_Model_8 C m761 d_X7_again_57 ?_
      refine zr_h (fun h4 eh4 => ?_)
      refine zr_aload_n C d_X7_again_60 rfl ?_
      refine gf_Model_2 C m755 d_X7_again_61 ?_
      refine zr_top ((congrFun (congrFun eh4.symm _) _).trans ((zup_fr (by omega)).trans (hI26_2 _ _ (by omega) (by omega)))) ?_
      have eR : o_Model_again h slot = ((h 51 1), h4) := (by subst eh4 er26_2; unfold o_Model_again; rw [if_pos c7, if_neg c18])
      subst hQ
      exact zTQ_Ih eR (zr_ireti C d_X7_again_64)
    · refine zr_bipush C (v := (-3)) d_X7_again_21 (by decide) ?_
      have eR : o_Model_again h slot = ((-3), h) := (by unfold o_Model_again; rw [if_pos c7, if_pos c18])
      subst hQ
      exact zTQ_Ih eR (zr_ireti C d_X7_again_23)
  · refine zr_iconst C (v := (-1)) d_X7_again_10 (by decide) ?_
    have eR : o_Model_again h slot = ((-1), h) := (by unfold o_Model_again; rw [if_neg (zbf c7)])
    subst hQ
    exact zTQ_Ih eR (zr_ireti C d_X7_again_11)
