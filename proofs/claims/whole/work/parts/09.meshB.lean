/-! Walks of methods, by program (wip/whole/gen). -/
theorem d_X1_add_0 : decode prog_3_method_5_code 0 = .ok (.aload_n 0, 1) := by decide +kernel
theorem d_X1_add_1 : decode prog_3_method_5_code 1 = .ok (.getfield 45, 3) := by decide +kernel
theorem d_X1_add_4 : decode prog_3_method_5_code 4 = .ok (.bipush 8, 2) := by decide +kernel
theorem d_X1_add_6 : decode prog_3_method_5_code 6 = .ok (.if_icmp .lt 4, 3) := by decide +kernel
theorem d_X1_add_9 : decode prog_3_method_5_code 9 = .ok (.return_, 1) := by decide +kernel
theorem d_X1_add_10 : decode prog_3_method_5_code 10 = .ok (.aload_n 0, 1) := by decide +kernel
theorem d_X1_add_11 : decode prog_3_method_5_code 11 = .ok (.getfield 9, 3) := by decide +kernel
theorem d_X1_add_14 : decode prog_3_method_5_code 14 = .ok (.aload_n 0, 1) := by decide +kernel
theorem d_X1_add_15 : decode prog_3_method_5_code 15 = .ok (.getfield 45, 3) := by decide +kernel
theorem d_X1_add_18 : decode prog_3_method_5_code 18 = .ok (.iload_n 1, 1) := by decide +kernel
theorem d_X1_add_19 : decode prog_3_method_5_code 19 = .ok (.iastore, 1) := by decide +kernel
theorem d_X1_add_20 : decode prog_3_method_5_code 20 = .ok (.aload_n 0, 1) := by decide +kernel
theorem d_X1_add_21 : decode prog_3_method_5_code 21 = .ok (.getfield 24, 3) := by decide +kernel
theorem d_X1_add_24 : decode prog_3_method_5_code 24 = .ok (.aload_n 0, 1) := by decide +kernel
theorem d_X1_add_25 : decode prog_3_method_5_code 25 = .ok (.getfield 45, 3) := by decide +kernel
theorem d_X1_add_28 : decode prog_3_method_5_code 28 = .ok (.iconst 0, 1) := by decide +kernel
theorem d_X1_add_29 : decode prog_3_method_5_code 29 = .ok (.iastore, 1) := by decide +kernel
theorem d_X1_add_30 : decode prog_3_method_5_code 30 = .ok (.iconst 0, 1) := by decide +kernel
theorem d_X1_add_31 : decode prog_3_method_5_code 31 = .ok (.istore_n 3, 1) := by decide +kernel
theorem d_X1_add_32 : decode prog_3_method_5_code 32 = .ok (.iload_n 3, 1) := by decide +kernel
theorem d_X1_add_33 : decode prog_3_method_5_code 33 = .ok (.bipush 8, 2) := by decide +kernel
theorem d_X1_add_35 : decode prog_3_method_5_code 35 = .ok (.if_icmp .ge 36, 3) := by decide +kernel
theorem d_X1_add_38 : decode prog_3_method_5_code 38 = .ok (.aload_n 0, 1) := by decide +kernel
theorem d_X1_add_39 : decode prog_3_method_5_code 39 = .ok (.aload_n 0, 1) := by decide +kernel
theorem d_X1_add_40 : decode prog_3_method_5_code 40 = .ok (.getfield 45, 3) := by decide +kernel
theorem d_X1_add_43 : decode prog_3_method_5_code 43 = .ok (.iload_n 3, 1) := by decide +kernel
theorem d_X1_add_44 : decode prog_3_method_5_code 44 = .ok (.invokevirtual 62, 3) := by decide +kernel
theorem d_X1_add_47 : decode prog_3_method_5_code 47 = .ok (.ifCond .ne 18, 3) := by decide +kernel
theorem d_X1_add_50 : decode prog_3_method_5_code 50 = .ok (.aload_n 0, 1) := by decide +kernel
theorem d_X1_add_51 : decode prog_3_method_5_code 51 = .ok (.getfield 24, 3) := by decide +kernel
theorem d_X1_add_54 : decode prog_3_method_5_code 54 = .ok (.aload_n 0, 1) := by decide +kernel
theorem d_X1_add_55 : decode prog_3_method_5_code 55 = .ok (.getfield 45, 3) := by decide +kernel
theorem d_X1_add_58 : decode prog_3_method_5_code 58 = .ok (.dup2, 1) := by decide +kernel
theorem d_X1_add_59 : decode prog_3_method_5_code 59 = .ok (.iaload, 1) := by decide +kernel
theorem d_X1_add_60 : decode prog_3_method_5_code 60 = .ok (.iconst 1, 1) := by decide +kernel
theorem d_X1_add_61 : decode prog_3_method_5_code 61 = .ok (.iload_n 3, 1) := by decide +kernel
theorem d_X1_add_62 : decode prog_3_method_5_code 62 = .ok (.ishl, 1) := by decide +kernel
theorem d_X1_add_63 : decode prog_3_method_5_code 63 = .ok (.ior, 1) := by decide +kernel
theorem d_X1_add_64 : decode prog_3_method_5_code 64 = .ok (.iastore, 1) := by decide +kernel
theorem d_X1_add_65 : decode prog_3_method_5_code 65 = .ok (.iinc 3 1, 3) := by decide +kernel
theorem d_X1_add_68 : decode prog_3_method_5_code 68 = .ok (.goto (-36), 3) := by decide +kernel
theorem d_X1_add_71 : decode prog_3_method_5_code 71 = .ok (.aload_n 0, 1) := by decide +kernel
theorem d_X1_add_72 : decode prog_3_method_5_code 72 = .ok (.getfield 15, 3) := by decide +kernel
theorem d_X1_add_75 : decode prog_3_method_5_code 75 = .ok (.aload_n 0, 1) := by decide +kernel
theorem d_X1_add_76 : decode prog_3_method_5_code 76 = .ok (.getfield 45, 3) := by decide +kernel
theorem d_X1_add_79 : decode prog_3_method_5_code 79 = .ok (.iconst 0, 1) := by decide +kernel
theorem d_X1_add_80 : decode prog_3_method_5_code 80 = .ok (.iastore, 1) := by decide +kernel
theorem d_X1_add_81 : decode prog_3_method_5_code 81 = .ok (.aload_n 0, 1) := by decide +kernel
theorem d_X1_add_82 : decode prog_3_method_5_code 82 = .ok (.getfield 18, 3) := by decide +kernel
theorem d_X1_add_85 : decode prog_3_method_5_code 85 = .ok (.aload_n 0, 1) := by decide +kernel
theorem d_X1_add_86 : decode prog_3_method_5_code 86 = .ok (.getfield 45, 3) := by decide +kernel
theorem d_X1_add_89 : decode prog_3_method_5_code 89 = .ok (.iload_n 2, 1) := by decide +kernel
theorem d_X1_add_90 : decode prog_3_method_5_code 90 = .ok (.iastore, 1) := by decide +kernel
theorem d_X1_add_91 : decode prog_3_method_5_code 91 = .ok (.aload_n 0, 1) := by decide +kernel
theorem d_X1_add_92 : decode prog_3_method_5_code 92 = .ok (.dup, 1) := by decide +kernel
theorem d_X1_add_93 : decode prog_3_method_5_code 93 = .ok (.getfield 45, 3) := by decide +kernel
theorem d_X1_add_96 : decode prog_3_method_5_code 96 = .ok (.iconst 1, 1) := by decide +kernel
theorem d_X1_add_97 : decode prog_3_method_5_code 97 = .ok (.iadd, 1) := by decide +kernel
theorem d_X1_add_98 : decode prog_3_method_5_code 98 = .ok (.putfield 45, 3) := by decide +kernel
theorem d_X1_add_101 : decode prog_3_method_5_code 101 = .ok (.aload_n 0, 1) := by decide +kernel
theorem d_X1_add_102 : decode prog_3_method_5_code 102 = .ok (.invokevirtual 66, 3) := by decide +kernel
theorem d_X1_add_105 : decode prog_3_method_5_code 105 = .ok (.aload_n 0, 1) := by decide +kernel
theorem d_X1_add_106 : decode prog_3_method_5_code 106 = .ok (.invokevirtual 69, 3) := by decide +kernel
theorem d_X1_add_109 : decode prog_3_method_5_code 109 = .ok (.return_, 1) := by decide +kernel
abbrev M_Mesh_add : zMT := (⟨"PeriodSlots$Mesh", "add", "(II)V"⟩, prog_3_method_5_code, 4, none)
theorem k_Mesh_add : zcall M_Mesh_add 2 := ⟨zU_in (i := 293) (by decide +kernel) rfl, m56, ⟨by decide, by decide, by decide +kernel⟩, by decide⟩
def o_Mesh_add (h : zHp) (b : Nat) (period : Int32) (offset : Int32) : zHp :=
  (if (h b 0) < 8 then (o_Mesh_relate (o_Mesh_dropOlds (zup (zup (zup (zrep (fun (i32_4 : Nat) (s32_4 : zHp) => (if (o_Mesh_wrapped (zup h (b + 1) (zcn (h b 0)) period) b (zcn (h b 0)) (nI i32_4)) = 0 then (zup s32_4 (b + 5) (zcn (h b 0)) ((s32_4 (b + 5) (zcn (h b 0))) ||| (zshl 1 (nI i32_4)))) else s32_4)) (zup (zup h (b + 1) (zcn (h b 0)) period) (b + 5) (zcn (h b 0)) 0) 8) (b + 2) (zcn (h b 0)) 0) (b + 3) (zcn (h b 0)) offset) b 0 ((h b 0) + 1)) b) b) else h)
theorem fr_Mesh_add {h : zHp} {b : Nat} {period : Int32} {offset : Int32} (c k : Nat) (q0 : ¬ (c = b ∧ k = 0)) (q1 : c ≠ b + 1) (q2 : c ≠ b + 2) (q3 : c ≠ b + 3) (q4 : c ≠ b + 4) (q5 : c ≠ b + 5) (q6 : c ≠ b + 6) (q7 : c ≠ b + 7) (q8 : c ≠ b + 8) (q9 : c ≠ b + 9) (q10 : c ≠ b + 10) : (o_Mesh_add h b period offset) c k = h c k := by
  unfold o_Mesh_add
  by_cases f1 : (h b 0) < 8
  · rw [if_pos f1]
    have hI32_4 := zrep_inv (f := (fun (i32_4 : Nat) (s32_4 : zHp) => (if (o_Mesh_wrapped (zup h (b + 1) (zcn (h b 0)) period) b (zcn (h b 0)) (nI i32_4)) = 0 then (zup s32_4 (b + 5) (zcn (h b 0)) ((s32_4 (b + 5) (zcn (h b 0))) ||| (zshl 1 (nI i32_4)))) else s32_4))) (a := (zup (zup h (b + 1) (zcn (h b 0)) period) (b + 5) (zcn (h b 0)) 0)) (fun _ s32_4 => ∀ c k : Nat, c ≠ b + 5 → s32_4 c k = (zup (zup h (b + 1) (zcn (h b 0)) period) (b + 5) (zcn (h b 0)) 0) c k) (8) (fun _ _ _ => rfl) (fun i32_4 s32_4 hi32_4 hI32_4 => (fun c k q0 => (by (try dsimp only); exact (zite_fr (fun _ => ((zup_fr (Or.inl (by assumption))).trans (hI32_4 _ _ (by assumption)))) (fun _ => (hI32_4 _ _ (by assumption)))))))
    first | done | exact ((fr_Mesh_relate _ _ (by assumption) (by assumption) (by assumption)).trans ((fr_Mesh_dropOlds _ _ (by assumption) (by assumption) (by assumption)).trans ((zup_fr (by omega)).trans ((zup_fr (Or.inl (by assumption))).trans ((zup_fr (Or.inl (by assumption))).trans ((hI32_4 _ _ (by assumption)).trans ((zup_fr (Or.inl (by assumption))).trans (zup_fr (Or.inl (by assumption))))))))))
  · rw [if_neg f1]
    first | done | exact rfl
set_option maxHeartbeats 400000 in
set_option maxRecDepth 20000 in
theorem c_Mesh_add (X : zXT) (h : zHp) (g : zLg) (b : Nat) (period : Int32) (offset : Int32) (hb : b = 3 ∨ b = 15 ∨ b = 27) (hf0 : zfit h b 0 8) : zDi X M_Mesh_add 3 [zR X b, .int period, .int offset] h g none (o_Mesh_add h b period offset) g := by
  have hf0_1 := hf0.1
  refine zDi_of "PeriodSlots$Mesh" prog_3_method_5_code 4 none rfl (by decide) [zO X b, zI period, zI offset, none] rfl (fun _ q => q) (Nat.le_of_ble_eq_true rfl) ?_
  intro Γ Q C hQ
  refine zr_aload_n C d_X1_add_0 rfl ?_
  refine gf_Mesh_0 C hb m95 d_X1_add_1 ?_
  refine zr_bipush C (v := 8) d_X1_add_4 (by decide) ?_
  refine zr_icmp_lt C 10 d_X1_add_6 (by decide) (fun c6 => ?_) (fun c6 => ?_)
  · have en1 := zn_lt (a := zcn (h b 0)) (b := 8) hf0.2 rfl c6 (zcn_small _) (by decide)
    refine zr_aload_n C d_X1_add_10 rfl ?_
    refine gf_Mesh_3 C hb m104 d_X1_add_11 ?_
    refine zr_aload_n C d_X1_add_14 rfl ?_
    refine gf_Mesh_0 C hb m95 d_X1_add_15 ?_
    refine zr_iload_n C d_X1_add_18 rfl ?_
    refine zr_iast C (za_mesh_1 hb) (zcn (h b 0)) hf0.2 (by omega) (by decide) d_X1_add_19 ?_
    refine zr_h (fun h2 eh2 => ?_)
    refine zr_aload_n C d_X1_add_20 rfl ?_
    refine gf_Mesh_7 C hb m117 d_X1_add_21 ?_
    refine zr_aload_n C d_X1_add_24 rfl ?_
    refine gf_Mesh_0 C hb m95 d_X1_add_25 ?_
    refine zr_top ((congrFun (congrFun eh2.symm _) _).trans (zup_fr (by omega))) ?_
    refine zr_iconst C (v := 0) d_X1_add_28 (by decide) ?_
    refine zr_iast C (za_mesh_5 hb) (zcn (h b 0)) hf0.2 (by omega) (by decide) d_X1_add_29 ?_
    refine zr_h (fun h3 eh3 => ?_)
    refine zr_iconst C (v := 0) d_X1_add_30 (by decide) ?_
    refine zr_istore_n C [zO X b, zI period, zI offset, zI 0] d_X1_add_31 (Nat.le_of_ble_eq_true rfl) rfl rfl ?_
    refine zr_lv [zO X b, none, zI offset, zI 0] (by simp [zle]) ?_
    refine zfor (f := (fun (i32_4 : Nat) (s32_4 : zHp) => (if (o_Mesh_wrapped h2 b (zcn (h b 0)) (nI i32_4)) = 0 then (zup s32_4 (b + 5) (zcn (h b 0)) ((s32_4 (b + 5) (zcn (h b 0))) ||| (zshl 1 (nI i32_4)))) else s32_4))) (a := h3) (fun i32_4 s32_4 => zV X Γ Q 32 [zO X b, none, zI offset, zI (nI i32_4)] [] s32_4 g) (fun _ s32_4 => ∀ c k : Nat, c ≠ b + 5 → s32_4 c k = h3 c k) (8) (fun _ _ _ => rfl) (fun i32_4 s32_4 hi32_4 hI32_4 => ⟨(fun c k q0 => (by (try dsimp only); exact (zite_fr (fun _ => ((zup_fr (Or.inl (by assumption))).trans (hI32_4 _ _ (by assumption)))) (fun _ => (hI32_4 _ _ (by assumption)))))), fun hk32_4 => ?_⟩) (fun r32_4 er32_4 hI32_4 => ?_)
    · refine zr_iload_n C d_X1_add_32 rfl ?_
      refine zr_bipush C (v := 8) d_X1_add_33 (by decide) ?_
      refine zr_icmp_ge C 71 d_X1_add_35 (by decide) (fun c => absurd c (zge_noN (B := 8) rfl (by omega) (by omega))) (fun _ => ?_)
      refine zr_aload_n C d_X1_add_38 rfl ?_
      refine zr_aload_n C d_X1_add_39 rfl ?_
      refine gf_Mesh_0 C hb m95 d_X1_add_40 ?_
      refine zr_top ((hI32_4 _ _ (by omega)).trans ((congrFun (congrFun eh3.symm _) _).trans ((zup_fr (by omega)).trans ((congrFun (congrFun eh2.symm _) _).trans (zup_fr (by omega)))))) ?_
      refine zr_iload_n C d_X1_add_43 rfl ?_
      refine zr_callVi (As := [.int (h b 0), .int (nI i32_4)]) (st := []) (c := b) C (c_Mesh_wrapped X s32_4 g b (zcn (h b 0)) (nI i32_4) hf0.2 hb (by omega)) k_Mesh_wrapped m294 m295 m296 (by omega) (zC_Mesh hb X _ _) rfl rfl (by decide) rfl (Nat.le_of_ble_eq_true rfl) d_X1_add_44 ?_
      refine zr_top (rd_Mesh_wrapped (funext fun kk => ((hI32_4 _ _ (by omega)).trans ((congrFun (congrFun eh3.symm _) _).trans (zup_fr (by omega)))))) ?_
      suffices hJ47 : ∀ (h6 : zHp), (if (o_Mesh_wrapped h2 b (zcn (h b 0)) (nI i32_4)) = 0 then (zup s32_4 (b + 5) (zcn (h b 0)) ((s32_4 (b + 5) (zcn (h b 0))) ||| (zshl 1 (nI i32_4)))) else s32_4) = h6 → zV X Γ Q 65 [zO X b, none, zI offset, zI (nI i32_4)] [] h6 g by
        refine zr_if_ne C 65 d_X1_add_47 (by decide) (fun c47 => ?_) (fun c47 => ?_)
        · exact hJ47 s32_4 (((if_neg c47)))
        · refine zr_aload_n C d_X1_add_50 rfl ?_
          refine gf_Mesh_7 C hb m117 d_X1_add_51 ?_
          refine zr_aload_n C d_X1_add_54 rfl ?_
          refine gf_Mesh_0 C hb m95 d_X1_add_55 ?_
          refine zr_top ((hI32_4 _ _ (by omega)).trans ((congrFun (congrFun eh3.symm _) _).trans ((zup_fr (by omega)).trans ((congrFun (congrFun eh2.symm _) _).trans (zup_fr (by omega)))))) ?_
          refine zr_dup2 C d_X1_add_58 rfl rfl ?_
          refine zr_iald C (za_mesh_5 hb) (zcn (h b 0)) hf0.2 (by omega) (by decide) d_X1_add_59 ?_
          refine zr_iconst C (v := 1) d_X1_add_60 (by decide) ?_
          refine zr_iload_n C d_X1_add_61 rfl ?_
          refine zr_ishl C d_X1_add_62 ?_
          refine zr_ior C d_X1_add_63 ?_
          refine zr_iast C (za_mesh_5 hb) (zcn (h b 0)) hf0.2 (by omega) (by decide) d_X1_add_64 ?_
          refine zr_h (fun h5 eh5 => ?_)
          exact hJ47 h5 (by subst eh5; exact ((if_pos c47)))
      intro h6 eh6
      refine zr_iinc C [zO X b, none, zI offset, zI (nI (i32_4 + 1))] (v := (nI (i32_4 + 1))) d_X1_add_65 rfl (zn_add rfl rfl) (Nat.le_of_ble_eq_true rfl) rfl rfl ?_
      refine zr_goto C 32 d_X1_add_68 (by decide) ?_
      exact hk32_4 h6 (by subst eh6; exact rfl)
    refine zr_iload_n C d_X1_add_32 rfl ?_
    refine zr_bipush C (v := 8) d_X1_add_33 (by decide) ?_
    refine zr_icmp_ge C 71 d_X1_add_35 (by decide) (fun _ => ?_) (fun c => absurd (zge_yesN (B := 8) rfl (by omega) (by omega)) c)
    refine zr_aload_n C d_X1_add_71 rfl ?_
    refine gf_Mesh_4 C hb m107 d_X1_add_72 ?_
    refine zr_aload_n C d_X1_add_75 rfl ?_
    refine gf_Mesh_0 C hb m95 d_X1_add_76 ?_
    refine zr_top ((hI32_4 _ _ (by omega)).trans ((congrFun (congrFun eh3.symm _) _).trans ((zup_fr (by omega)).trans ((congrFun (congrFun eh2.symm _) _).trans (zup_fr (by omega)))))) ?_
    refine zr_iconst C (v := 0) d_X1_add_79 (by decide) ?_
    refine zr_iast C (za_mesh_2 hb) (zcn (h b 0)) hf0.2 (by omega) (by decide) d_X1_add_80 ?_
    refine zr_h (fun h7 eh7 => ?_)
    refine zr_aload_n C d_X1_add_81 rfl ?_
    refine gf_Mesh_5 C hb m111 d_X1_add_82 ?_
    refine zr_aload_n C d_X1_add_85 rfl ?_
    refine gf_Mesh_0 C hb m95 d_X1_add_86 ?_
    refine zr_top ((congrFun (congrFun eh7.symm _) _).trans ((zup_fr (by omega)).trans ((hI32_4 _ _ (by omega)).trans ((congrFun (congrFun eh3.symm _) _).trans ((zup_fr (by omega)).trans ((congrFun (congrFun eh2.symm _) _).trans (zup_fr (by omega)))))))) ?_
    refine zr_iload_n C d_X1_add_89 rfl ?_
    refine zr_iast C (za_mesh_3 hb) (zcn (h b 0)) hf0.2 (by omega) (by decide) d_X1_add_90 ?_
    refine zr_h (fun h8 eh8 => ?_)
    refine zr_aload_n C d_X1_add_91 rfl ?_
    refine zr_dup C d_X1_add_92 rfl ?_
    refine gf_Mesh_0 C hb m95 d_X1_add_93 ?_
    refine zr_top ((congrFun (congrFun eh8.symm _) _).trans ((zup_fr (by omega)).trans ((congrFun (congrFun eh7.symm _) _).trans ((zup_fr (by omega)).trans ((hI32_4 _ _ (by omega)).trans ((congrFun (congrFun eh3.symm _) _).trans ((zup_fr (by omega)).trans ((congrFun (congrFun eh2.symm _) _).trans (zup_fr (by omega)))))))))) ?_
    refine zr_iconst C (v := 1) d_X1_add_96 (by decide) ?_
    refine zr_iadd C d_X1_add_97 ?_
    refine pf_Mesh_0 C hb m95 d_X1_add_98 ?_
    refine zr_h (fun h9 eh9 => ?_)
    have hfh9 : zfit h9 b 0 8 := zfit_of (m := (zcn (h b 0)) + 1) ((congrFun (congrFun eh9.symm _) _).trans (zup_at.trans (zn_add hf0.2 rfl))) (by omega) (by decide)
    have hfh9_1 := hfh9.1
    refine zr_aload_n C d_X1_add_101 rfl ?_
    refine zr_callVv (As := []) (st := []) (c := b) C (c_Mesh_dropOlds X h9 g b hb hfh9) k_Mesh_dropOlds m298 m299 m300 (by omega) (zC_Mesh hb X _ _) rfl rfl (by decide) rfl (Nat.le_of_ble_eq_true rfl) d_X1_add_102 ?_
    refine zr_h (fun h10 eh10 => ?_)
    refine zr_aload_n C d_X1_add_105 rfl ?_
    refine zr_callVv (As := []) (st := []) (c := b) C (c_Mesh_relate X h10 g b hb (zfit_fr ((congrFun (congrFun eh10.symm _) _).trans (fr_Mesh_dropOlds _ _ (by omega) (by omega) (by omega))) hfh9)) k_Mesh_relate m313 m314 m315 (by omega) (zC_Mesh hb X _ _) rfl rfl (by decide) rfl (Nat.le_of_ble_eq_true rfl) d_X1_add_106 ?_
    refine zr_h (fun h11 eh11 => ?_)
    have eR : o_Mesh_add h b period offset = h11 := (by subst eh11 eh10 eh9 eh8 eh7 er32_4 eh3 eh2; unfold o_Mesh_add; rw [if_pos c6])
    subst hQ
    rw [eR]
    exact zr_vret C d_X1_add_109
  · have en12 := zn_nlt (a := zcn (h b 0)) (b := 8) hf0.2 rfl c6 (zcn_small _) (by decide)
    have eR : o_Mesh_add h b period offset = h := (by unfold o_Mesh_add; rw [if_neg c6])
    subst hQ
    rw [eR]
    exact zr_vret C d_X1_add_9
theorem d_X1_pairError_0 : decode prog_3_method_7_code 0 = .ok (.aload_n 0, 1) := by decide +kernel
theorem d_X1_pairError_1 : decode prog_3_method_7_code 1 = .ok (.iload_n 1, 1) := by decide +kernel
theorem d_X1_pairError_2 : decode prog_3_method_7_code 2 = .ok (.invokevirtual 72, 3) := by decide +kernel
theorem d_X1_pairError_5 : decode prog_3_method_7_code 5 = .ok (.ifCond .eq 11, 3) := by decide +kernel
theorem d_X1_pairError_8 : decode prog_3_method_7_code 8 = .ok (.aload_n 0, 1) := by decide +kernel
theorem d_X1_pairError_9 : decode prog_3_method_7_code 9 = .ok (.iload_n 2, 1) := by decide +kernel
theorem d_X1_pairError_10 : decode prog_3_method_7_code 10 = .ok (.invokevirtual 72, 3) := by decide +kernel
theorem d_X1_pairError_13 : decode prog_3_method_7_code 13 = .ok (.ifCond .ne 5, 3) := by decide +kernel
theorem d_X1_pairError_16 : decode prog_3_method_7_code 16 = .ok (.iconst (-1), 1) := by decide +kernel
theorem d_X1_pairError_17 : decode prog_3_method_7_code 17 = .ok (.ireturn, 1) := by decide +kernel
theorem d_X1_pairError_18 : decode prog_3_method_7_code 18 = .ok (.iload_n 1, 1) := by decide +kernel
theorem d_X1_pairError_19 : decode prog_3_method_7_code 19 = .ok (.iload_n 2, 1) := by decide +kernel
theorem d_X1_pairError_20 : decode prog_3_method_7_code 20 = .ok (.if_icmp .ne 8, 3) := by decide +kernel
theorem d_X1_pairError_23 : decode prog_3_method_7_code 23 = .ok (.bipush (-2), 2) := by decide +kernel
theorem d_X1_pairError_25 : decode prog_3_method_7_code 25 = .ok (.goto 4, 3) := by decide +kernel
theorem d_X1_pairError_28 : decode prog_3_method_7_code 28 = .ok (.iconst 0, 1) := by decide +kernel
theorem d_X1_pairError_29 : decode prog_3_method_7_code 29 = .ok (.ireturn, 1) := by decide +kernel
abbrev M_Mesh_pairError : zMT := (⟨"PeriodSlots$Mesh", "pairError", "(II)I"⟩, prog_3_method_7_code, 3, (some .int))
theorem k_Mesh_pairError : zcall M_Mesh_pairError 2 := ⟨zU_in (i := 488) (by decide +kernel) rfl, m56, ⟨by decide, by decide, by decide +kernel⟩, by decide⟩
def o_Mesh_pairError (h : zHp) (b : Nat) (i : Int32) (j : Int32) : Int32 :=
  (if (o_Mesh_exists h b i) = true then (if (o_Mesh_exists h b j) = true then (if i = j then (-2) else 0) else (-1)) else (-1))
theorem rd_Mesh_pairError {h h2 : zHp} {b : Nat} {i : Int32} {j : Int32} (e0 : h2 b 0 = h b 0) : o_Mesh_pairError h2 b i j = o_Mesh_pairError h b i j := by
  unfold o_Mesh_pairError
  simp only [e0, rd_Mesh_exists e0]

set_option maxHeartbeats 400000 in
set_option maxRecDepth 20000 in
theorem c_Mesh_pairError (X : zXT) (h : zHp) (g : zLg) (b : Nat) (i : Int32) (j : Int32) (hb : b = 3 ∨ b = 15 ∨ b = 27) : zDi X M_Mesh_pairError 1 [zR X b, .int i, .int j] h g (zI (o_Mesh_pairError h b i j)) h g := by
  refine zDi_of "PeriodSlots$Mesh" prog_3_method_7_code 3 (some .int) rfl (by decide) [zO X b, zI i, zI j] rfl (fun _ q => q) (Nat.le_of_ble_eq_true rfl) ?_
  intro Γ Q C hQ
  refine zr_aload_n C d_X1_pairError_0 rfl ?_
  refine zr_iload_n C d_X1_pairError_1 rfl ?_
  refine zr_callVi (As := [.int i]) (st := []) (c := b) C (c_Mesh_exists X h g b i hb) k_Mesh_exists m489 m359 m360 (by omega) (zC_Mesh hb X _ _) rfl rfl (by decide) rfl (Nat.le_of_ble_eq_true rfl) d_X1_pairError_2 ?_
  refine zr_ifz_eq C 16 d_X1_pairError_5 (by decide) (fun c5 => ?_) (fun c5 => ?_)
  · refine zr_iconst C (v := (-1)) d_X1_pairError_16 (by decide) ?_
    have eR : o_Mesh_pairError h b i j = (-1) := (by unfold o_Mesh_pairError; rw [if_neg (zbf c5)])
    subst hQ
    rw [eR]
    exact zr_ireti C d_X1_pairError_17
  · have ex1 := zex c5
    have ex1_2 := ex1.2
    refine zr_aload_n C d_X1_pairError_8 rfl ?_
    refine zr_iload_n C d_X1_pairError_9 rfl ?_
    refine zr_callVi (As := [.int j]) (st := []) (c := b) C (c_Mesh_exists X h g b j hb) k_Mesh_exists m489 m359 m360 (by omega) (zC_Mesh hb X _ _) rfl rfl (by decide) rfl (Nat.le_of_ble_eq_true rfl) d_X1_pairError_10 ?_
    refine zr_ifz_ne C 18 d_X1_pairError_13 (by decide) (fun c13 => ?_) (fun c13 => ?_)
    · have ex2 := zex c13
      have ex2_2 := ex2.2
      refine zr_iload_n C d_X1_pairError_18 rfl ?_
      refine zr_iload_n C d_X1_pairError_19 rfl ?_
      suffices hJ20 : ∀ (y5 : Int32), (if i = j then (-2) else 0) = y5 → zV X Γ Q 29 [none, none, none] [.int y5] h g by
        refine zr_icmp_ne C 28 d_X1_pairError_20 (by decide) (fun c20 => ?_) (fun c20 => ?_)
        · have en3 := zn_ne (a := zcn i) (b := zcn j) (zix ex1.1) (zix ex2.1) c20 (zcn_small _) (zcn_small _)
          refine zr_iconst C (v := 0) d_X1_pairError_28 (by decide) ?_
          refine zr_lv [none, none, none] (by simp [zle]) ?_
          exact hJ20 0 (((if_neg c20)))
        · have en4 := zn_nne (a := zcn i) (b := zcn j) (zix ex1.1) (zix ex2.1) c20 (zcn_small _) (zcn_small _)
          refine zr_bipush C (v := (-2)) d_X1_pairError_23 (by decide) ?_
          refine zr_goto C 29 d_X1_pairError_25 (by decide) ?_
          refine zr_lv [none, none, none] (by simp [zle]) ?_
          exact hJ20 (-2) (((if_pos c20)))
      intro y5 ey5
      have eR : o_Mesh_pairError h b i j = y5 := (by subst ey5; unfold o_Mesh_pairError; rw [if_pos c5, if_pos c13])
      subst hQ
      rw [eR]
      exact zr_ireti C d_X1_pairError_29
    · refine zr_iconst C (v := (-1)) d_X1_pairError_16 (by decide) ?_
      have eR : o_Mesh_pairError h b i j = (-1) := (by unfold o_Mesh_pairError; rw [if_pos c5, if_neg (zbf c13)])
      subst hQ
      rw [eR]
      exact zr_ireti C d_X1_pairError_17
theorem d_X1_offsetError_0 : decode prog_3_method_8_code 0 = .ok (.aload_n 0, 1) := by decide +kernel
theorem d_X1_offsetError_1 : decode prog_3_method_8_code 1 = .ok (.iload_n 1, 1) := by decide +kernel
theorem d_X1_offsetError_2 : decode prog_3_method_8_code 2 = .ok (.invokevirtual 72, 3) := by decide +kernel
theorem d_X1_offsetError_5 : decode prog_3_method_8_code 5 = .ok (.ifCond .ne 5, 3) := by decide +kernel
theorem d_X1_offsetError_8 : decode prog_3_method_8_code 8 = .ok (.iconst (-1), 1) := by decide +kernel
theorem d_X1_offsetError_9 : decode prog_3_method_8_code 9 = .ok (.ireturn, 1) := by decide +kernel
theorem d_X1_offsetError_10 : decode prog_3_method_8_code 10 = .ok (.iload_n 2, 1) := by decide +kernel
theorem d_X1_offsetError_11 : decode prog_3_method_8_code 11 = .ok (.bipush (-9), 2) := by decide +kernel
theorem d_X1_offsetError_13 : decode prog_3_method_8_code 13 = .ok (.if_icmp .eq 17, 3) := by decide +kernel
theorem d_X1_offsetError_16 : decode prog_3_method_8_code 16 = .ok (.iload_n 2, 1) := by decide +kernel
theorem d_X1_offsetError_17 : decode prog_3_method_8_code 17 = .ok (.ifCond .lt 17, 3) := by decide +kernel
theorem d_X1_offsetError_20 : decode prog_3_method_8_code 20 = .ok (.iload_n 2, 1) := by decide +kernel
theorem d_X1_offsetError_21 : decode prog_3_method_8_code 21 = .ok (.aload_n 0, 1) := by decide +kernel
theorem d_X1_offsetError_22 : decode prog_3_method_8_code 22 = .ok (.getfield 9, 3) := by decide +kernel
theorem d_X1_offsetError_25 : decode prog_3_method_8_code 25 = .ok (.iload_n 1, 1) := by decide +kernel
theorem d_X1_offsetError_26 : decode prog_3_method_8_code 26 = .ok (.iaload, 1) := by decide +kernel
theorem d_X1_offsetError_27 : decode prog_3_method_8_code 27 = .ok (.if_icmp .ge 7, 3) := by decide +kernel
theorem d_X1_offsetError_30 : decode prog_3_method_8_code 30 = .ok (.iconst 0, 1) := by decide +kernel
theorem d_X1_offsetError_31 : decode prog_3_method_8_code 31 = .ok (.goto 5, 3) := by decide +kernel
theorem d_X1_offsetError_34 : decode prog_3_method_8_code 34 = .ok (.bipush (-2), 2) := by decide +kernel
theorem d_X1_offsetError_36 : decode prog_3_method_8_code 36 = .ok (.ireturn, 1) := by decide +kernel
abbrev M_Mesh_offsetError : zMT := (⟨"PeriodSlots$Mesh", "offsetError", "(II)I"⟩, prog_3_method_8_code, 3, (some .int))
theorem k_Mesh_offsetError : zcall M_Mesh_offsetError 2 := ⟨zU_in (i := 499) (by decide +kernel) rfl, m56, ⟨by decide, by decide, by decide +kernel⟩, by decide⟩
def o_Mesh_offsetError (h : zHp) (b : Nat) (v : Int32) (offset : Int32) : Int32 :=
  (if (o_Mesh_exists h b v) = true then (if offset = (-9) then 0 else (if offset < 0 then (-2) else (if (h (b + 1) (zcn v)) ≤ offset then (-2) else 0))) else (-1))
theorem rd_Mesh_offsetError {h h2 : zHp} {b : Nat} {v : Int32} {offset : Int32} (e0 : h2 (b + 1) = h (b + 1)) (e1 : h2 b 0 = h b 0) : o_Mesh_offsetError h2 b v offset = o_Mesh_offsetError h b v offset := by
  unfold o_Mesh_offsetError
  simp only [e0, e1, rd_Mesh_exists e1]

set_option maxHeartbeats 400000 in
set_option maxRecDepth 20000 in
theorem c_Mesh_offsetError (X : zXT) (h : zHp) (g : zLg) (b : Nat) (v : Int32) (offset : Int32) (hb : b = 3 ∨ b = 15 ∨ b = 27) (hf0 : zfit h b 0 8) : zDi X M_Mesh_offsetError 1 [zR X b, .int v, .int offset] h g (zI (o_Mesh_offsetError h b v offset)) h g := by
  have hf0_1 := hf0.1
  refine zDi_of "PeriodSlots$Mesh" prog_3_method_8_code 3 (some .int) rfl (by decide) [zO X b, zI v, zI offset] rfl (fun _ q => q) (Nat.le_of_ble_eq_true rfl) ?_
  intro Γ Q C hQ
  refine zr_aload_n C d_X1_offsetError_0 rfl ?_
  refine zr_iload_n C d_X1_offsetError_1 rfl ?_
  refine zr_callVi (As := [.int v]) (st := []) (c := b) C (c_Mesh_exists X h g b v hb) k_Mesh_exists m489 m359 m360 (by omega) (zC_Mesh hb X _ _) rfl rfl (by decide) rfl (Nat.le_of_ble_eq_true rfl) d_X1_offsetError_2 ?_
  refine zr_ifz_ne C 10 d_X1_offsetError_5 (by decide) (fun c5 => ?_) (fun c5 => ?_)
  · have ex1 := zex c5
    have ex1_2 := ex1.2
    have ex1_b := (hf0).1
    refine zr_iload_n C d_X1_offsetError_10 rfl ?_
    refine zr_bipush C (v := (-9)) d_X1_offsetError_11 (by decide) ?_
    suffices hJ13 : ∀ (y2 : Int32), (if offset = (-9) then 0 else (if offset < 0 then (-2) else (if (h (b + 1) (zcn v)) ≤ offset then (-2) else 0))) = y2 → zV X Γ Q 36 [none, none, none] [.int y2] h g by
      refine zr_icmp_eq C 30 d_X1_offsetError_13 (by decide) (fun c13 => ?_) (fun c13 => ?_)
      · refine zr_iconst C (v := 0) d_X1_offsetError_30 (by decide) ?_
        refine zr_goto C 36 d_X1_offsetError_31 (by decide) ?_
        refine zr_lv [none, none, none] (by simp [zle]) ?_
        exact hJ13 0 (((if_pos c13)))
      · refine zr_iload_n C d_X1_offsetError_16 rfl ?_
        refine zr_if_lt C 34 d_X1_offsetError_17 (by decide) (fun c17 => ?_) (fun c17 => ?_)
        · refine zr_bipush C (v := (-2)) d_X1_offsetError_34 (by decide) ?_
          refine zr_lv [none, none, none] (by simp [zle]) ?_
          exact hJ13 (-2) (((if_neg c13).trans ((if_pos c17))))
        · refine zr_iload_n C d_X1_offsetError_20 rfl ?_
          refine zr_aload_n C d_X1_offsetError_21 rfl ?_
          refine gf_Mesh_3 C hb m104 d_X1_offsetError_22 ?_
          refine zr_iload_n C d_X1_offsetError_25 rfl ?_
          refine zr_iald C (za_mesh_1 hb) (zcn v) (zix ex1.1) (by omega) (by decide) d_X1_offsetError_26 ?_
          refine zr_icmp_ge C 34 d_X1_offsetError_27 (by decide) (fun c27 => ?_) (fun c27 => ?_)
          · refine zr_bipush C (v := (-2)) d_X1_offsetError_34 (by decide) ?_
            refine zr_lv [none, none, none] (by simp [zle]) ?_
            exact hJ13 (-2) (((if_neg c13).trans ((if_neg c17).trans ((if_pos c27)))))
          · refine zr_iconst C (v := 0) d_X1_offsetError_30 (by decide) ?_
            refine zr_goto C 36 d_X1_offsetError_31 (by decide) ?_
            refine zr_lv [none, none, none] (by simp [zle]) ?_
            exact hJ13 0 (((if_neg c13).trans ((if_neg c17).trans ((if_neg c27)))))
    intro y2 ey2
    have eR : o_Mesh_offsetError h b v offset = y2 := (by subst ey2; unfold o_Mesh_offsetError; rw [if_pos c5])
    subst hQ
    rw [eR]
    exact zr_ireti C d_X1_offsetError_36
  · refine zr_iconst C (v := (-1)) d_X1_offsetError_8 (by decide) ?_
    have eR : o_Mesh_offsetError h b v offset = (-1) := (by unfold o_Mesh_offsetError; rw [if_neg (zbf c5)])
    subst hQ
    rw [eR]
    exact zr_ireti C d_X1_offsetError_9
theorem d_X1_distanceError_0 : decode prog_3_method_9_code 0 = .ok (.aload_n 0, 1) := by decide +kernel
theorem d_X1_distanceError_1 : decode prog_3_method_9_code 1 = .ok (.iload_n 1, 1) := by decide +kernel
theorem d_X1_distanceError_2 : decode prog_3_method_9_code 2 = .ok (.invokevirtual 72, 3) := by decide +kernel
theorem d_X1_distanceError_5 : decode prog_3_method_9_code 5 = .ok (.ifCond .ne 5, 3) := by decide +kernel
theorem d_X1_distanceError_8 : decode prog_3_method_9_code 8 = .ok (.iconst (-1), 1) := by decide +kernel
theorem d_X1_distanceError_9 : decode prog_3_method_9_code 9 = .ok (.ireturn, 1) := by decide +kernel
theorem d_X1_distanceError_10 : decode prog_3_method_9_code 10 = .ok (.iload_n 2, 1) := by decide +kernel
theorem d_X1_distanceError_11 : decode prog_3_method_9_code 11 = .ok (.ifCond .lt 13, 3) := by decide +kernel
theorem d_X1_distanceError_14 : decode prog_3_method_9_code 14 = .ok (.iload_n 2, 1) := by decide +kernel
theorem d_X1_distanceError_15 : decode prog_3_method_9_code 15 = .ok (.bipush 8, 2) := by decide +kernel
theorem d_X1_distanceError_17 : decode prog_3_method_9_code 17 = .ok (.if_icmp .ge 7, 3) := by decide +kernel
theorem d_X1_distanceError_20 : decode prog_3_method_9_code 20 = .ok (.iconst 0, 1) := by decide +kernel
theorem d_X1_distanceError_21 : decode prog_3_method_9_code 21 = .ok (.goto 5, 3) := by decide +kernel
theorem d_X1_distanceError_24 : decode prog_3_method_9_code 24 = .ok (.bipush (-2), 2) := by decide +kernel
theorem d_X1_distanceError_26 : decode prog_3_method_9_code 26 = .ok (.ireturn, 1) := by decide +kernel
abbrev M_Mesh_distanceError : zMT := (⟨"PeriodSlots$Mesh", "distanceError", "(II)I"⟩, prog_3_method_9_code, 3, (some .int))
theorem k_Mesh_distanceError : zcall M_Mesh_distanceError 2 := ⟨zU_in (i := 511) (by decide +kernel) rfl, m56, ⟨by decide, by decide, by decide +kernel⟩, by decide⟩
def o_Mesh_distanceError (h : zHp) (b : Nat) (v : Int32) (d : Int32) : Int32 :=
  (if (o_Mesh_exists h b v) = true then (if d < 0 then (-2) else (if 8 ≤ d then (-2) else 0)) else (-1))
theorem rd_Mesh_distanceError {h h2 : zHp} {b : Nat} {v : Int32} {d : Int32} (e0 : h2 b 0 = h b 0) : o_Mesh_distanceError h2 b v d = o_Mesh_distanceError h b v d := by
  unfold o_Mesh_distanceError
  simp only [e0, rd_Mesh_exists e0]

set_option maxHeartbeats 400000 in
set_option maxRecDepth 20000 in
theorem c_Mesh_distanceError (X : zXT) (h : zHp) (g : zLg) (b : Nat) (v : Int32) (d : Int32) (hb : b = 3 ∨ b = 15 ∨ b = 27) : zDi X M_Mesh_distanceError 1 [zR X b, .int v, .int d] h g (zI (o_Mesh_distanceError h b v d)) h g := by
  refine zDi_of "PeriodSlots$Mesh" prog_3_method_9_code 3 (some .int) rfl (by decide) [zO X b, zI v, zI d] rfl (fun _ q => q) (Nat.le_of_ble_eq_true rfl) ?_
  intro Γ Q C hQ
  refine zr_aload_n C d_X1_distanceError_0 rfl ?_
  refine zr_iload_n C d_X1_distanceError_1 rfl ?_
  refine zr_callVi (As := [.int v]) (st := []) (c := b) C (c_Mesh_exists X h g b v hb) k_Mesh_exists m489 m359 m360 (by omega) (zC_Mesh hb X _ _) rfl rfl (by decide) rfl (Nat.le_of_ble_eq_true rfl) d_X1_distanceError_2 ?_
  refine zr_ifz_ne C 10 d_X1_distanceError_5 (by decide) (fun c5 => ?_) (fun c5 => ?_)
  · have ex1 := zex c5
    have ex1_2 := ex1.2
    refine zr_iload_n C d_X1_distanceError_10 rfl ?_
    suffices hJ11 : ∀ (y4 : Int32), (if d < 0 then (-2) else (if 8 ≤ d then (-2) else 0)) = y4 → zV X Γ Q 26 [none, none, none] [.int y4] h g by
      refine zr_if_lt C 24 d_X1_distanceError_11 (by decide) (fun c11 => ?_) (fun c11 => ?_)
      · refine zr_bipush C (v := (-2)) d_X1_distanceError_24 (by decide) ?_
        refine zr_lv [none, none, none] (by simp [zle]) ?_
        exact hJ11 (-2) (((if_pos c11)))
      · refine zr_iload_n C d_X1_distanceError_14 rfl ?_
        refine zr_bipush C (v := 8) d_X1_distanceError_15 (by decide) ?_
        refine zr_icmp_ge C 24 d_X1_distanceError_17 (by decide) (fun c17 => ?_) (fun c17 => ?_)
        · have en2 := zn_ge (a := zcn d) (b := 8) (zix c11) rfl c17 (zcn_small _) (by decide)
          refine zr_bipush C (v := (-2)) d_X1_distanceError_24 (by decide) ?_
          refine zr_lv [none, none, none] (by simp [zle]) ?_
          exact hJ11 (-2) (((if_neg c11).trans ((if_pos c17))))
        · have en3 := zn_nge (a := zcn d) (b := 8) (zix c11) rfl c17 (zcn_small _) (by decide)
          refine zr_iconst C (v := 0) d_X1_distanceError_20 (by decide) ?_
          refine zr_goto C 26 d_X1_distanceError_21 (by decide) ?_
          refine zr_lv [none, none, none] (by simp [zle]) ?_
          exact hJ11 0 (((if_neg c11).trans ((if_neg c17))))
    intro y4 ey4
    have eR : o_Mesh_distanceError h b v d = y4 := (by subst ey4; unfold o_Mesh_distanceError; rw [if_pos c5])
    subst hQ
    rw [eR]
    exact zr_ireti C d_X1_distanceError_26
  · refine zr_iconst C (v := (-1)) d_X1_distanceError_8 (by decide) ?_
    have eR : o_Mesh_distanceError h b v d = (-1) := (by unfold o_Mesh_distanceError; rw [if_neg (zbf c5)])
    subst hQ
    rw [eR]
    exact zr_ireti C d_X1_distanceError_9
theorem d_X1_flipLink_0 : decode prog_3_method_10_code 0 = .ok (.aload_n 0, 1) := by decide +kernel
theorem d_X1_flipLink_1 : decode prog_3_method_10_code 1 = .ok (.getfield 15, 3) := by decide +kernel
theorem d_X1_flipLink_4 : decode prog_3_method_10_code 4 = .ok (.iload_n 1, 1) := by decide +kernel
theorem d_X1_flipLink_5 : decode prog_3_method_10_code 5 = .ok (.dup2, 1) := by decide +kernel
theorem d_X1_flipLink_6 : decode prog_3_method_10_code 6 = .ok (.iaload, 1) := by decide +kernel
theorem d_X1_flipLink_7 : decode prog_3_method_10_code 7 = .ok (.iconst 1, 1) := by decide +kernel
theorem d_X1_flipLink_8 : decode prog_3_method_10_code 8 = .ok (.iload_n 2, 1) := by decide +kernel
theorem d_X1_flipLink_9 : decode prog_3_method_10_code 9 = .ok (.ishl, 1) := by decide +kernel
theorem d_X1_flipLink_10 : decode prog_3_method_10_code 10 = .ok (.ixor, 1) := by decide +kernel
theorem d_X1_flipLink_11 : decode prog_3_method_10_code 11 = .ok (.iastore, 1) := by decide +kernel
theorem d_X1_flipLink_12 : decode prog_3_method_10_code 12 = .ok (.aload_n 0, 1) := by decide +kernel
theorem d_X1_flipLink_13 : decode prog_3_method_10_code 13 = .ok (.getfield 15, 3) := by decide +kernel
theorem d_X1_flipLink_16 : decode prog_3_method_10_code 16 = .ok (.iload_n 2, 1) := by decide +kernel
theorem d_X1_flipLink_17 : decode prog_3_method_10_code 17 = .ok (.dup2, 1) := by decide +kernel
theorem d_X1_flipLink_18 : decode prog_3_method_10_code 18 = .ok (.iaload, 1) := by decide +kernel
theorem d_X1_flipLink_19 : decode prog_3_method_10_code 19 = .ok (.iconst 1, 1) := by decide +kernel
theorem d_X1_flipLink_20 : decode prog_3_method_10_code 20 = .ok (.iload_n 1, 1) := by decide +kernel
theorem d_X1_flipLink_21 : decode prog_3_method_10_code 21 = .ok (.ishl, 1) := by decide +kernel
theorem d_X1_flipLink_22 : decode prog_3_method_10_code 22 = .ok (.ixor, 1) := by decide +kernel
theorem d_X1_flipLink_23 : decode prog_3_method_10_code 23 = .ok (.iastore, 1) := by decide +kernel
theorem d_X1_flipLink_24 : decode prog_3_method_10_code 24 = .ok (.aload_n 0, 1) := by decide +kernel
theorem d_X1_flipLink_25 : decode prog_3_method_10_code 25 = .ok (.invokevirtual 66, 3) := by decide +kernel
theorem d_X1_flipLink_28 : decode prog_3_method_10_code 28 = .ok (.aload_n 0, 1) := by decide +kernel
theorem d_X1_flipLink_29 : decode prog_3_method_10_code 29 = .ok (.invokevirtual 69, 3) := by decide +kernel
theorem d_X1_flipLink_32 : decode prog_3_method_10_code 32 = .ok (.return_, 1) := by decide +kernel
abbrev M_Mesh_flipLink : zMT := (⟨"PeriodSlots$Mesh", "flipLink", "(II)V"⟩, prog_3_method_10_code, 3, none)
theorem k_Mesh_flipLink : zcall M_Mesh_flipLink 2 := ⟨zU_in (i := 370) (by decide +kernel) rfl, m56, ⟨by decide, by decide, by decide +kernel⟩, by decide⟩
def o_Mesh_flipLink (h : zHp) (b : Nat) (i : Nat) (j : Nat) : zHp :=
  (o_Mesh_relate (o_Mesh_dropOlds (zup (zup h (b + 2) i ((h (b + 2) i) ^^^ (zshl 1 (nI j)))) (b + 2) j (((zup h (b + 2) i ((h (b + 2) i) ^^^ (zshl 1 (nI j)))) (b + 2) j) ^^^ (zshl 1 (nI i)))) b) b)
theorem fr_Mesh_flipLink {h : zHp} {b : Nat} {i : Nat} {j : Nat} (c k : Nat) (q0 : c ≠ b + 2) (q1 : c ≠ b + 4) (q2 : c ≠ b + 6) (q3 : c ≠ b + 7) (q4 : c ≠ b + 8) (q5 : c ≠ b + 9) (q6 : c ≠ b + 10) : (o_Mesh_flipLink h b i j) c k = h c k := by
  unfold o_Mesh_flipLink
  first | done | exact ((fr_Mesh_relate _ _ (by assumption) (by assumption) (by assumption)).trans ((fr_Mesh_dropOlds _ _ (by assumption) (by assumption) (by assumption)).trans ((zup_fr (Or.inl (by assumption))).trans (zup_fr (Or.inl (by assumption))))))
set_option maxHeartbeats 400000 in
set_option maxRecDepth 20000 in
theorem c_Mesh_flipLink (X : zXT) (h : zHp) (g : zLg) (b : Nat) (i : Nat) (j : Nat) {x_i : Int32} (e_i : x_i = nI i) {x_j : Int32} (e_j : x_j = nI j) (hb : b = 3 ∨ b = 15 ∨ b = 27) (hf0 : zfit h b 0 8) (hl1 : i < 8) (hl2 : j < 8) : zDi X M_Mesh_flipLink 3 [zR X b, .int x_i, .int x_j] h g none (o_Mesh_flipLink h b i j) g := by
  subst e_i
  subst e_j
  have hf0_1 := hf0.1
  refine zDi_of "PeriodSlots$Mesh" prog_3_method_10_code 3 none rfl (by decide) [zO X b, zI (nI i), zI (nI j)] rfl (fun _ q => q) (Nat.le_of_ble_eq_true rfl) ?_
  intro Γ Q C hQ
  refine zr_aload_n C d_X1_flipLink_0 rfl ?_
  refine gf_Mesh_4 C hb m107 d_X1_flipLink_1 ?_
  refine zr_iload_n C d_X1_flipLink_4 rfl ?_
  refine zr_dup2 C d_X1_flipLink_5 rfl rfl ?_
  refine zr_iald C (za_mesh_2 hb) (i) rfl (by omega) (by decide) d_X1_flipLink_6 ?_
  refine zr_iconst C (v := 1) d_X1_flipLink_7 (by decide) ?_
  refine zr_iload_n C d_X1_flipLink_8 rfl ?_
  refine zr_ishl C d_X1_flipLink_9 ?_
  refine zr_ixor C d_X1_flipLink_10 ?_
  refine zr_iast C (za_mesh_2 hb) (i) rfl (by omega) (by decide) d_X1_flipLink_11 ?_
  refine zr_h (fun h1 eh1 => ?_)
  refine zr_aload_n C d_X1_flipLink_12 rfl ?_
  refine gf_Mesh_4 C hb m107 d_X1_flipLink_13 ?_
  refine zr_iload_n C d_X1_flipLink_16 rfl ?_
  refine zr_dup2 C d_X1_flipLink_17 rfl rfl ?_
  refine zr_iald C (za_mesh_2 hb) (j) rfl (by omega) (by decide) d_X1_flipLink_18 ?_
  refine zr_iconst C (v := 1) d_X1_flipLink_19 (by decide) ?_
  refine zr_iload_n C d_X1_flipLink_20 rfl ?_
  refine zr_ishl C d_X1_flipLink_21 ?_
  refine zr_ixor C d_X1_flipLink_22 ?_
  refine zr_iast C (za_mesh_2 hb) (j) rfl (by omega) (by decide) d_X1_flipLink_23 ?_
  refine zr_h (fun h2 eh2 => ?_)
  refine zr_aload_n C d_X1_flipLink_24 rfl ?_
  refine zr_callVv (As := []) (st := []) (c := b) C (c_Mesh_dropOlds X h2 g b hb (zfit_fr ((congrFun (congrFun eh2.symm _) _).trans ((zup_fr (by omega)).trans ((congrFun (congrFun eh1.symm _) _).trans (zup_fr (by omega))))) hf0)) k_Mesh_dropOlds m298 m299 m300 (by omega) (zC_Mesh hb X _ _) rfl rfl (by decide) rfl (Nat.le_of_ble_eq_true rfl) d_X1_flipLink_25 ?_
  refine zr_h (fun h3 eh3 => ?_)
  refine zr_aload_n C d_X1_flipLink_28 rfl ?_
  refine zr_callVv (As := []) (st := []) (c := b) C (c_Mesh_relate X h3 g b hb (zfit_fr ((congrFun (congrFun eh3.symm _) _).trans ((fr_Mesh_dropOlds _ _ (by omega) (by omega) (by omega)).trans ((congrFun (congrFun eh2.symm _) _).trans ((zup_fr (by omega)).trans ((congrFun (congrFun eh1.symm _) _).trans (zup_fr (by omega))))))) hf0)) k_Mesh_relate m313 m314 m315 (by omega) (zC_Mesh hb X _ _) rfl rfl (by decide) rfl (Nat.le_of_ble_eq_true rfl) d_X1_flipLink_29 ?_
  refine zr_h (fun h4 eh4 => ?_)
  have eR : o_Mesh_flipLink h b i j = h4 := (by subst eh4 eh3 eh2 eh1; unfold o_Mesh_flipLink; exact rfl)
  subst hQ
  rw [eR]
  exact zr_vret C d_X1_flipLink_32
theorem d_X1_linkCount_0 : decode prog_3_method_11_code 0 = .ok (.iconst 0, 1) := by decide +kernel
theorem d_X1_linkCount_1 : decode prog_3_method_11_code 1 = .ok (.istore_n 1, 1) := by decide +kernel
theorem d_X1_linkCount_2 : decode prog_3_method_11_code 2 = .ok (.iconst 0, 1) := by decide +kernel
theorem d_X1_linkCount_3 : decode prog_3_method_11_code 3 = .ok (.istore_n 2, 1) := by decide +kernel
theorem d_X1_linkCount_4 : decode prog_3_method_11_code 4 = .ok (.iload_n 2, 1) := by decide +kernel
theorem d_X1_linkCount_5 : decode prog_3_method_11_code 5 = .ok (.aload_n 0, 1) := by decide +kernel
theorem d_X1_linkCount_6 : decode prog_3_method_11_code 6 = .ok (.getfield 45, 3) := by decide +kernel
theorem d_X1_linkCount_9 : decode prog_3_method_11_code 9 = .ok (.if_icmp .ge 21, 3) := by decide +kernel
theorem d_X1_linkCount_12 : decode prog_3_method_11_code 12 = .ok (.iload_n 1, 1) := by decide +kernel
theorem d_X1_linkCount_13 : decode prog_3_method_11_code 13 = .ok (.aload_n 0, 1) := by decide +kernel
theorem d_X1_linkCount_14 : decode prog_3_method_11_code 14 = .ok (.getfield 15, 3) := by decide +kernel
theorem d_X1_linkCount_17 : decode prog_3_method_11_code 17 = .ok (.iload_n 2, 1) := by decide +kernel
theorem d_X1_linkCount_18 : decode prog_3_method_11_code 18 = .ok (.iaload, 1) := by decide +kernel
theorem d_X1_linkCount_19 : decode prog_3_method_11_code 19 = .ok (.invokestatic 76, 3) := by decide +kernel
theorem d_X1_linkCount_22 : decode prog_3_method_11_code 22 = .ok (.iadd, 1) := by decide +kernel
theorem d_X1_linkCount_23 : decode prog_3_method_11_code 23 = .ok (.istore_n 1, 1) := by decide +kernel
theorem d_X1_linkCount_24 : decode prog_3_method_11_code 24 = .ok (.iinc 2 1, 3) := by decide +kernel
theorem d_X1_linkCount_27 : decode prog_3_method_11_code 27 = .ok (.goto (-23), 3) := by decide +kernel
theorem d_X1_linkCount_30 : decode prog_3_method_11_code 30 = .ok (.iload_n 1, 1) := by decide +kernel
theorem d_X1_linkCount_31 : decode prog_3_method_11_code 31 = .ok (.iconst 2, 1) := by decide +kernel
theorem d_X1_linkCount_32 : decode prog_3_method_11_code 32 = .ok (.idiv, 1) := by decide +kernel
theorem d_X1_linkCount_33 : decode prog_3_method_11_code 33 = .ok (.ireturn, 1) := by decide +kernel
abbrev M_Mesh_linkCount : zMT := (⟨"PeriodSlots$Mesh", "linkCount", "()I"⟩, prog_3_method_11_code, 3, (some .int))
theorem k_Mesh_linkCount : zcall M_Mesh_linkCount 0 := ⟨zU_in (i := 347) (by decide +kernel) rfl, m56, ⟨by decide, by decide, by decide +kernel⟩, by decide⟩
def o_Mesh_linkCount (h : zHp) (b : Nat) : Int32 :=
  ((zrep (fun (i4_1 : Nat) (s4_1 : Int32) => (s4_1 + (o_Int_bitCount (h (b + 2) i4_1)))) 0 (zcn (h b 0))) / 2)
theorem rd_Mesh_linkCount {h h2 : zHp} {b : Nat} (e0 : h2 (b + 2) = h (b + 2)) (e1 : h2 b 0 = h b 0) : o_Mesh_linkCount h2 b = o_Mesh_linkCount h b := by
  unfold o_Mesh_linkCount
  simp only [e0, e1]

set_option maxHeartbeats 400000 in
set_option maxRecDepth 20000 in
theorem c_Mesh_linkCount (X : zXT) (h : zHp) (g : zLg) (b : Nat) (hb : b = 3 ∨ b = 15 ∨ b = 27) (hf0 : zfit h b 0 8) : zDi X M_Mesh_linkCount 1 [zR X b] h g (zI (o_Mesh_linkCount h b)) h g := by
  have hf0_1 := hf0.1
  refine zDi_of "PeriodSlots$Mesh" prog_3_method_11_code 3 (some .int) rfl (by decide) [zO X b, none, none] rfl (fun _ q => q) (Nat.le_of_ble_eq_true rfl) ?_
  intro Γ Q C hQ
  refine zr_iconst C (v := 0) d_X1_linkCount_0 (by decide) ?_
  refine zr_istore_n C [zO X b, zI 0, none] d_X1_linkCount_1 (Nat.le_of_ble_eq_true rfl) rfl rfl ?_
  refine zr_iconst C (v := 0) d_X1_linkCount_2 (by decide) ?_
  refine zr_istore_n C [zO X b, zI 0, zI 0] d_X1_linkCount_3 (Nat.le_of_ble_eq_true rfl) rfl rfl ?_
  refine zfor (f := (fun (i4_1 : Nat) (s4_1 : Int32) => (s4_1 + (o_Int_bitCount (h (b + 2) i4_1))))) (a := 0) (fun i4_1 s4_1 => zV X Γ Q 4 [zO X b, zI s4_1, zI (nI i4_1)] [] h g) (fun _ _ => True) (zcn (h b 0)) trivial (fun i4_1 s4_1 hi4_1 hI4_1 => ⟨trivial, fun hk4_1 => ?_⟩) (fun r4_1 er4_1 hI4_1 => ?_)
  · refine zr_iload_n C d_X1_linkCount_4 rfl ?_
    refine zr_aload_n C d_X1_linkCount_5 rfl ?_
    refine gf_Mesh_0 C hb m95 d_X1_linkCount_6 ?_
    refine zr_icmp_ge C 30 d_X1_linkCount_9 (by decide) (fun c => absurd c (zge_no rfl (by omega))) (fun _ => ?_)
    refine zr_iload_n C d_X1_linkCount_12 rfl ?_
    refine zr_aload_n C d_X1_linkCount_13 rfl ?_
    refine gf_Mesh_4 C hb m107 d_X1_linkCount_14 ?_
    refine zr_iload_n C d_X1_linkCount_17 rfl ?_
    refine zr_iald C (za_mesh_2 hb) (i4_1) rfl (by omega) (by decide) d_X1_linkCount_18 ?_
    refine zr_callSi (As := [.int (h (b + 2) i4_1)]) (st := [.int s4_1]) C (c_Int_bitCount X h g (h (b + 2) i4_1)) k_Int_bitCount m348 m349 rfl (by decide) rfl (Nat.le_of_ble_eq_true rfl) d_X1_linkCount_19 ?_
    refine zr_iadd C d_X1_linkCount_22 ?_
    refine zr_istore_n C [zO X b, zI (s4_1 + (o_Int_bitCount (h (b + 2) i4_1))), zI (nI i4_1)] d_X1_linkCount_23 (Nat.le_of_ble_eq_true rfl) rfl rfl ?_
    refine zr_iinc C [zO X b, zI (s4_1 + (o_Int_bitCount (h (b + 2) i4_1))), zI (nI (i4_1 + 1))] (v := (nI (i4_1 + 1))) d_X1_linkCount_24 rfl (zn_add rfl rfl) (Nat.le_of_ble_eq_true rfl) rfl rfl ?_
    refine zr_goto C 4 d_X1_linkCount_27 (by decide) ?_
    exact hk4_1 (s4_1 + (o_Int_bitCount (h (b + 2) i4_1))) rfl
  refine zr_iload_n C d_X1_linkCount_4 rfl ?_
  refine zr_aload_n C d_X1_linkCount_5 rfl ?_
  refine gf_Mesh_0 C hb m95 d_X1_linkCount_6 ?_
  refine zr_icmp_ge C 30 d_X1_linkCount_9 (by decide) (fun _ => ?_) (fun c => absurd (zge_yes rfl (by omega) (by have := zcn_small (h b 0); omega)) c)
  refine zr_iload_n C d_X1_linkCount_30 rfl ?_
  refine zr_iconst C (v := 2) d_X1_linkCount_31 (by decide) ?_
  refine zr_idiv C d_X1_linkCount_32 (by decide) ?_
  have eR : o_Mesh_linkCount h b = (r4_1 / 2) := (by subst er4_1; unfold o_Mesh_linkCount; exact rfl)
  subst hQ
  rw [eR]
  exact zr_ireti C d_X1_linkCount_33
theorem d_X1_lacksLink_0 : decode prog_3_method_12_code 0 = .ok (.aload_n 0, 1) := by decide +kernel
theorem d_X1_lacksLink_1 : decode prog_3_method_12_code 1 = .ok (.invokevirtual 82, 3) := by decide +kernel
theorem d_X1_lacksLink_4 : decode prog_3_method_12_code 4 = .ok (.aload_n 0, 1) := by decide +kernel
theorem d_X1_lacksLink_5 : decode prog_3_method_12_code 5 = .ok (.getfield 45, 3) := by decide +kernel
theorem d_X1_lacksLink_8 : decode prog_3_method_12_code 8 = .ok (.aload_n 0, 1) := by decide +kernel
theorem d_X1_lacksLink_9 : decode prog_3_method_12_code 9 = .ok (.getfield 45, 3) := by decide +kernel
theorem d_X1_lacksLink_12 : decode prog_3_method_12_code 12 = .ok (.iconst 1, 1) := by decide +kernel
theorem d_X1_lacksLink_13 : decode prog_3_method_12_code 13 = .ok (.isub, 1) := by decide +kernel
theorem d_X1_lacksLink_14 : decode prog_3_method_12_code 14 = .ok (.imul, 1) := by decide +kernel
theorem d_X1_lacksLink_15 : decode prog_3_method_12_code 15 = .ok (.iconst 2, 1) := by decide +kernel
theorem d_X1_lacksLink_16 : decode prog_3_method_12_code 16 = .ok (.idiv, 1) := by decide +kernel
theorem d_X1_lacksLink_17 : decode prog_3_method_12_code 17 = .ok (.if_icmp .ge 7, 3) := by decide +kernel
theorem d_X1_lacksLink_20 : decode prog_3_method_12_code 20 = .ok (.iconst 1, 1) := by decide +kernel
theorem d_X1_lacksLink_21 : decode prog_3_method_12_code 21 = .ok (.goto 4, 3) := by decide +kernel
theorem d_X1_lacksLink_24 : decode prog_3_method_12_code 24 = .ok (.iconst 0, 1) := by decide +kernel
theorem d_X1_lacksLink_25 : decode prog_3_method_12_code 25 = .ok (.ireturn, 1) := by decide +kernel
abbrev M_Mesh_lacksLink : zMT := (⟨"PeriodSlots$Mesh", "lacksLink", "()Z"⟩, prog_3_method_12_code, 1, (some .boolean))
theorem k_Mesh_lacksLink : zcall M_Mesh_lacksLink 0 := ⟨zU_in (i := 343) (by decide +kernel) rfl, m56, ⟨by decide, by decide, by decide +kernel⟩, by decide⟩
def o_Mesh_lacksLink (h : zHp) (b : Nat) : Bool :=
  (!(decide ((((h b 0) * ((h b 0) - 1)) / 2) ≤ (o_Mesh_linkCount h b))))
theorem rd_Mesh_lacksLink {h h2 : zHp} {b : Nat} (e0 : h2 (b + 2) = h (b + 2)) (e1 : h2 b 0 = h b 0) : o_Mesh_lacksLink h2 b = o_Mesh_lacksLink h b := by
  unfold o_Mesh_lacksLink
  simp only [e0, e1, rd_Mesh_linkCount e0 e1]

set_option maxHeartbeats 400000 in
set_option maxRecDepth 20000 in
theorem c_Mesh_lacksLink (X : zXT) (h : zHp) (g : zLg) (b : Nat) (hb : b = 3 ∨ b = 15 ∨ b = 27) (hf0 : zfit h b 0 8) : zDi X M_Mesh_lacksLink 2 [zR X b] h g (zI (zb (o_Mesh_lacksLink h b))) h g := by
  have hf0_1 := hf0.1
  refine zDi_of "PeriodSlots$Mesh" prog_3_method_12_code 1 (some .boolean) rfl (by decide) [zO X b] rfl (fun _ q => q) (Nat.le_of_ble_eq_true rfl) ?_
  intro Γ Q C hQ
  refine zr_aload_n C d_X1_lacksLink_0 rfl ?_
  refine zr_callVi (As := []) (st := []) (c := b) C (c_Mesh_linkCount X h g b hb hf0) k_Mesh_linkCount m344 m345 m346 (by omega) (zC_Mesh hb X _ _) rfl rfl (by decide) rfl (Nat.le_of_ble_eq_true rfl) d_X1_lacksLink_1 ?_
  refine zr_aload_n C d_X1_lacksLink_4 rfl ?_
  refine gf_Mesh_0 C hb m95 d_X1_lacksLink_5 ?_
  refine zr_aload_n C d_X1_lacksLink_8 rfl ?_
  refine gf_Mesh_0 C hb m95 d_X1_lacksLink_9 ?_
  refine zr_iconst C (v := 1) d_X1_lacksLink_12 (by decide) ?_
  refine zr_isub C d_X1_lacksLink_13 ?_
  refine zr_imul C d_X1_lacksLink_14 ?_
  refine zr_iconst C (v := 2) d_X1_lacksLink_15 (by decide) ?_
  refine zr_idiv C d_X1_lacksLink_16 (by decide) ?_
  suffices hJ17 : ∀ (y1 : Bool), (!(decide ((((h b 0) * ((h b 0) - 1)) / 2) ≤ (o_Mesh_linkCount h b)))) = y1 → zV X Γ Q 25 [none] [.int (zb y1)] h g by
    refine zr_icmp_ge C 24 d_X1_lacksLink_17 (by decide) (fun c17 => ?_) (fun c17 => ?_)
    · refine zr_iconst C (v := 0) d_X1_lacksLink_24 (by decide) ?_
      refine zr_lv [none] (by simp [zle]) ?_
      exact hJ17 false (by simp [c17])
    · refine zr_iconst C (v := 1) d_X1_lacksLink_20 (by decide) ?_
      refine zr_goto C 25 d_X1_lacksLink_21 (by decide) ?_
      refine zr_lv [none] (by simp [zle]) ?_
      exact hJ17 true (by simp [c17])
  intro y1 ey1
  have eR : o_Mesh_lacksLink h b = y1 := (by subst ey1; unfold o_Mesh_lacksLink; exact rfl)
  subst hQ
  rw [eR]
  exact zr_iretz C (zb_01 _) d_X1_lacksLink_25
theorem d_X1_isLinkedWithAll_0 : decode prog_3_method_13_code 0 = .ok (.aload_n 0, 1) := by decide +kernel
theorem d_X1_isLinkedWithAll_1 : decode prog_3_method_13_code 1 = .ok (.getfield 15, 3) := by decide +kernel
theorem d_X1_isLinkedWithAll_4 : decode prog_3_method_13_code 4 = .ok (.iload_n 1, 1) := by decide +kernel
theorem d_X1_isLinkedWithAll_5 : decode prog_3_method_13_code 5 = .ok (.iaload, 1) := by decide +kernel
theorem d_X1_isLinkedWithAll_6 : decode prog_3_method_13_code 6 = .ok (.invokestatic 76, 3) := by decide +kernel
theorem d_X1_isLinkedWithAll_9 : decode prog_3_method_13_code 9 = .ok (.aload_n 0, 1) := by decide +kernel
theorem d_X1_isLinkedWithAll_10 : decode prog_3_method_13_code 10 = .ok (.getfield 45, 3) := by decide +kernel
theorem d_X1_isLinkedWithAll_13 : decode prog_3_method_13_code 13 = .ok (.iconst 1, 1) := by decide +kernel
theorem d_X1_isLinkedWithAll_14 : decode prog_3_method_13_code 14 = .ok (.isub, 1) := by decide +kernel
theorem d_X1_isLinkedWithAll_15 : decode prog_3_method_13_code 15 = .ok (.if_icmp .ne 7, 3) := by decide +kernel
theorem d_X1_isLinkedWithAll_18 : decode prog_3_method_13_code 18 = .ok (.iconst 1, 1) := by decide +kernel
theorem d_X1_isLinkedWithAll_19 : decode prog_3_method_13_code 19 = .ok (.goto 4, 3) := by decide +kernel
theorem d_X1_isLinkedWithAll_22 : decode prog_3_method_13_code 22 = .ok (.iconst 0, 1) := by decide +kernel
theorem d_X1_isLinkedWithAll_23 : decode prog_3_method_13_code 23 = .ok (.ireturn, 1) := by decide +kernel
abbrev M_Mesh_isLinkedWithAll : zMT := (⟨"PeriodSlots$Mesh", "isLinkedWithAll", "(I)Z"⟩, prog_3_method_13_code, 2, (some .boolean))
theorem k_Mesh_isLinkedWithAll : zcall M_Mesh_isLinkedWithAll 1 := ⟨zU_in (i := 365) (by decide +kernel) rfl, m56, ⟨by decide, by decide, by decide +kernel⟩, by decide⟩
def o_Mesh_isLinkedWithAll (h : zHp) (b : Nat) (v : Nat) : Bool :=
  (decide ((o_Int_bitCount (h (b + 2) v)) = ((h b 0) - 1)))
theorem rd_Mesh_isLinkedWithAll {h h2 : zHp} {b : Nat} {v : Nat} (e0 : h2 (b + 2) = h (b + 2)) (e1 : h2 b 0 = h b 0) : o_Mesh_isLinkedWithAll h2 b v = o_Mesh_isLinkedWithAll h b v := by
  unfold o_Mesh_isLinkedWithAll
  simp only [e0, e1]

set_option maxHeartbeats 400000 in
set_option maxRecDepth 20000 in
theorem c_Mesh_isLinkedWithAll (X : zXT) (h : zHp) (g : zLg) (b : Nat) (v : Nat) {x_v : Int32} (e_v : x_v = nI v) (hb : b = 3 ∨ b = 15 ∨ b = 27) (hf0 : zfit h b 0 8) (hl1 : v < 8) : zDi X M_Mesh_isLinkedWithAll 1 [zR X b, .int x_v] h g (zI (zb (o_Mesh_isLinkedWithAll h b v))) h g := by
  subst e_v
  have hf0_1 := hf0.1
  refine zDi_of "PeriodSlots$Mesh" prog_3_method_13_code 2 (some .boolean) rfl (by decide) [zO X b, zI (nI v)] rfl (fun _ q => q) (Nat.le_of_ble_eq_true rfl) ?_
  intro Γ Q C hQ
  refine zr_aload_n C d_X1_isLinkedWithAll_0 rfl ?_
  refine gf_Mesh_4 C hb m107 d_X1_isLinkedWithAll_1 ?_
  refine zr_iload_n C d_X1_isLinkedWithAll_4 rfl ?_
  refine zr_iald C (za_mesh_2 hb) (v) rfl (by omega) (by decide) d_X1_isLinkedWithAll_5 ?_
  refine zr_callSi (As := [.int (h (b + 2) v)]) (st := []) C (c_Int_bitCount X h g (h (b + 2) v)) k_Int_bitCount m348 m349 rfl (by decide) rfl (Nat.le_of_ble_eq_true rfl) d_X1_isLinkedWithAll_6 ?_
  refine zr_aload_n C d_X1_isLinkedWithAll_9 rfl ?_
  refine gf_Mesh_0 C hb m95 d_X1_isLinkedWithAll_10 ?_
  refine zr_iconst C (v := 1) d_X1_isLinkedWithAll_13 (by decide) ?_
  refine zr_isub C d_X1_isLinkedWithAll_14 ?_
  suffices hJ15 : ∀ (y1 : Bool), (decide ((o_Int_bitCount (h (b + 2) v)) = ((h b 0) - 1))) = y1 → zV X Γ Q 23 [none, none] [.int (zb y1)] h g by
    refine zr_icmp_ne C 22 d_X1_isLinkedWithAll_15 (by decide) (fun c15 => ?_) (fun c15 => ?_)
    · refine zr_iconst C (v := 0) d_X1_isLinkedWithAll_22 (by decide) ?_
      refine zr_lv [none, none] (by simp [zle]) ?_
      exact hJ15 false (by simp [c15])
    · refine zr_iconst C (v := 1) d_X1_isLinkedWithAll_18 (by decide) ?_
      refine zr_goto C 23 d_X1_isLinkedWithAll_19 (by decide) ?_
      refine zr_lv [none, none] (by simp [zle]) ?_
      exact hJ15 true (by simp [c15])
  intro y1 ey1
  have eR : o_Mesh_isLinkedWithAll h b v = y1 := (by subst ey1; unfold o_Mesh_isLinkedWithAll; exact rfl)
  subst hQ
  rw [eR]
  exact zr_iretz C (zb_01 _) d_X1_isLinkedWithAll_23
theorem d_X1_netOf_0 : decode prog_3_method_14_code 0 = .ok (.iconst 1, 1) := by decide +kernel
theorem d_X1_netOf_1 : decode prog_3_method_14_code 1 = .ok (.iload_n 1, 1) := by decide +kernel
theorem d_X1_netOf_2 : decode prog_3_method_14_code 2 = .ok (.ishl, 1) := by decide +kernel
theorem d_X1_netOf_3 : decode prog_3_method_14_code 3 = .ok (.istore_n 2, 1) := by decide +kernel
theorem d_X1_netOf_4 : decode prog_3_method_14_code 4 = .ok (.iconst 1, 1) := by decide +kernel
theorem d_X1_netOf_5 : decode prog_3_method_14_code 5 = .ok (.istore_n 3, 1) := by decide +kernel
theorem d_X1_netOf_6 : decode prog_3_method_14_code 6 = .ok (.iload_n 3, 1) := by decide +kernel
theorem d_X1_netOf_7 : decode prog_3_method_14_code 7 = .ok (.aload_n 0, 1) := by decide +kernel
theorem d_X1_netOf_8 : decode prog_3_method_14_code 8 = .ok (.getfield 45, 3) := by decide +kernel
theorem d_X1_netOf_11 : decode prog_3_method_14_code 11 = .ok (.if_icmp .ge 17, 3) := by decide +kernel
theorem d_X1_netOf_14 : decode prog_3_method_14_code 14 = .ok (.iload_n 2, 1) := by decide +kernel
theorem d_X1_netOf_15 : decode prog_3_method_14_code 15 = .ok (.aload_n 0, 1) := by decide +kernel
theorem d_X1_netOf_16 : decode prog_3_method_14_code 16 = .ok (.iload_n 2, 1) := by decide +kernel
theorem d_X1_netOf_17 : decode prog_3_method_14_code 17 = .ok (.invokevirtual 86, 3) := by decide +kernel
theorem d_X1_netOf_20 : decode prog_3_method_14_code 20 = .ok (.ior, 1) := by decide +kernel
theorem d_X1_netOf_21 : decode prog_3_method_14_code 21 = .ok (.istore_n 2, 1) := by decide +kernel
theorem d_X1_netOf_22 : decode prog_3_method_14_code 22 = .ok (.iinc 3 1, 3) := by decide +kernel
theorem d_X1_netOf_25 : decode prog_3_method_14_code 25 = .ok (.goto (-19), 3) := by decide +kernel
theorem d_X1_netOf_28 : decode prog_3_method_14_code 28 = .ok (.iload_n 2, 1) := by decide +kernel
theorem d_X1_netOf_29 : decode prog_3_method_14_code 29 = .ok (.ireturn, 1) := by decide +kernel
abbrev M_Mesh_netOf : zMT := (⟨"PeriodSlots$Mesh", "netOf", "(I)I"⟩, prog_3_method_14_code, 4, (some .int))
theorem k_Mesh_netOf : zcall M_Mesh_netOf 1 := ⟨zU_in (i := 438) (by decide +kernel) rfl, m56, ⟨by decide, by decide, by decide +kernel⟩, by decide⟩
def o_Mesh_netOf (h : zHp) (b : Nat) (v : Int32) : Int32 :=
  (zrep (fun (i6_1 : Nat) (s6_1 : Int32) => (s6_1 ||| (o_Mesh_neighboursOf h b s6_1))) (zshl 1 v) (zcn (h b 0) - 1))
theorem rd_Mesh_netOf {h h2 : zHp} {b : Nat} {v : Int32} (e0 : h2 (b + 2) = h (b + 2)) (e1 : h2 b 0 = h b 0) : o_Mesh_netOf h2 b v = o_Mesh_netOf h b v := by
  unfold o_Mesh_netOf
  simp only [e0, e1, rd_Mesh_neighboursOf e0 e1]

set_option maxHeartbeats 400000 in
set_option maxRecDepth 20000 in
theorem c_Mesh_netOf (X : zXT) (h : zHp) (g : zLg) (b : Nat) (v : Int32) (hb : b = 3 ∨ b = 15 ∨ b = 27) (hf0 : zfit h b 0 8) : zDi X M_Mesh_netOf 2 [zR X b, .int v] h g (zI (o_Mesh_netOf h b v)) h g := by
  have hf0_1 := hf0.1
  refine zDi_of "PeriodSlots$Mesh" prog_3_method_14_code 4 (some .int) rfl (by decide) [zO X b, zI v, none, none] rfl (fun _ q => q) (Nat.le_of_ble_eq_true rfl) ?_
  intro Γ Q C hQ
  refine zr_iconst C (v := 1) d_X1_netOf_0 (by decide) ?_
  refine zr_iload_n C d_X1_netOf_1 rfl ?_
  refine zr_ishl C d_X1_netOf_2 ?_
  refine zr_istore_n C [zO X b, zI v, zI (zshl 1 v), none] d_X1_netOf_3 (Nat.le_of_ble_eq_true rfl) rfl rfl ?_
  refine zr_iconst C (v := 1) d_X1_netOf_4 (by decide) ?_
  refine zr_istore_n C [zO X b, zI v, zI (zshl 1 v), zI 1] d_X1_netOf_5 (Nat.le_of_ble_eq_true rfl) rfl rfl ?_
  refine zr_lv [zO X b, none, zI (zshl 1 v), zI 1] (by simp [zle]) ?_
  refine zfor (f := (fun (i6_1 : Nat) (s6_1 : Int32) => (s6_1 ||| (o_Mesh_neighboursOf h b s6_1)))) (a := (zshl 1 v)) (fun i6_1 s6_1 => zV X Γ Q 6 [zO X b, none, zI s6_1, zI (nI (1 + i6_1))] [] h g) (fun _ _ => True) (zcn (h b 0) - 1) trivial (fun i6_1 s6_1 hi6_1 hI6_1 => ⟨trivial, fun hk6_1 => ?_⟩) (fun r6_1 er6_1 hI6_1 => ?_)
  · refine zr_iload_n C d_X1_netOf_6 rfl ?_
    refine zr_aload_n C d_X1_netOf_7 rfl ?_
    refine gf_Mesh_0 C hb m95 d_X1_netOf_8 ?_
    refine zr_icmp_ge C 28 d_X1_netOf_11 (by decide) (fun c => absurd c (zge_no rfl (by omega))) (fun _ => ?_)
    refine zr_iload_n C d_X1_netOf_14 rfl ?_
    refine zr_aload_n C d_X1_netOf_15 rfl ?_
    refine zr_iload_n C d_X1_netOf_16 rfl ?_
    refine zr_callVi (As := [.int s6_1]) (st := [.int s6_1]) (c := b) C (c_Mesh_neighboursOf X h g b s6_1 hb hf0) k_Mesh_neighboursOf m317 m319 m2 (by omega) (zC_Mesh hb X _ _) rfl rfl (by decide) rfl (Nat.le_of_ble_eq_true rfl) d_X1_netOf_17 ?_
    refine zr_ior C d_X1_netOf_20 ?_
    refine zr_istore_n C [zO X b, none, zI (s6_1 ||| (o_Mesh_neighboursOf h b s6_1)), zI (nI (1 + i6_1))] d_X1_netOf_21 (Nat.le_of_ble_eq_true rfl) rfl rfl ?_
    refine zr_iinc C [zO X b, none, zI (s6_1 ||| (o_Mesh_neighboursOf h b s6_1)), zI (nI ((1 + i6_1) + 1))] (v := (nI ((1 + i6_1) + 1))) d_X1_netOf_22 rfl (zn_add rfl rfl) (Nat.le_of_ble_eq_true rfl) rfl rfl ?_
    refine zr_goto C 6 d_X1_netOf_25 (by decide) ?_
    exact hk6_1 (s6_1 ||| (o_Mesh_neighboursOf h b s6_1)) rfl
  refine zr_iload_n C d_X1_netOf_6 rfl ?_
  refine zr_aload_n C d_X1_netOf_7 rfl ?_
  refine gf_Mesh_0 C hb m95 d_X1_netOf_8 ?_
  refine zr_icmp_ge C 28 d_X1_netOf_11 (by decide) (fun _ => ?_) (fun c => absurd (zge_yes rfl (by omega) (by have := zcn_small (h b 0); omega)) c)
  refine zr_iload_n C d_X1_netOf_28 rfl ?_
  have eR : o_Mesh_netOf h b v = r6_1 := (by subst er6_1; unfold o_Mesh_netOf; exact rfl)
  subst hQ
  rw [eR]
  exact zr_ireti C d_X1_netOf_29
theorem d_X1_isLowestOfNet_0 : decode prog_3_method_16_code 0 = .ok (.aload_n 0, 1) := by decide +kernel
theorem d_X1_isLowestOfNet_1 : decode prog_3_method_16_code 1 = .ok (.iload_n 1, 1) := by decide +kernel
theorem d_X1_isLowestOfNet_2 : decode prog_3_method_16_code 2 = .ok (.invokevirtual 93, 3) := by decide +kernel
theorem d_X1_isLowestOfNet_5 : decode prog_3_method_16_code 5 = .ok (.invokestatic 96, 3) := by decide +kernel
theorem d_X1_isLowestOfNet_8 : decode prog_3_method_16_code 8 = .ok (.iconst 1, 1) := by decide +kernel
theorem d_X1_isLowestOfNet_9 : decode prog_3_method_16_code 9 = .ok (.iload_n 1, 1) := by decide +kernel
theorem d_X1_isLowestOfNet_10 : decode prog_3_method_16_code 10 = .ok (.ishl, 1) := by decide +kernel
theorem d_X1_isLowestOfNet_11 : decode prog_3_method_16_code 11 = .ok (.if_icmp .ne 7, 3) := by decide +kernel
theorem d_X1_isLowestOfNet_14 : decode prog_3_method_16_code 14 = .ok (.iconst 1, 1) := by decide +kernel
theorem d_X1_isLowestOfNet_15 : decode prog_3_method_16_code 15 = .ok (.goto 4, 3) := by decide +kernel
theorem d_X1_isLowestOfNet_18 : decode prog_3_method_16_code 18 = .ok (.iconst 0, 1) := by decide +kernel
theorem d_X1_isLowestOfNet_19 : decode prog_3_method_16_code 19 = .ok (.ireturn, 1) := by decide +kernel
abbrev M_Mesh_isLowestOfNet : zMT := (⟨"PeriodSlots$Mesh", "isLowestOfNet", "(I)Z"⟩, prog_3_method_16_code, 2, (some .boolean))
theorem k_Mesh_isLowestOfNet : zcall M_Mesh_isLowestOfNet 1 := ⟨zU_in (i := 434) (by decide +kernel) rfl, m56, ⟨by decide, by decide, by decide +kernel⟩, by decide⟩
def o_Mesh_isLowestOfNet (h : zHp) (b : Nat) (v : Int32) : Bool :=
  (decide ((o_Int_lowestOneBit (o_Mesh_netOf h b v)) = (zshl 1 v)))
theorem rd_Mesh_isLowestOfNet {h h2 : zHp} {b : Nat} {v : Int32} (e0 : h2 (b + 2) = h (b + 2)) (e1 : h2 b 0 = h b 0) : o_Mesh_isLowestOfNet h2 b v = o_Mesh_isLowestOfNet h b v := by
  unfold o_Mesh_isLowestOfNet
  simp only [e0, e1, rd_Mesh_netOf e0 e1]

set_option maxHeartbeats 400000 in
set_option maxRecDepth 20000 in
theorem c_Mesh_isLowestOfNet (X : zXT) (h : zHp) (g : zLg) (b : Nat) (v : Int32) (hb : b = 3 ∨ b = 15 ∨ b = 27) (hf0 : zfit h b 0 8) : zDi X M_Mesh_isLowestOfNet 3 [zR X b, .int v] h g (zI (zb (o_Mesh_isLowestOfNet h b v))) h g := by
  have hf0_1 := hf0.1
  refine zDi_of "PeriodSlots$Mesh" prog_3_method_16_code 2 (some .boolean) rfl (by decide) [zO X b, zI v] rfl (fun _ q => q) (Nat.le_of_ble_eq_true rfl) ?_
  intro Γ Q C hQ
  refine zr_aload_n C d_X1_isLowestOfNet_0 rfl ?_
  refine zr_iload_n C d_X1_isLowestOfNet_1 rfl ?_
  refine zr_callVi (As := [.int v]) (st := []) (c := b) C (c_Mesh_netOf X h g b v hb hf0) k_Mesh_netOf m435 m436 m437 (by omega) (zC_Mesh hb X _ _) rfl rfl (by decide) rfl (Nat.le_of_ble_eq_true rfl) d_X1_isLowestOfNet_2 ?_
  refine zr_callSi (As := [.int (o_Mesh_netOf h b v)]) (st := []) C (c_Int_lowestOneBit X h g (o_Mesh_netOf h b v)) k_Int_lowestOneBit m439 m440 rfl (by decide) rfl (Nat.le_of_ble_eq_true rfl) d_X1_isLowestOfNet_5 ?_
  refine zr_iconst C (v := 1) d_X1_isLowestOfNet_8 (by decide) ?_
  refine zr_iload_n C d_X1_isLowestOfNet_9 rfl ?_
  refine zr_ishl C d_X1_isLowestOfNet_10 ?_
  suffices hJ11 : ∀ (y1 : Bool), (decide ((o_Int_lowestOneBit (o_Mesh_netOf h b v)) = (zshl 1 v))) = y1 → zV X Γ Q 19 [none, none] [.int (zb y1)] h g by
    refine zr_icmp_ne C 18 d_X1_isLowestOfNet_11 (by decide) (fun c11 => ?_) (fun c11 => ?_)
    · refine zr_iconst C (v := 0) d_X1_isLowestOfNet_18 (by decide) ?_
      refine zr_lv [none, none] (by simp [zle]) ?_
      exact hJ11 false (by simp [c11])
    · refine zr_iconst C (v := 1) d_X1_isLowestOfNet_14 (by decide) ?_
      refine zr_goto C 19 d_X1_isLowestOfNet_15 (by decide) ?_
      refine zr_lv [none, none] (by simp [zle]) ?_
      exact hJ11 true (by simp [c11])
  intro y1 ey1
  have eR : o_Mesh_isLowestOfNet h b v = y1 := (by subst ey1; unfold o_Mesh_isLowestOfNet; exact rfl)
  subst hQ
  rw [eR]
  exact zr_iretz C (zb_01 _) d_X1_isLowestOfNet_19
theorem d_X1_netCount_0 : decode prog_3_method_17_code 0 = .ok (.iconst 0, 1) := by decide +kernel
theorem d_X1_netCount_1 : decode prog_3_method_17_code 1 = .ok (.istore_n 1, 1) := by decide +kernel
theorem d_X1_netCount_2 : decode prog_3_method_17_code 2 = .ok (.iconst 0, 1) := by decide +kernel
theorem d_X1_netCount_3 : decode prog_3_method_17_code 3 = .ok (.istore_n 2, 1) := by decide +kernel
theorem d_X1_netCount_4 : decode prog_3_method_17_code 4 = .ok (.iload_n 2, 1) := by decide +kernel
theorem d_X1_netCount_5 : decode prog_3_method_17_code 5 = .ok (.aload_n 0, 1) := by decide +kernel
theorem d_X1_netCount_6 : decode prog_3_method_17_code 6 = .ok (.getfield 45, 3) := by decide +kernel
theorem d_X1_netCount_9 : decode prog_3_method_17_code 9 = .ok (.if_icmp .ge 20, 3) := by decide +kernel
theorem d_X1_netCount_12 : decode prog_3_method_17_code 12 = .ok (.aload_n 0, 1) := by decide +kernel
theorem d_X1_netCount_13 : decode prog_3_method_17_code 13 = .ok (.iload_n 2, 1) := by decide +kernel
theorem d_X1_netCount_14 : decode prog_3_method_17_code 14 = .ok (.invokevirtual 99, 3) := by decide +kernel
theorem d_X1_netCount_17 : decode prog_3_method_17_code 17 = .ok (.ifCond .eq 6, 3) := by decide +kernel
theorem d_X1_netCount_20 : decode prog_3_method_17_code 20 = .ok (.iinc 1 1, 3) := by decide +kernel
theorem d_X1_netCount_23 : decode prog_3_method_17_code 23 = .ok (.iinc 2 1, 3) := by decide +kernel
theorem d_X1_netCount_26 : decode prog_3_method_17_code 26 = .ok (.goto (-22), 3) := by decide +kernel
theorem d_X1_netCount_29 : decode prog_3_method_17_code 29 = .ok (.iload_n 1, 1) := by decide +kernel
theorem d_X1_netCount_30 : decode prog_3_method_17_code 30 = .ok (.ireturn, 1) := by decide +kernel
abbrev M_Mesh_netCount : zMT := (⟨"PeriodSlots$Mesh", "netCount", "()I"⟩, prog_3_method_17_code, 3, (some .int))
theorem k_Mesh_netCount : zcall M_Mesh_netCount 0 := ⟨zU_in (i := 430) (by decide +kernel) rfl, m56, ⟨by decide, by decide, by decide +kernel⟩, by decide⟩
def o_Mesh_netCount (h : zHp) (b : Nat) : Int32 :=
  (zrep (fun (i4_1 : Nat) (s4_1 : Int32) => (if (o_Mesh_isLowestOfNet h b (nI i4_1)) = true then (s4_1 + 1) else s4_1)) 0 (zcn (h b 0)))
theorem rd_Mesh_netCount {h h2 : zHp} {b : Nat} (e0 : h2 (b + 2) = h (b + 2)) (e1 : h2 b 0 = h b 0) : o_Mesh_netCount h2 b = o_Mesh_netCount h b := by
  unfold o_Mesh_netCount
  simp only [e0, e1, rd_Mesh_isLowestOfNet e0 e1]

set_option maxHeartbeats 400000 in
set_option maxRecDepth 20000 in
theorem c_Mesh_netCount (X : zXT) (h : zHp) (g : zLg) (b : Nat) (hb : b = 3 ∨ b = 15 ∨ b = 27) (hf0 : zfit h b 0 8) : zDi X M_Mesh_netCount 4 [zR X b] h g (zI (o_Mesh_netCount h b)) h g := by
  have hf0_1 := hf0.1
  refine zDi_of "PeriodSlots$Mesh" prog_3_method_17_code 3 (some .int) rfl (by decide) [zO X b, none, none] rfl (fun _ q => q) (Nat.le_of_ble_eq_true rfl) ?_
  intro Γ Q C hQ
  refine zr_iconst C (v := 0) d_X1_netCount_0 (by decide) ?_
  refine zr_istore_n C [zO X b, zI 0, none] d_X1_netCount_1 (Nat.le_of_ble_eq_true rfl) rfl rfl ?_
  refine zr_iconst C (v := 0) d_X1_netCount_2 (by decide) ?_
  refine zr_istore_n C [zO X b, zI 0, zI 0] d_X1_netCount_3 (Nat.le_of_ble_eq_true rfl) rfl rfl ?_
  refine zfor (f := (fun (i4_1 : Nat) (s4_1 : Int32) => (if (o_Mesh_isLowestOfNet h b (nI i4_1)) = true then (s4_1 + 1) else s4_1))) (a := 0) (fun i4_1 s4_1 => zV X Γ Q 4 [zO X b, zI s4_1, zI (nI i4_1)] [] h g) (fun _ _ => True) (zcn (h b 0)) trivial (fun i4_1 s4_1 hi4_1 hI4_1 => ⟨trivial, fun hk4_1 => ?_⟩) (fun r4_1 er4_1 hI4_1 => ?_)
  · refine zr_iload_n C d_X1_netCount_4 rfl ?_
    refine zr_aload_n C d_X1_netCount_5 rfl ?_
    refine gf_Mesh_0 C hb m95 d_X1_netCount_6 ?_
    refine zr_icmp_ge C 29 d_X1_netCount_9 (by decide) (fun c => absurd c (zge_no rfl (by omega))) (fun _ => ?_)
    refine zr_aload_n C d_X1_netCount_12 rfl ?_
    refine zr_iload_n C d_X1_netCount_13 rfl ?_
    refine zr_callVi (As := [.int (nI i4_1)]) (st := []) (c := b) C (c_Mesh_isLowestOfNet X h g b (nI i4_1) hb hf0) k_Mesh_isLowestOfNet m431 m432 m433 (by omega) (zC_Mesh hb X _ _) rfl rfl (by decide) rfl (Nat.le_of_ble_eq_true rfl) d_X1_netCount_14 ?_
    suffices hJ17 : ∀ (y2 : Int32), (if (o_Mesh_isLowestOfNet h b (nI i4_1)) = true then (s4_1 + 1) else s4_1) = y2 → zV X Γ Q 23 [zO X b, zI y2, zI (nI i4_1)] [] h g by
      refine zr_ifz_eq C 23 d_X1_netCount_17 (by decide) (fun c17 => ?_) (fun c17 => ?_)
      · exact hJ17 s4_1 (((if_neg (zbf c17))))
      · refine zr_iinc C [zO X b, zI (s4_1 + 1), zI (nI i4_1)] (v := (s4_1 + 1)) d_X1_netCount_20 rfl rfl (Nat.le_of_ble_eq_true rfl) rfl rfl ?_
        exact hJ17 (s4_1 + 1) (((if_pos c17)))
    intro y2 ey2
    refine zr_iinc C [zO X b, zI y2, zI (nI (i4_1 + 1))] (v := (nI (i4_1 + 1))) d_X1_netCount_23 rfl (zn_add rfl rfl) (Nat.le_of_ble_eq_true rfl) rfl rfl ?_
    refine zr_goto C 4 d_X1_netCount_26 (by decide) ?_
    exact hk4_1 y2 (by subst ey2; exact rfl)
  refine zr_iload_n C d_X1_netCount_4 rfl ?_
  refine zr_aload_n C d_X1_netCount_5 rfl ?_
  refine gf_Mesh_0 C hb m95 d_X1_netCount_6 ?_
  refine zr_icmp_ge C 29 d_X1_netCount_9 (by decide) (fun _ => ?_) (fun c => absurd (zge_yes rfl (by omega) (by have := zcn_small (h b 0); omega)) c)
  refine zr_iload_n C d_X1_netCount_29 rfl ?_
  have eR : o_Mesh_netCount h b = r4_1 := (by subst er4_1; unfold o_Mesh_netCount; exact rfl)
  subst hQ
  rw [eR]
  exact zr_ireti C d_X1_netCount_30
theorem d_X1_occupiedByAny_0 : decode prog_3_method_25_code 0 = .ok (.iconst 0, 1) := by decide +kernel
theorem d_X1_occupiedByAny_1 : decode prog_3_method_25_code 1 = .ok (.istore_n 2, 1) := by decide +kernel
theorem d_X1_occupiedByAny_2 : decode prog_3_method_25_code 2 = .ok (.iconst 0, 1) := by decide +kernel
theorem d_X1_occupiedByAny_3 : decode prog_3_method_25_code 3 = .ok (.istore_n 3, 1) := by decide +kernel
theorem d_X1_occupiedByAny_4 : decode prog_3_method_25_code 4 = .ok (.iload_n 3, 1) := by decide +kernel
theorem d_X1_occupiedByAny_5 : decode prog_3_method_25_code 5 = .ok (.aload_n 0, 1) := by decide +kernel
theorem d_X1_occupiedByAny_6 : decode prog_3_method_25_code 6 = .ok (.getfield 45, 3) := by decide +kernel
theorem d_X1_occupiedByAny_9 : decode prog_3_method_25_code 9 = .ok (.if_icmp .ge 26, 3) := by decide +kernel
theorem d_X1_occupiedByAny_12 : decode prog_3_method_25_code 12 = .ok (.iload_n 1, 1) := by decide +kernel
theorem d_X1_occupiedByAny_13 : decode prog_3_method_25_code 13 = .ok (.iload_n 3, 1) := by decide +kernel
theorem d_X1_occupiedByAny_14 : decode prog_3_method_25_code 14 = .ok (.invokestatic 89, 3) := by decide +kernel
theorem d_X1_occupiedByAny_17 : decode prog_3_method_25_code 17 = .ok (.ifCond .eq 12, 3) := by decide +kernel
theorem d_X1_occupiedByAny_20 : decode prog_3_method_25_code 20 = .ok (.iload_n 2, 1) := by decide +kernel
theorem d_X1_occupiedByAny_21 : decode prog_3_method_25_code 21 = .ok (.aload_n 0, 1) := by decide +kernel
theorem d_X1_occupiedByAny_22 : decode prog_3_method_25_code 22 = .ok (.getfield 39, 3) := by decide +kernel
theorem d_X1_occupiedByAny_25 : decode prog_3_method_25_code 25 = .ok (.iload_n 3, 1) := by decide +kernel
theorem d_X1_occupiedByAny_26 : decode prog_3_method_25_code 26 = .ok (.iaload, 1) := by decide +kernel
theorem d_X1_occupiedByAny_27 : decode prog_3_method_25_code 27 = .ok (.ior, 1) := by decide +kernel
theorem d_X1_occupiedByAny_28 : decode prog_3_method_25_code 28 = .ok (.istore_n 2, 1) := by decide +kernel
theorem d_X1_occupiedByAny_29 : decode prog_3_method_25_code 29 = .ok (.iinc 3 1, 3) := by decide +kernel
theorem d_X1_occupiedByAny_32 : decode prog_3_method_25_code 32 = .ok (.goto (-28), 3) := by decide +kernel
theorem d_X1_occupiedByAny_35 : decode prog_3_method_25_code 35 = .ok (.iload_n 2, 1) := by decide +kernel
theorem d_X1_occupiedByAny_36 : decode prog_3_method_25_code 36 = .ok (.ireturn, 1) := by decide +kernel
abbrev M_Mesh_occupiedByAny : zMT := (⟨"PeriodSlots$Mesh", "occupiedByAny", "(I)I"⟩, prog_3_method_25_code, 4, (some .int))
theorem k_Mesh_occupiedByAny : zcall M_Mesh_occupiedByAny 1 := ⟨zU_in (i := 409) (by decide +kernel) rfl, m56, ⟨by decide, by decide, by decide +kernel⟩, by decide⟩
def o_Mesh_occupiedByAny (h : zHp) (b : Nat) (set : Int32) : Int32 :=
  (zrep (fun (i4_1 : Nat) (s4_1 : Int32) => (if (o_Slots_has set (nI i4_1)) = true then (s4_1 ||| (h (b + 10) i4_1)) else s4_1)) 0 (zcn (h b 0)))
theorem rd_Mesh_occupiedByAny {h h2 : zHp} {b : Nat} {set : Int32} (e0 : h2 (b + 10) = h (b + 10)) (e1 : h2 b 0 = h b 0) : o_Mesh_occupiedByAny h2 b set = o_Mesh_occupiedByAny h b set := by
  unfold o_Mesh_occupiedByAny
  simp only [e0, e1]

set_option maxHeartbeats 400000 in
set_option maxRecDepth 20000 in
theorem c_Mesh_occupiedByAny (X : zXT) (h : zHp) (g : zLg) (b : Nat) (set : Int32) (hb : b = 3 ∨ b = 15 ∨ b = 27) (hf0 : zfit h b 0 8) : zDi X M_Mesh_occupiedByAny 1 [zR X b, .int set] h g (zI (o_Mesh_occupiedByAny h b set)) h g := by
  have hf0_1 := hf0.1
  refine zDi_of "PeriodSlots$Mesh" prog_3_method_25_code 4 (some .int) rfl (by decide) [zO X b, zI set, none, none] rfl (fun _ q => q) (Nat.le_of_ble_eq_true rfl) ?_
  intro Γ Q C hQ
  refine zr_iconst C (v := 0) d_X1_occupiedByAny_0 (by decide) ?_
  refine zr_istore_n C [zO X b, zI set, zI 0, none] d_X1_occupiedByAny_1 (Nat.le_of_ble_eq_true rfl) rfl rfl ?_
  refine zr_iconst C (v := 0) d_X1_occupiedByAny_2 (by decide) ?_
  refine zr_istore_n C [zO X b, zI set, zI 0, zI 0] d_X1_occupiedByAny_3 (Nat.le_of_ble_eq_true rfl) rfl rfl ?_
  refine zfor (f := (fun (i4_1 : Nat) (s4_1 : Int32) => (if (o_Slots_has set (nI i4_1)) = true then (s4_1 ||| (h (b + 10) i4_1)) else s4_1))) (a := 0) (fun i4_1 s4_1 => zV X Γ Q 4 [zO X b, zI set, zI s4_1, zI (nI i4_1)] [] h g) (fun _ _ => True) (zcn (h b 0)) trivial (fun i4_1 s4_1 hi4_1 hI4_1 => ⟨trivial, fun hk4_1 => ?_⟩) (fun r4_1 er4_1 hI4_1 => ?_)
  · refine zr_iload_n C d_X1_occupiedByAny_4 rfl ?_
    refine zr_aload_n C d_X1_occupiedByAny_5 rfl ?_
    refine gf_Mesh_0 C hb m95 d_X1_occupiedByAny_6 ?_
    refine zr_icmp_ge C 35 d_X1_occupiedByAny_9 (by decide) (fun c => absurd c (zge_no rfl (by omega))) (fun _ => ?_)
    refine zr_iload_n C d_X1_occupiedByAny_12 rfl ?_
    refine zr_iload_n C d_X1_occupiedByAny_13 rfl ?_
    refine zr_callNi (As := [.int set, .int (nI i4_1)]) (st := []) C (c_Slots_has X h g set (nI i4_1)) k_Slots_has (by simp [zNest]) m322 rfl (by decide) rfl (Nat.le_of_ble_eq_true rfl) d_X1_occupiedByAny_14 ?_
    suffices hJ17 : ∀ (y2 : Int32), (if (o_Slots_has set (nI i4_1)) = true then (s4_1 ||| (h (b + 10) i4_1)) else s4_1) = y2 → zV X Γ Q 29 [zO X b, zI set, zI y2, zI (nI i4_1)] [] h g by
      refine zr_ifz_eq C 29 d_X1_occupiedByAny_17 (by decide) (fun c17 => ?_) (fun c17 => ?_)
      · exact hJ17 s4_1 (((if_neg (zbf c17))))
      · refine zr_iload_n C d_X1_occupiedByAny_20 rfl ?_
        refine zr_aload_n C d_X1_occupiedByAny_21 rfl ?_
        refine gf_Mesh_12 C hb m126 d_X1_occupiedByAny_22 ?_
        refine zr_iload_n C d_X1_occupiedByAny_25 rfl ?_
        refine zr_iald C (za_mesh_10 hb) (i4_1) rfl (by omega) (by decide) d_X1_occupiedByAny_26 ?_
        refine zr_ior C d_X1_occupiedByAny_27 ?_
        refine zr_istore_n C [zO X b, zI set, zI (s4_1 ||| (h (b + 10) i4_1)), zI (nI i4_1)] d_X1_occupiedByAny_28 (Nat.le_of_ble_eq_true rfl) rfl rfl ?_
        exact hJ17 (s4_1 ||| (h (b + 10) i4_1)) (((if_pos c17)))
    intro y2 ey2
    refine zr_iinc C [zO X b, zI set, zI y2, zI (nI (i4_1 + 1))] (v := (nI (i4_1 + 1))) d_X1_occupiedByAny_29 rfl (zn_add rfl rfl) (Nat.le_of_ble_eq_true rfl) rfl rfl ?_
    refine zr_goto C 4 d_X1_occupiedByAny_32 (by decide) ?_
    exact hk4_1 y2 (by subst ey2; exact rfl)
  refine zr_iload_n C d_X1_occupiedByAny_4 rfl ?_
  refine zr_aload_n C d_X1_occupiedByAny_5 rfl ?_
  refine gf_Mesh_0 C hb m95 d_X1_occupiedByAny_6 ?_
  refine zr_icmp_ge C 35 d_X1_occupiedByAny_9 (by decide) (fun _ => ?_) (fun c => absurd (zge_yes rfl (by omega) (by have := zcn_small (h b 0); omega)) c)
  refine zr_iload_n C d_X1_occupiedByAny_35 rfl ?_
  have eR : o_Mesh_occupiedByAny h b set = r4_1 := (by subst er4_1; unfold o_Mesh_occupiedByAny; exact rfl)
  subst hQ
  rw [eR]
  exact zr_ireti C d_X1_occupiedByAny_36
theorem d_X1_offsetsOutside_0 : decode prog_3_method_26_code 0 = .ok (.iconst 0, 1) := by decide +kernel
theorem d_X1_offsetsOutside_1 : decode prog_3_method_26_code 1 = .ok (.istore_n 3, 1) := by decide +kernel
theorem d_X1_offsetsOutside_2 : decode prog_3_method_26_code 2 = .ok (.iconst 0, 1) := by decide +kernel
theorem d_X1_offsetsOutside_3 : decode prog_3_method_26_code 3 = .ok (.istore 4, 2) := by decide +kernel
theorem d_X1_offsetsOutside_5 : decode prog_3_method_26_code 5 = .ok (.iload 4, 2) := by decide +kernel
theorem d_X1_offsetsOutside_7 : decode prog_3_method_26_code 7 = .ok (.aload_n 0, 1) := by decide +kernel
theorem d_X1_offsetsOutside_8 : decode prog_3_method_26_code 8 = .ok (.getfield 9, 3) := by decide +kernel
theorem d_X1_offsetsOutside_11 : decode prog_3_method_26_code 11 = .ok (.iload_n 1, 1) := by decide +kernel
theorem d_X1_offsetsOutside_12 : decode prog_3_method_26_code 12 = .ok (.iaload, 1) := by decide +kernel
theorem d_X1_offsetsOutside_13 : decode prog_3_method_26_code 13 = .ok (.if_icmp .ge 30, 3) := by decide +kernel
theorem d_X1_offsetsOutside_16 : decode prog_3_method_26_code 16 = .ok (.aload_n 0, 1) := by decide +kernel
theorem d_X1_offsetsOutside_17 : decode prog_3_method_26_code 17 = .ok (.getfield 24, 3) := by decide +kernel
theorem d_X1_offsetsOutside_20 : decode prog_3_method_26_code 20 = .ok (.iload_n 1, 1) := by decide +kernel
theorem d_X1_offsetsOutside_21 : decode prog_3_method_26_code 21 = .ok (.iaload, 1) := by decide +kernel
theorem d_X1_offsetsOutside_22 : decode prog_3_method_26_code 22 = .ok (.iload 4, 2) := by decide +kernel
theorem d_X1_offsetsOutside_24 : decode prog_3_method_26_code 24 = .ok (.ishl, 1) := by decide +kernel
theorem d_X1_offsetsOutside_25 : decode prog_3_method_26_code 25 = .ok (.iload_n 2, 1) := by decide +kernel
theorem d_X1_offsetsOutside_26 : decode prog_3_method_26_code 26 = .ok (.iand, 1) := by decide +kernel
theorem d_X1_offsetsOutside_27 : decode prog_3_method_26_code 27 = .ok (.ifCond .ne 10, 3) := by decide +kernel
theorem d_X1_offsetsOutside_30 : decode prog_3_method_26_code 30 = .ok (.iload_n 3, 1) := by decide +kernel
theorem d_X1_offsetsOutside_31 : decode prog_3_method_26_code 31 = .ok (.iconst 1, 1) := by decide +kernel
theorem d_X1_offsetsOutside_32 : decode prog_3_method_26_code 32 = .ok (.iload 4, 2) := by decide +kernel
theorem d_X1_offsetsOutside_34 : decode prog_3_method_26_code 34 = .ok (.ishl, 1) := by decide +kernel
theorem d_X1_offsetsOutside_35 : decode prog_3_method_26_code 35 = .ok (.ior, 1) := by decide +kernel
theorem d_X1_offsetsOutside_36 : decode prog_3_method_26_code 36 = .ok (.istore_n 3, 1) := by decide +kernel
theorem d_X1_offsetsOutside_37 : decode prog_3_method_26_code 37 = .ok (.iinc 4 1, 3) := by decide +kernel
theorem d_X1_offsetsOutside_40 : decode prog_3_method_26_code 40 = .ok (.goto (-35), 3) := by decide +kernel
theorem d_X1_offsetsOutside_43 : decode prog_3_method_26_code 43 = .ok (.iload_n 3, 1) := by decide +kernel
theorem d_X1_offsetsOutside_44 : decode prog_3_method_26_code 44 = .ok (.ireturn, 1) := by decide +kernel
abbrev M_Mesh_offsetsOutside : zMT := (⟨"PeriodSlots$Mesh", "offsetsOutside", "(II)I"⟩, prog_3_method_26_code, 5, (some .int))
theorem k_Mesh_offsetsOutside : zcall M_Mesh_offsetsOutside 2 := ⟨zU_in (i := 426) (by decide +kernel) rfl, m56, ⟨by decide, by decide, by decide +kernel⟩, by decide⟩
def o_Mesh_offsetsOutside (h : zHp) (b : Nat) (v : Nat) (taken : Int32) : Int32 :=
  (zrep (fun (i5_1 : Nat) (s5_1 : Int32) => (if ((zshl (h (b + 5) v) (nI i5_1)) &&& taken) = 0 then (s5_1 ||| (zshl 1 (nI i5_1))) else s5_1)) 0 (zcn (h (b + 1) v)))
theorem rd_Mesh_offsetsOutside {h h2 : zHp} {b : Nat} {v : Nat} {taken : Int32} (e0 : h2 (b + 1) = h (b + 1)) (e1 : h2 (b + 5) = h (b + 5)) : o_Mesh_offsetsOutside h2 b v taken = o_Mesh_offsetsOutside h b v taken := by
  unfold o_Mesh_offsetsOutside
  simp only [e0, e1]

set_option maxHeartbeats 400000 in
set_option maxRecDepth 20000 in
theorem c_Mesh_offsetsOutside (X : zXT) (h : zHp) (g : zLg) (b : Nat) (v : Nat) (taken : Int32) {x_v : Int32} (e_v : x_v = nI v) (hb : b = 3 ∨ b = 15 ∨ b = 27) (hl0 : v < 8) : zDi X M_Mesh_offsetsOutside 0 [zR X b, .int x_v, .int taken] h g (zI (o_Mesh_offsetsOutside h b v taken)) h g := by
  subst e_v
  refine zDi_of "PeriodSlots$Mesh" prog_3_method_26_code 5 (some .int) rfl (by decide) [zO X b, zI (nI v), zI taken, none, none] rfl (fun _ q => q) (Nat.le_of_ble_eq_true rfl) ?_
  intro Γ Q C hQ
  refine zr_iconst C (v := 0) d_X1_offsetsOutside_0 (by decide) ?_
  refine zr_istore_n C [zO X b, zI (nI v), zI taken, zI 0, none] d_X1_offsetsOutside_1 (Nat.le_of_ble_eq_true rfl) rfl rfl ?_
  refine zr_iconst C (v := 0) d_X1_offsetsOutside_2 (by decide) ?_
  refine zr_istore C [zO X b, zI (nI v), zI taken, zI 0, zI 0] d_X1_offsetsOutside_3 (Nat.le_of_ble_eq_true rfl) rfl rfl ?_
  refine zfor (f := (fun (i5_1 : Nat) (s5_1 : Int32) => (if ((zshl (h (b + 5) v) (nI i5_1)) &&& taken) = 0 then (s5_1 ||| (zshl 1 (nI i5_1))) else s5_1))) (a := 0) (fun i5_1 s5_1 => zV X Γ Q 5 [zO X b, zI (nI v), zI taken, zI s5_1, zI (nI i5_1)] [] h g) (fun _ _ => True) (zcn (h (b + 1) v)) trivial (fun i5_1 s5_1 hi5_1 hI5_1 => ⟨trivial, fun hk5_1 => ?_⟩) (fun r5_1 er5_1 hI5_1 => ?_)
  · refine zr_iload C d_X1_offsetsOutside_5 rfl ?_
    refine zr_aload_n C d_X1_offsetsOutside_7 rfl ?_
    refine gf_Mesh_3 C hb m104 d_X1_offsetsOutside_8 ?_
    refine zr_iload_n C d_X1_offsetsOutside_11 rfl ?_
    refine zr_iald C (za_mesh_1 hb) (v) rfl (by omega) (by decide) d_X1_offsetsOutside_12 ?_
    refine zr_icmp_ge C 43 d_X1_offsetsOutside_13 (by decide) (fun c => absurd c (zge_no rfl (by omega))) (fun _ => ?_)
    refine zr_aload_n C d_X1_offsetsOutside_16 rfl ?_
    refine gf_Mesh_7 C hb m117 d_X1_offsetsOutside_17 ?_
    refine zr_iload_n C d_X1_offsetsOutside_20 rfl ?_
    refine zr_iald C (za_mesh_5 hb) (v) rfl (by omega) (by decide) d_X1_offsetsOutside_21 ?_
    refine zr_iload C d_X1_offsetsOutside_22 rfl ?_
    refine zr_ishl C d_X1_offsetsOutside_24 ?_
    refine zr_iload_n C d_X1_offsetsOutside_25 rfl ?_
    refine zr_iand C d_X1_offsetsOutside_26 ?_
    suffices hJ27 : ∀ (y2 : Int32), (if ((zshl (h (b + 5) v) (nI i5_1)) &&& taken) = 0 then (s5_1 ||| (zshl 1 (nI i5_1))) else s5_1) = y2 → zV X Γ Q 37 [zO X b, zI (nI v), zI taken, zI y2, zI (nI i5_1)] [] h g by
      refine zr_if_ne C 37 d_X1_offsetsOutside_27 (by decide) (fun c27 => ?_) (fun c27 => ?_)
      · exact hJ27 s5_1 (((if_neg c27)))
      · refine zr_iload_n C d_X1_offsetsOutside_30 rfl ?_
        refine zr_iconst C (v := 1) d_X1_offsetsOutside_31 (by decide) ?_
        refine zr_iload C d_X1_offsetsOutside_32 rfl ?_
        refine zr_ishl C d_X1_offsetsOutside_34 ?_
        refine zr_ior C d_X1_offsetsOutside_35 ?_
        refine zr_istore_n C [zO X b, zI (nI v), zI taken, zI (s5_1 ||| (zshl 1 (nI i5_1))), zI (nI i5_1)] d_X1_offsetsOutside_36 (Nat.le_of_ble_eq_true rfl) rfl rfl ?_
        exact hJ27 (s5_1 ||| (zshl 1 (nI i5_1))) (((if_pos c27)))
    intro y2 ey2
    refine zr_iinc C [zO X b, zI (nI v), zI taken, zI y2, zI (nI (i5_1 + 1))] (v := (nI (i5_1 + 1))) d_X1_offsetsOutside_37 rfl (zn_add rfl rfl) (Nat.le_of_ble_eq_true rfl) rfl rfl ?_
    refine zr_goto C 5 d_X1_offsetsOutside_40 (by decide) ?_
    exact hk5_1 y2 (by subst ey2; exact rfl)
  refine zr_iload C d_X1_offsetsOutside_5 rfl ?_
  refine zr_aload_n C d_X1_offsetsOutside_7 rfl ?_
  refine gf_Mesh_3 C hb m104 d_X1_offsetsOutside_8 ?_
  refine zr_iload_n C d_X1_offsetsOutside_11 rfl ?_
  refine zr_iald C (za_mesh_1 hb) (v) rfl (by omega) (by decide) d_X1_offsetsOutside_12 ?_
  refine zr_icmp_ge C 43 d_X1_offsetsOutside_13 (by decide) (fun _ => ?_) (fun c => absurd (zge_yes rfl (by omega) (by have := zcn_small (h (b + 1) v); omega)) c)
  refine zr_iload_n C d_X1_offsetsOutside_43 rfl ?_
  have eR : o_Mesh_offsetsOutside h b v taken = r5_1 := (by subst er5_1; unfold o_Mesh_offsetsOutside; exact rfl)
  subst hQ
  rw [eR]
  exact zr_ireti C d_X1_offsetsOutside_44
theorem d_X1_freeOffsets_0 : decode prog_3_method_27_code 0 = .ok (.aload_n 0, 1) := by decide +kernel
theorem d_X1_freeOffsets_1 : decode prog_3_method_27_code 1 = .ok (.iload_n 1, 1) := by decide +kernel
theorem d_X1_freeOffsets_2 : decode prog_3_method_27_code 2 = .ok (.aload_n 0, 1) := by decide +kernel
theorem d_X1_freeOffsets_3 : decode prog_3_method_27_code 3 = .ok (.aload_n 0, 1) := by decide +kernel
theorem d_X1_freeOffsets_4 : decode prog_3_method_27_code 4 = .ok (.getfield 27, 3) := by decide +kernel
theorem d_X1_freeOffsets_7 : decode prog_3_method_27_code 7 = .ok (.iload_n 1, 1) := by decide +kernel
theorem d_X1_freeOffsets_8 : decode prog_3_method_27_code 8 = .ok (.iaload, 1) := by decide +kernel
theorem d_X1_freeOffsets_9 : decode prog_3_method_27_code 9 = .ok (.invokevirtual 122, 3) := by decide +kernel
theorem d_X1_freeOffsets_12 : decode prog_3_method_27_code 12 = .ok (.invokevirtual 125, 3) := by decide +kernel
theorem d_X1_freeOffsets_15 : decode prog_3_method_27_code 15 = .ok (.ireturn, 1) := by decide +kernel
abbrev M_Mesh_freeOffsets : zMT := (⟨"PeriodSlots$Mesh", "freeOffsets", "(I)I"⟩, prog_3_method_27_code, 2, (some .int))
theorem k_Mesh_freeOffsets : zcall M_Mesh_freeOffsets 1 := ⟨zU_in (i := 422) (by decide +kernel) rfl, m56, ⟨by decide, by decide, by decide +kernel⟩, by decide⟩
def o_Mesh_freeOffsets (h : zHp) (b : Nat) (v : Nat) : Int32 :=
  (o_Mesh_offsetsOutside h b v (o_Mesh_occupiedByAny h b (h (b + 6) v)))
theorem rd_Mesh_freeOffsets {h h2 : zHp} {b : Nat} {v : Nat} (e0 : h2 (b + 1) = h (b + 1)) (e1 : h2 (b + 10) = h (b + 10)) (e2 : h2 (b + 5) = h (b + 5)) (e3 : h2 (b + 6) = h (b + 6)) (e4 : h2 b 0 = h b 0) : o_Mesh_freeOffsets h2 b v = o_Mesh_freeOffsets h b v := by
  unfold o_Mesh_freeOffsets
  simp only [e0, e1, e2, e3, e4, rd_Mesh_occupiedByAny e1 e4, rd_Mesh_offsetsOutside e0 e2]

set_option maxHeartbeats 400000 in
set_option maxRecDepth 20000 in
theorem c_Mesh_freeOffsets (X : zXT) (h : zHp) (g : zLg) (b : Nat) (v : Nat) {x_v : Int32} (e_v : x_v = nI v) (hb : b = 3 ∨ b = 15 ∨ b = 27) (hf0 : zfit h b 0 8) (hl1 : v < 8) : zDi X M_Mesh_freeOffsets 2 [zR X b, .int x_v] h g (zI (o_Mesh_freeOffsets h b v)) h g := by
  subst e_v
  have hf0_1 := hf0.1
  refine zDi_of "PeriodSlots$Mesh" prog_3_method_27_code 2 (some .int) rfl (by decide) [zO X b, zI (nI v)] rfl (fun _ q => q) (Nat.le_of_ble_eq_true rfl) ?_
  intro Γ Q C hQ
  refine zr_aload_n C d_X1_freeOffsets_0 rfl ?_
  refine zr_iload_n C d_X1_freeOffsets_1 rfl ?_
  refine zr_aload_n C d_X1_freeOffsets_2 rfl ?_
  refine zr_aload_n C d_X1_freeOffsets_3 rfl ?_
  refine gf_Mesh_8 C hb m118 d_X1_freeOffsets_4 ?_
  refine zr_iload_n C d_X1_freeOffsets_7 rfl ?_
  refine zr_iald C (za_mesh_6 hb) (v) rfl (by omega) (by decide) d_X1_freeOffsets_8 ?_
  refine zr_callVi (As := [.int (h (b + 6) v)]) (st := [.int (nI v), zR X b]) (c := b) C (c_Mesh_occupiedByAny X h g b (h (b + 6) v) hb hf0) k_Mesh_occupiedByAny m406 m408 m7 (by omega) (zC_Mesh hb X _ _) rfl rfl (by decide) rfl (Nat.le_of_ble_eq_true rfl) d_X1_freeOffsets_9 ?_
  refine zr_callVi (As := [.int (nI v), .int (o_Mesh_occupiedByAny h b (h (b + 6) v))]) (st := []) (c := b) C (c_Mesh_offsetsOutside X h g b v (o_Mesh_occupiedByAny h b (h (b + 6) v)) rfl hb (by omega)) k_Mesh_offsetsOutside m423 m424 m425 (by omega) (zC_Mesh hb X _ _) rfl rfl (by decide) rfl (Nat.le_of_ble_eq_true rfl) d_X1_freeOffsets_12 ?_
  have eR : o_Mesh_freeOffsets h b v = (o_Mesh_offsetsOutside h b v (o_Mesh_occupiedByAny h b (h (b + 6) v))) := (by unfold o_Mesh_freeOffsets; exact rfl)
  subst hQ
  rw [eR]
  exact zr_ireti C d_X1_freeOffsets_15
theorem d_X1_placedSet_0 : decode prog_3_method_28_code 0 = .ok (.iconst 0, 1) := by decide +kernel
theorem d_X1_placedSet_1 : decode prog_3_method_28_code 1 = .ok (.istore_n 1, 1) := by decide +kernel
theorem d_X1_placedSet_2 : decode prog_3_method_28_code 2 = .ok (.iconst 0, 1) := by decide +kernel
theorem d_X1_placedSet_3 : decode prog_3_method_28_code 3 = .ok (.istore_n 2, 1) := by decide +kernel
theorem d_X1_placedSet_4 : decode prog_3_method_28_code 4 = .ok (.iload_n 2, 1) := by decide +kernel
theorem d_X1_placedSet_5 : decode prog_3_method_28_code 5 = .ok (.aload_n 0, 1) := by decide +kernel
theorem d_X1_placedSet_6 : decode prog_3_method_28_code 6 = .ok (.getfield 45, 3) := by decide +kernel
theorem d_X1_placedSet_9 : decode prog_3_method_28_code 9 = .ok (.if_icmp .ge 26, 3) := by decide +kernel
theorem d_X1_placedSet_12 : decode prog_3_method_28_code 12 = .ok (.aload_n 0, 1) := by decide +kernel
theorem d_X1_placedSet_13 : decode prog_3_method_28_code 13 = .ok (.getfield 18, 3) := by decide +kernel
theorem d_X1_placedSet_16 : decode prog_3_method_28_code 16 = .ok (.iload_n 2, 1) := by decide +kernel
theorem d_X1_placedSet_17 : decode prog_3_method_28_code 17 = .ok (.iaload, 1) := by decide +kernel
theorem d_X1_placedSet_18 : decode prog_3_method_28_code 18 = .ok (.bipush (-9), 2) := by decide +kernel
theorem d_X1_placedSet_20 : decode prog_3_method_28_code 20 = .ok (.if_icmp .eq 9, 3) := by decide +kernel
theorem d_X1_placedSet_23 : decode prog_3_method_28_code 23 = .ok (.iload_n 1, 1) := by decide +kernel
theorem d_X1_placedSet_24 : decode prog_3_method_28_code 24 = .ok (.iconst 1, 1) := by decide +kernel
theorem d_X1_placedSet_25 : decode prog_3_method_28_code 25 = .ok (.iload_n 2, 1) := by decide +kernel
theorem d_X1_placedSet_26 : decode prog_3_method_28_code 26 = .ok (.ishl, 1) := by decide +kernel
theorem d_X1_placedSet_27 : decode prog_3_method_28_code 27 = .ok (.ior, 1) := by decide +kernel
theorem d_X1_placedSet_28 : decode prog_3_method_28_code 28 = .ok (.istore_n 1, 1) := by decide +kernel
theorem d_X1_placedSet_29 : decode prog_3_method_28_code 29 = .ok (.iinc 2 1, 3) := by decide +kernel
theorem d_X1_placedSet_32 : decode prog_3_method_28_code 32 = .ok (.goto (-28), 3) := by decide +kernel
theorem d_X1_placedSet_35 : decode prog_3_method_28_code 35 = .ok (.iload_n 1, 1) := by decide +kernel
theorem d_X1_placedSet_36 : decode prog_3_method_28_code 36 = .ok (.ireturn, 1) := by decide +kernel
abbrev M_Mesh_placedSet : zMT := (⟨"PeriodSlots$Mesh", "placedSet", "()I"⟩, prog_3_method_28_code, 3, (some .int))
theorem k_Mesh_placedSet : zcall M_Mesh_placedSet 0 := ⟨zU_in (i := 413) (by decide +kernel) rfl, m56, ⟨by decide, by decide, by decide +kernel⟩, by decide⟩
def o_Mesh_placedSet (h : zHp) (b : Nat) : Int32 :=
  (zrep (fun (i4_1 : Nat) (s4_1 : Int32) => (if (h (b + 3) i4_1) = (-9) then s4_1 else (s4_1 ||| (zshl 1 (nI i4_1))))) 0 (zcn (h b 0)))
theorem rd_Mesh_placedSet {h h2 : zHp} {b : Nat} (e0 : h2 (b + 3) = h (b + 3)) (e1 : h2 b 0 = h b 0) : o_Mesh_placedSet h2 b = o_Mesh_placedSet h b := by
  unfold o_Mesh_placedSet
  simp only [e0, e1]

set_option maxHeartbeats 400000 in
set_option maxRecDepth 20000 in
theorem c_Mesh_placedSet (X : zXT) (h : zHp) (g : zLg) (b : Nat) (hb : b = 3 ∨ b = 15 ∨ b = 27) (hf0 : zfit h b 0 8) : zDi X M_Mesh_placedSet 0 [zR X b] h g (zI (o_Mesh_placedSet h b)) h g := by
  have hf0_1 := hf0.1
  refine zDi_of "PeriodSlots$Mesh" prog_3_method_28_code 3 (some .int) rfl (by decide) [zO X b, none, none] rfl (fun _ q => q) (Nat.le_of_ble_eq_true rfl) ?_
  intro Γ Q C hQ
  refine zr_iconst C (v := 0) d_X1_placedSet_0 (by decide) ?_
  refine zr_istore_n C [zO X b, zI 0, none] d_X1_placedSet_1 (Nat.le_of_ble_eq_true rfl) rfl rfl ?_
  refine zr_iconst C (v := 0) d_X1_placedSet_2 (by decide) ?_
  refine zr_istore_n C [zO X b, zI 0, zI 0] d_X1_placedSet_3 (Nat.le_of_ble_eq_true rfl) rfl rfl ?_
  refine zfor (f := (fun (i4_1 : Nat) (s4_1 : Int32) => (if (h (b + 3) i4_1) = (-9) then s4_1 else (s4_1 ||| (zshl 1 (nI i4_1)))))) (a := 0) (fun i4_1 s4_1 => zV X Γ Q 4 [zO X b, zI s4_1, zI (nI i4_1)] [] h g) (fun _ _ => True) (zcn (h b 0)) trivial (fun i4_1 s4_1 hi4_1 hI4_1 => ⟨trivial, fun hk4_1 => ?_⟩) (fun r4_1 er4_1 hI4_1 => ?_)
  · refine zr_iload_n C d_X1_placedSet_4 rfl ?_
    refine zr_aload_n C d_X1_placedSet_5 rfl ?_
    refine gf_Mesh_0 C hb m95 d_X1_placedSet_6 ?_
    refine zr_icmp_ge C 35 d_X1_placedSet_9 (by decide) (fun c => absurd c (zge_no rfl (by omega))) (fun _ => ?_)
    refine zr_aload_n C d_X1_placedSet_12 rfl ?_
    refine gf_Mesh_5 C hb m111 d_X1_placedSet_13 ?_
    refine zr_iload_n C d_X1_placedSet_16 rfl ?_
    refine zr_iald C (za_mesh_3 hb) (i4_1) rfl (by omega) (by decide) d_X1_placedSet_17 ?_
    refine zr_bipush C (v := (-9)) d_X1_placedSet_18 (by decide) ?_
    suffices hJ20 : ∀ (y2 : Int32), (if (h (b + 3) i4_1) = (-9) then s4_1 else (s4_1 ||| (zshl 1 (nI i4_1)))) = y2 → zV X Γ Q 29 [zO X b, zI y2, zI (nI i4_1)] [] h g by
      refine zr_icmp_eq C 29 d_X1_placedSet_20 (by decide) (fun c20 => ?_) (fun c20 => ?_)
      · exact hJ20 s4_1 (((if_pos c20)))
      · refine zr_iload_n C d_X1_placedSet_23 rfl ?_
        refine zr_iconst C (v := 1) d_X1_placedSet_24 (by decide) ?_
        refine zr_iload_n C d_X1_placedSet_25 rfl ?_
        refine zr_ishl C d_X1_placedSet_26 ?_
        refine zr_ior C d_X1_placedSet_27 ?_
        refine zr_istore_n C [zO X b, zI (s4_1 ||| (zshl 1 (nI i4_1))), zI (nI i4_1)] d_X1_placedSet_28 (Nat.le_of_ble_eq_true rfl) rfl rfl ?_
        exact hJ20 (s4_1 ||| (zshl 1 (nI i4_1))) (((if_neg c20)))
    intro y2 ey2
    refine zr_iinc C [zO X b, zI y2, zI (nI (i4_1 + 1))] (v := (nI (i4_1 + 1))) d_X1_placedSet_29 rfl (zn_add rfl rfl) (Nat.le_of_ble_eq_true rfl) rfl rfl ?_
    refine zr_goto C 4 d_X1_placedSet_32 (by decide) ?_
    exact hk4_1 y2 (by subst ey2; exact rfl)
  refine zr_iload_n C d_X1_placedSet_4 rfl ?_
  refine zr_aload_n C d_X1_placedSet_5 rfl ?_
  refine gf_Mesh_0 C hb m95 d_X1_placedSet_6 ?_
  refine zr_icmp_ge C 35 d_X1_placedSet_9 (by decide) (fun _ => ?_) (fun c => absurd (zge_yes rfl (by omega) (by have := zcn_small (h b 0); omega)) c)
  refine zr_iload_n C d_X1_placedSet_35 rfl ?_
  have eR : o_Mesh_placedSet h b = r4_1 := (by subst er4_1; unfold o_Mesh_placedSet; exact rfl)
  subst hQ
  rw [eR]
  exact zr_ireti C d_X1_placedSet_36
theorem d_X1_differenceTo_0 : decode prog_3_method_29_code 0 = .ok (.iconst 0, 1) := by decide +kernel
theorem d_X1_differenceTo_1 : decode prog_3_method_29_code 1 = .ok (.istore_n 2, 1) := by decide +kernel
theorem d_X1_differenceTo_2 : decode prog_3_method_29_code 2 = .ok (.iconst 0, 1) := by decide +kernel
theorem d_X1_differenceTo_3 : decode prog_3_method_29_code 3 = .ok (.istore_n 3, 1) := by decide +kernel
theorem d_X1_differenceTo_4 : decode prog_3_method_29_code 4 = .ok (.iload_n 3, 1) := by decide +kernel
theorem d_X1_differenceTo_5 : decode prog_3_method_29_code 5 = .ok (.aload_n 0, 1) := by decide +kernel
theorem d_X1_differenceTo_6 : decode prog_3_method_29_code 6 = .ok (.getfield 45, 3) := by decide +kernel
theorem d_X1_differenceTo_9 : decode prog_3_method_29_code 9 = .ok (.if_icmp .ge 30, 3) := by decide +kernel
theorem d_X1_differenceTo_12 : decode prog_3_method_29_code 12 = .ok (.aload_n 0, 1) := by decide +kernel
theorem d_X1_differenceTo_13 : decode prog_3_method_29_code 13 = .ok (.getfield 18, 3) := by decide +kernel
theorem d_X1_differenceTo_16 : decode prog_3_method_29_code 16 = .ok (.iload_n 3, 1) := by decide +kernel
theorem d_X1_differenceTo_17 : decode prog_3_method_29_code 17 = .ok (.iaload, 1) := by decide +kernel
theorem d_X1_differenceTo_18 : decode prog_3_method_29_code 18 = .ok (.aload_n 1, 1) := by decide +kernel
theorem d_X1_differenceTo_19 : decode prog_3_method_29_code 19 = .ok (.getfield 18, 3) := by decide +kernel
theorem d_X1_differenceTo_22 : decode prog_3_method_29_code 22 = .ok (.iload_n 3, 1) := by decide +kernel
theorem d_X1_differenceTo_23 : decode prog_3_method_29_code 23 = .ok (.iaload, 1) := by decide +kernel
theorem d_X1_differenceTo_24 : decode prog_3_method_29_code 24 = .ok (.if_icmp .eq 9, 3) := by decide +kernel
theorem d_X1_differenceTo_27 : decode prog_3_method_29_code 27 = .ok (.iload_n 2, 1) := by decide +kernel
theorem d_X1_differenceTo_28 : decode prog_3_method_29_code 28 = .ok (.iconst 1, 1) := by decide +kernel
theorem d_X1_differenceTo_29 : decode prog_3_method_29_code 29 = .ok (.iload_n 3, 1) := by decide +kernel
theorem d_X1_differenceTo_30 : decode prog_3_method_29_code 30 = .ok (.ishl, 1) := by decide +kernel
theorem d_X1_differenceTo_31 : decode prog_3_method_29_code 31 = .ok (.ior, 1) := by decide +kernel
theorem d_X1_differenceTo_32 : decode prog_3_method_29_code 32 = .ok (.istore_n 2, 1) := by decide +kernel
theorem d_X1_differenceTo_33 : decode prog_3_method_29_code 33 = .ok (.iinc 3 1, 3) := by decide +kernel
theorem d_X1_differenceTo_36 : decode prog_3_method_29_code 36 = .ok (.goto (-32), 3) := by decide +kernel
theorem d_X1_differenceTo_39 : decode prog_3_method_29_code 39 = .ok (.iload_n 2, 1) := by decide +kernel
theorem d_X1_differenceTo_40 : decode prog_3_method_29_code 40 = .ok (.ireturn, 1) := by decide +kernel
abbrev M_Mesh_differenceTo : zMT := (⟨"PeriodSlots$Mesh", "differenceTo", "(LPeriodSlots$Mesh;)I"⟩, prog_3_method_29_code, 4, (some .int))
theorem k_Mesh_differenceTo : zcall M_Mesh_differenceTo 1 := ⟨zU_in (i := 571) (by decide +kernel) rfl, m56, ⟨by decide, by decide, by decide +kernel⟩, by decide⟩
def o_Mesh_differenceTo (h : zHp) (b : Nat) (o : Nat) : Int32 :=
  (zrep (fun (i4_1 : Nat) (s4_1 : Int32) => (if (h (b + 3) i4_1) = (h (o + 3) i4_1) then s4_1 else (s4_1 ||| (zshl 1 (nI i4_1))))) 0 (zcn (h b 0)))
theorem rd_Mesh_differenceTo {h h2 : zHp} {b : Nat} {o : Nat} (e0 : h2 (b + 3) = h (b + 3)) (e1 : h2 b 0 = h b 0) (e2 : h2 (o + 3) = h (o + 3)) : o_Mesh_differenceTo h2 b o = o_Mesh_differenceTo h b o := by
  unfold o_Mesh_differenceTo
  simp only [e0, e1, e2]

set_option maxHeartbeats 400000 in
set_option maxRecDepth 20000 in
theorem c_Mesh_differenceTo (X : zXT) (h : zHp) (g : zLg) (b : Nat) (o : Nat) (hb : b = 3 ∨ b = 15 ∨ b = 27) (ho : o = 3 ∨ o = 15 ∨ o = 27) (hf0 : zfit h b 0 8) : zDi X M_Mesh_differenceTo 0 [zR X b, zR X o] h g (zI (o_Mesh_differenceTo h b o)) h g := by
  have hf0_1 := hf0.1
  refine zDi_of "PeriodSlots$Mesh" prog_3_method_29_code 4 (some .int) rfl (by decide) [zO X b, zO X o, none, none] rfl (fun _ q => q) (Nat.le_of_ble_eq_true rfl) ?_
  intro Γ Q C hQ
  refine zr_iconst C (v := 0) d_X1_differenceTo_0 (by decide) ?_
  refine zr_istore_n C [zO X b, zO X o, zI 0, none] d_X1_differenceTo_1 (Nat.le_of_ble_eq_true rfl) rfl rfl ?_
  refine zr_iconst C (v := 0) d_X1_differenceTo_2 (by decide) ?_
  refine zr_istore_n C [zO X b, zO X o, zI 0, zI 0] d_X1_differenceTo_3 (Nat.le_of_ble_eq_true rfl) rfl rfl ?_
  refine zfor (f := (fun (i4_1 : Nat) (s4_1 : Int32) => (if (h (b + 3) i4_1) = (h (o + 3) i4_1) then s4_1 else (s4_1 ||| (zshl 1 (nI i4_1)))))) (a := 0) (fun i4_1 s4_1 => zV X Γ Q 4 [zO X b, zO X o, zI s4_1, zI (nI i4_1)] [] h g) (fun _ _ => True) (zcn (h b 0)) trivial (fun i4_1 s4_1 hi4_1 hI4_1 => ⟨trivial, fun hk4_1 => ?_⟩) (fun r4_1 er4_1 hI4_1 => ?_)
  · refine zr_iload_n C d_X1_differenceTo_4 rfl ?_
    refine zr_aload_n C d_X1_differenceTo_5 rfl ?_
    refine gf_Mesh_0 C hb m95 d_X1_differenceTo_6 ?_
    refine zr_icmp_ge C 39 d_X1_differenceTo_9 (by decide) (fun c => absurd c (zge_no rfl (by omega))) (fun _ => ?_)
    refine zr_aload_n C d_X1_differenceTo_12 rfl ?_
    refine gf_Mesh_5 C hb m111 d_X1_differenceTo_13 ?_
    refine zr_iload_n C d_X1_differenceTo_16 rfl ?_
    refine zr_iald C (za_mesh_3 hb) (i4_1) rfl (by omega) (by decide) d_X1_differenceTo_17 ?_
    refine zr_aload_n C d_X1_differenceTo_18 rfl ?_
    refine gf_Mesh_5 C ho m111 d_X1_differenceTo_19 ?_
    refine zr_iload_n C d_X1_differenceTo_22 rfl ?_
    refine zr_iald C (za_mesh_3 ho) (i4_1) rfl (by omega) (by decide) d_X1_differenceTo_23 ?_
    suffices hJ24 : ∀ (y2 : Int32), (if (h (b + 3) i4_1) = (h (o + 3) i4_1) then s4_1 else (s4_1 ||| (zshl 1 (nI i4_1)))) = y2 → zV X Γ Q 33 [zO X b, zO X o, zI y2, zI (nI i4_1)] [] h g by
      refine zr_icmp_eq C 33 d_X1_differenceTo_24 (by decide) (fun c24 => ?_) (fun c24 => ?_)
      · exact hJ24 s4_1 (((if_pos c24)))
      · refine zr_iload_n C d_X1_differenceTo_27 rfl ?_
        refine zr_iconst C (v := 1) d_X1_differenceTo_28 (by decide) ?_
        refine zr_iload_n C d_X1_differenceTo_29 rfl ?_
        refine zr_ishl C d_X1_differenceTo_30 ?_
        refine zr_ior C d_X1_differenceTo_31 ?_
        refine zr_istore_n C [zO X b, zO X o, zI (s4_1 ||| (zshl 1 (nI i4_1))), zI (nI i4_1)] d_X1_differenceTo_32 (Nat.le_of_ble_eq_true rfl) rfl rfl ?_
        exact hJ24 (s4_1 ||| (zshl 1 (nI i4_1))) (((if_neg c24)))
    intro y2 ey2
    refine zr_iinc C [zO X b, zO X o, zI y2, zI (nI (i4_1 + 1))] (v := (nI (i4_1 + 1))) d_X1_differenceTo_33 rfl (zn_add rfl rfl) (Nat.le_of_ble_eq_true rfl) rfl rfl ?_
    refine zr_goto C 4 d_X1_differenceTo_36 (by decide) ?_
    exact hk4_1 y2 (by subst ey2; exact rfl)
  refine zr_iload_n C d_X1_differenceTo_4 rfl ?_
  refine zr_aload_n C d_X1_differenceTo_5 rfl ?_
  refine gf_Mesh_0 C hb m95 d_X1_differenceTo_6 ?_
  refine zr_icmp_ge C 39 d_X1_differenceTo_9 (by decide) (fun _ => ?_) (fun c => absurd (zge_yes rfl (by omega) (by have := zcn_small (h b 0); omega)) c)
  refine zr_iload_n C d_X1_differenceTo_39 rfl ?_
  have eR : o_Mesh_differenceTo h b o = r4_1 := (by subst er4_1; unfold o_Mesh_differenceTo; exact rfl)
  subst hQ
  rw [eR]
  exact zr_ireti C d_X1_differenceTo_40
theorem d_X1_conflicts_0 : decode prog_3_method_30_code 0 = .ok (.iconst 0, 1) := by decide +kernel
theorem d_X1_conflicts_1 : decode prog_3_method_30_code 1 = .ok (.istore_n 1, 1) := by decide +kernel
theorem d_X1_conflicts_2 : decode prog_3_method_30_code 2 = .ok (.iconst 0, 1) := by decide +kernel
theorem d_X1_conflicts_3 : decode prog_3_method_30_code 3 = .ok (.istore_n 2, 1) := by decide +kernel
theorem d_X1_conflicts_4 : decode prog_3_method_30_code 4 = .ok (.iload_n 2, 1) := by decide +kernel
theorem d_X1_conflicts_5 : decode prog_3_method_30_code 5 = .ok (.aload_n 0, 1) := by decide +kernel
theorem d_X1_conflicts_6 : decode prog_3_method_30_code 6 = .ok (.getfield 45, 3) := by decide +kernel
theorem d_X1_conflicts_9 : decode prog_3_method_30_code 9 = .ok (.if_icmp .ge 54, 3) := by decide +kernel
theorem d_X1_conflicts_12 : decode prog_3_method_30_code 12 = .ok (.iconst 0, 1) := by decide +kernel
theorem d_X1_conflicts_13 : decode prog_3_method_30_code 13 = .ok (.istore_n 3, 1) := by decide +kernel
theorem d_X1_conflicts_14 : decode prog_3_method_30_code 14 = .ok (.iload_n 3, 1) := by decide +kernel
theorem d_X1_conflicts_15 : decode prog_3_method_30_code 15 = .ok (.iload_n 2, 1) := by decide +kernel
theorem d_X1_conflicts_16 : decode prog_3_method_30_code 16 = .ok (.if_icmp .ge 41, 3) := by decide +kernel
theorem d_X1_conflicts_19 : decode prog_3_method_30_code 19 = .ok (.aload_n 0, 1) := by decide +kernel
theorem d_X1_conflicts_20 : decode prog_3_method_30_code 20 = .ok (.getfield 27, 3) := by decide +kernel
theorem d_X1_conflicts_23 : decode prog_3_method_30_code 23 = .ok (.iload_n 2, 1) := by decide +kernel
theorem d_X1_conflicts_24 : decode prog_3_method_30_code 24 = .ok (.iaload, 1) := by decide +kernel
theorem d_X1_conflicts_25 : decode prog_3_method_30_code 25 = .ok (.iload_n 3, 1) := by decide +kernel
theorem d_X1_conflicts_26 : decode prog_3_method_30_code 26 = .ok (.invokestatic 89, 3) := by decide +kernel
theorem d_X1_conflicts_29 : decode prog_3_method_30_code 29 = .ok (.ifCond .eq 22, 3) := by decide +kernel
theorem d_X1_conflicts_32 : decode prog_3_method_30_code 32 = .ok (.aload_n 0, 1) := by decide +kernel
theorem d_X1_conflicts_33 : decode prog_3_method_30_code 33 = .ok (.getfield 36, 3) := by decide +kernel
theorem d_X1_conflicts_36 : decode prog_3_method_30_code 36 = .ok (.iload_n 3, 1) := by decide +kernel
theorem d_X1_conflicts_37 : decode prog_3_method_30_code 37 = .ok (.iaload, 1) := by decide +kernel
theorem d_X1_conflicts_38 : decode prog_3_method_30_code 38 = .ok (.aload_n 0, 1) := by decide +kernel
theorem d_X1_conflicts_39 : decode prog_3_method_30_code 39 = .ok (.getfield 36, 3) := by decide +kernel
theorem d_X1_conflicts_42 : decode prog_3_method_30_code 42 = .ok (.iload_n 2, 1) := by decide +kernel
theorem d_X1_conflicts_43 : decode prog_3_method_30_code 43 = .ok (.iaload, 1) := by decide +kernel
theorem d_X1_conflicts_44 : decode prog_3_method_30_code 44 = .ok (.iand, 1) := by decide +kernel
theorem d_X1_conflicts_45 : decode prog_3_method_30_code 45 = .ok (.ifCond .eq 6, 3) := by decide +kernel
theorem d_X1_conflicts_48 : decode prog_3_method_30_code 48 = .ok (.iinc 1 1, 3) := by decide +kernel
theorem d_X1_conflicts_51 : decode prog_3_method_30_code 51 = .ok (.iinc 3 1, 3) := by decide +kernel
theorem d_X1_conflicts_54 : decode prog_3_method_30_code 54 = .ok (.goto (-40), 3) := by decide +kernel
theorem d_X1_conflicts_57 : decode prog_3_method_30_code 57 = .ok (.iinc 2 1, 3) := by decide +kernel
theorem d_X1_conflicts_60 : decode prog_3_method_30_code 60 = .ok (.goto (-56), 3) := by decide +kernel
theorem d_X1_conflicts_63 : decode prog_3_method_30_code 63 = .ok (.iload_n 1, 1) := by decide +kernel
theorem d_X1_conflicts_64 : decode prog_3_method_30_code 64 = .ok (.ireturn, 1) := by decide +kernel
abbrev M_Mesh_conflicts : zMT := (⟨"PeriodSlots$Mesh", "conflicts", "()I"⟩, prog_3_method_30_code, 4, (some .int))
theorem k_Mesh_conflicts : zcall M_Mesh_conflicts 0 := ⟨zU_in (i := 401) (by decide +kernel) rfl, m56, ⟨by decide, by decide, by decide +kernel⟩, by decide⟩
def o_Mesh_conflicts (h : zHp) (b : Nat) : Int32 :=
  (zrep (fun (i4_1 : Nat) (s4_1 : Int32) => (zrep (fun (i14_2 : Nat) (s14_2 : Int32) => (if (o_Slots_has (h (b + 6) i4_1) (nI i14_2)) = true then (if ((h (b + 9) i14_2) &&& (h (b + 9) i4_1)) = 0 then s14_2 else (s14_2 + 1)) else s14_2)) s4_1 i4_1)) 0 (zcn (h b 0)))
theorem rd_Mesh_conflicts {h h2 : zHp} {b : Nat} (e0 : h2 (b + 6) = h (b + 6)) (e1 : h2 (b + 9) = h (b + 9)) (e2 : h2 b 0 = h b 0) : o_Mesh_conflicts h2 b = o_Mesh_conflicts h b := by
  unfold o_Mesh_conflicts
  simp only [e0, e1, e2]

set_option maxHeartbeats 400000 in
set_option maxRecDepth 20000 in
theorem c_Mesh_conflicts (X : zXT) (h : zHp) (g : zLg) (b : Nat) (hb : b = 3 ∨ b = 15 ∨ b = 27) (hf0 : zfit h b 0 8) : zDi X M_Mesh_conflicts 1 [zR X b] h g (zI (o_Mesh_conflicts h b)) h g := by
  have hf0_1 := hf0.1
  refine zDi_of "PeriodSlots$Mesh" prog_3_method_30_code 4 (some .int) rfl (by decide) [zO X b, none, none, none] rfl (fun _ q => q) (Nat.le_of_ble_eq_true rfl) ?_
  intro Γ Q C hQ
  refine zr_iconst C (v := 0) d_X1_conflicts_0 (by decide) ?_
  refine zr_istore_n C [zO X b, zI 0, none, none] d_X1_conflicts_1 (Nat.le_of_ble_eq_true rfl) rfl rfl ?_
  refine zr_iconst C (v := 0) d_X1_conflicts_2 (by decide) ?_
  refine zr_istore_n C [zO X b, zI 0, zI 0, none] d_X1_conflicts_3 (Nat.le_of_ble_eq_true rfl) rfl rfl ?_
  refine zfor (f := (fun (i4_1 : Nat) (s4_1 : Int32) => (zrep (fun (i14_2 : Nat) (s14_2 : Int32) => (if (o_Slots_has (h (b + 6) i4_1) (nI i14_2)) = true then (if ((h (b + 9) i14_2) &&& (h (b + 9) i4_1)) = 0 then s14_2 else (s14_2 + 1)) else s14_2)) s4_1 i4_1))) (a := 0) (fun i4_1 s4_1 => zV X Γ Q 4 [zO X b, zI s4_1, zI (nI i4_1), none] [] h g) (fun _ _ => True) (zcn (h b 0)) trivial (fun i4_1 s4_1 hi4_1 hI4_1 => ⟨trivial, fun hk4_1 => ?_⟩) (fun r4_1 er4_1 hI4_1 => ?_)
  · refine zr_iload_n C d_X1_conflicts_4 rfl ?_
    refine zr_aload_n C d_X1_conflicts_5 rfl ?_
    refine gf_Mesh_0 C hb m95 d_X1_conflicts_6 ?_
    refine zr_icmp_ge C 63 d_X1_conflicts_9 (by decide) (fun c => absurd c (zge_no rfl (by omega))) (fun _ => ?_)
    refine zr_iconst C (v := 0) d_X1_conflicts_12 (by decide) ?_
    refine zr_istore_n C [zO X b, zI s4_1, zI (nI i4_1), zI 0] d_X1_conflicts_13 (Nat.le_of_ble_eq_true rfl) rfl rfl ?_
    refine zfor (f := (fun (i14_2 : Nat) (s14_2 : Int32) => (if (o_Slots_has (h (b + 6) i4_1) (nI i14_2)) = true then (if ((h (b + 9) i14_2) &&& (h (b + 9) i4_1)) = 0 then s14_2 else (s14_2 + 1)) else s14_2))) (a := s4_1) (fun i14_2 s14_2 => zV X Γ Q 14 [zO X b, zI s14_2, zI (nI i4_1), zI (nI i14_2)] [] h g) (fun _ _ => True) (i4_1) trivial (fun i14_2 s14_2 hi14_2 hI14_2 => ⟨trivial, fun hk14_2 => ?_⟩) (fun r14_2 er14_2 hI14_2 => ?_)
    · refine zr_iload_n C d_X1_conflicts_14 rfl ?_
      refine zr_iload_n C d_X1_conflicts_15 rfl ?_
      refine zr_icmp_ge C 57 d_X1_conflicts_16 (by decide) (fun c => absurd c (zge_noN (B := i4_1) rfl (by omega) (by omega))) (fun _ => ?_)
      refine zr_aload_n C d_X1_conflicts_19 rfl ?_
      refine gf_Mesh_8 C hb m118 d_X1_conflicts_20 ?_
      refine zr_iload_n C d_X1_conflicts_23 rfl ?_
      refine zr_iald C (za_mesh_6 hb) (i4_1) rfl (by omega) (by decide) d_X1_conflicts_24 ?_
      refine zr_iload_n C d_X1_conflicts_25 rfl ?_
      refine zr_callNi (As := [.int (h (b + 6) i4_1), .int (nI i14_2)]) (st := []) C (c_Slots_has X h g (h (b + 6) i4_1) (nI i14_2)) k_Slots_has (by simp [zNest]) m322 rfl (by decide) rfl (Nat.le_of_ble_eq_true rfl) d_X1_conflicts_26 ?_
      suffices hJ29 : ∀ (y3 : Int32), (if (o_Slots_has (h (b + 6) i4_1) (nI i14_2)) = true then (if ((h (b + 9) i14_2) &&& (h (b + 9) i4_1)) = 0 then s14_2 else (s14_2 + 1)) else s14_2) = y3 → zV X Γ Q 51 [zO X b, zI y3, zI (nI i4_1), zI (nI i14_2)] [] h g by
        refine zr_ifz_eq C 51 d_X1_conflicts_29 (by decide) (fun c29 => ?_) (fun c29 => ?_)
        · exact hJ29 s14_2 (((if_neg (zbf c29))))
        · refine zr_aload_n C d_X1_conflicts_32 rfl ?_
          refine gf_Mesh_11 C hb m124 d_X1_conflicts_33 ?_
          refine zr_iload_n C d_X1_conflicts_36 rfl ?_
          refine zr_iald C (za_mesh_9 hb) (i14_2) rfl (by omega) (by decide) d_X1_conflicts_37 ?_
          refine zr_aload_n C d_X1_conflicts_38 rfl ?_
          refine gf_Mesh_11 C hb m124 d_X1_conflicts_39 ?_
          refine zr_iload_n C d_X1_conflicts_42 rfl ?_
          refine zr_iald C (za_mesh_9 hb) (i4_1) rfl (by omega) (by decide) d_X1_conflicts_43 ?_
          refine zr_iand C d_X1_conflicts_44 ?_
          refine zr_if_eq C 51 d_X1_conflicts_45 (by decide) (fun c45 => ?_) (fun c45 => ?_)
          · exact hJ29 s14_2 (((if_pos c29).trans ((if_pos c45))))
          · refine zr_iinc C [zO X b, zI (s14_2 + 1), zI (nI i4_1), zI (nI i14_2)] (v := (s14_2 + 1)) d_X1_conflicts_48 rfl rfl (Nat.le_of_ble_eq_true rfl) rfl rfl ?_
            exact hJ29 (s14_2 + 1) (((if_pos c29).trans ((if_neg c45))))
      intro y3 ey3
      refine zr_iinc C [zO X b, zI y3, zI (nI i4_1), zI (nI (i14_2 + 1))] (v := (nI (i14_2 + 1))) d_X1_conflicts_51 rfl (zn_add rfl rfl) (Nat.le_of_ble_eq_true rfl) rfl rfl ?_
      refine zr_goto C 14 d_X1_conflicts_54 (by decide) ?_
      exact hk14_2 y3 (by subst ey3; exact rfl)
    refine zr_iload_n C d_X1_conflicts_14 rfl ?_
    refine zr_iload_n C d_X1_conflicts_15 rfl ?_
    refine zr_icmp_ge C 57 d_X1_conflicts_16 (by decide) (fun _ => ?_) (fun c => absurd (zge_yesN (B := i4_1) rfl (by omega) (by omega)) c)
    refine zr_iinc C [zO X b, zI r14_2, zI (nI (i4_1 + 1)), zI (nI i4_1)] (v := (nI (i4_1 + 1))) d_X1_conflicts_57 rfl (zn_add rfl rfl) (Nat.le_of_ble_eq_true rfl) rfl rfl ?_
    refine zr_goto C 4 d_X1_conflicts_60 (by decide) ?_
    refine zr_lv [zO X b, zI r14_2, zI (nI (i4_1 + 1)), none] (by simp [zle]) ?_
    exact hk4_1 r14_2 (by subst er14_2; exact rfl)
  refine zr_iload_n C d_X1_conflicts_4 rfl ?_
  refine zr_aload_n C d_X1_conflicts_5 rfl ?_
  refine gf_Mesh_0 C hb m95 d_X1_conflicts_6 ?_
  refine zr_icmp_ge C 63 d_X1_conflicts_9 (by decide) (fun _ => ?_) (fun c => absurd (zge_yes rfl (by omega) (by have := zcn_small (h b 0); omega)) c)
  refine zr_iload_n C d_X1_conflicts_63 rfl ?_
  have eR : o_Mesh_conflicts h b = r4_1 := (by subst er4_1; unfold o_Mesh_conflicts; exact rfl)
  subst hQ
  rw [eR]
  exact zr_ireti C d_X1_conflicts_64
theorem d_X1_place_0 : decode prog_3_method_31_code 0 = .ok (.aload_n 0, 1) := by decide +kernel
theorem d_X1_place_1 : decode prog_3_method_31_code 1 = .ok (.getfield 18, 3) := by decide +kernel
theorem d_X1_place_4 : decode prog_3_method_31_code 4 = .ok (.iload_n 1, 1) := by decide +kernel
theorem d_X1_place_5 : decode prog_3_method_31_code 5 = .ok (.iload_n 2, 1) := by decide +kernel
theorem d_X1_place_6 : decode prog_3_method_31_code 6 = .ok (.iastore, 1) := by decide +kernel
theorem d_X1_place_7 : decode prog_3_method_31_code 7 = .ok (.aload_n 0, 1) := by decide +kernel
theorem d_X1_place_8 : decode prog_3_method_31_code 8 = .ok (.invokevirtual 66, 3) := by decide +kernel
theorem d_X1_place_11 : decode prog_3_method_31_code 11 = .ok (.return_, 1) := by decide +kernel
abbrev M_Mesh_place : zMT := (⟨"PeriodSlots$Mesh", "place", "(II)V"⟩, prog_3_method_31_code, 3, none)
theorem k_Mesh_place : zcall M_Mesh_place 2 := ⟨zU_in (i := 503) (by decide +kernel) rfl, m56, ⟨by decide, by decide, by decide +kernel⟩, by decide⟩
def o_Mesh_place (h : zHp) (b : Nat) (v : Nat) (offset : Int32) : zHp :=
  (o_Mesh_dropOlds (zup h (b + 3) v offset) b)
theorem fr_Mesh_place {h : zHp} {b : Nat} {v : Nat} {offset : Int32} (c k : Nat) (q0 : c ≠ b + 3) (q1 : c ≠ b + 4) (q2 : c ≠ b + 9) (q3 : c ≠ b + 10) : (o_Mesh_place h b v offset) c k = h c k := by
  unfold o_Mesh_place
  first | done | exact ((fr_Mesh_dropOlds _ _ (by assumption) (by assumption) (by assumption)).trans (zup_fr (Or.inl (by assumption))))
set_option maxHeartbeats 400000 in
set_option maxRecDepth 20000 in
theorem c_Mesh_place (X : zXT) (h : zHp) (g : zLg) (b : Nat) (v : Nat) (offset : Int32) {x_v : Int32} (e_v : x_v = nI v) (hb : b = 3 ∨ b = 15 ∨ b = 27) (hf0 : zfit h b 0 8) (hl1 : v < 8) : zDi X M_Mesh_place 3 [zR X b, .int x_v, .int offset] h g none (o_Mesh_place h b v offset) g := by
  subst e_v
  have hf0_1 := hf0.1
  refine zDi_of "PeriodSlots$Mesh" prog_3_method_31_code 3 none rfl (by decide) [zO X b, zI (nI v), zI offset] rfl (fun _ q => q) (Nat.le_of_ble_eq_true rfl) ?_
  intro Γ Q C hQ
  refine zr_aload_n C d_X1_place_0 rfl ?_
  refine gf_Mesh_5 C hb m111 d_X1_place_1 ?_
  refine zr_iload_n C d_X1_place_4 rfl ?_
  refine zr_iload_n C d_X1_place_5 rfl ?_
  refine zr_iast C (za_mesh_3 hb) (v) rfl (by omega) (by decide) d_X1_place_6 ?_
  refine zr_h (fun h1 eh1 => ?_)
  refine zr_aload_n C d_X1_place_7 rfl ?_
  refine zr_callVv (As := []) (st := []) (c := b) C (c_Mesh_dropOlds X h1 g b hb (zfit_fr ((congrFun (congrFun eh1.symm _) _).trans (zup_fr (by omega))) hf0)) k_Mesh_dropOlds m298 m299 m300 (by omega) (zC_Mesh hb X _ _) rfl rfl (by decide) rfl (Nat.le_of_ble_eq_true rfl) d_X1_place_8 ?_
  refine zr_h (fun h2 eh2 => ?_)
  have eR : o_Mesh_place h b v offset = h2 := (by subst eh2 eh1; unfold o_Mesh_place; exact rfl)
  subst hQ
  rw [eR]
  exact zr_vret C d_X1_place_11
theorem d_X1_moveAll_0 : decode prog_3_method_32_code 0 = .ok (.iconst 0, 1) := by decide +kernel
theorem d_X1_moveAll_1 : decode prog_3_method_32_code 1 = .ok (.istore_n 3, 1) := by decide +kernel
theorem d_X1_moveAll_2 : decode prog_3_method_32_code 2 = .ok (.iload_n 3, 1) := by decide +kernel
theorem d_X1_moveAll_3 : decode prog_3_method_32_code 3 = .ok (.aload_n 0, 1) := by decide +kernel
theorem d_X1_moveAll_4 : decode prog_3_method_32_code 4 = .ok (.getfield 45, 3) := by decide +kernel
theorem d_X1_moveAll_7 : decode prog_3_method_32_code 7 = .ok (.if_icmp .ge 47, 3) := by decide +kernel
theorem d_X1_moveAll_10 : decode prog_3_method_32_code 10 = .ok (.iload_n 1, 1) := by decide +kernel
theorem d_X1_moveAll_11 : decode prog_3_method_32_code 11 = .ok (.iload_n 3, 1) := by decide +kernel
theorem d_X1_moveAll_12 : decode prog_3_method_32_code 12 = .ok (.invokestatic 89, 3) := by decide +kernel
theorem d_X1_moveAll_15 : decode prog_3_method_32_code 15 = .ok (.ifCond .eq 33, 3) := by decide +kernel
theorem d_X1_moveAll_18 : decode prog_3_method_32_code 18 = .ok (.aload_n 0, 1) := by decide +kernel
theorem d_X1_moveAll_19 : decode prog_3_method_32_code 19 = .ok (.getfield 18, 3) := by decide +kernel
theorem d_X1_moveAll_22 : decode prog_3_method_32_code 22 = .ok (.iload_n 3, 1) := by decide +kernel
theorem d_X1_moveAll_23 : decode prog_3_method_32_code 23 = .ok (.iaload, 1) := by decide +kernel
theorem d_X1_moveAll_24 : decode prog_3_method_32_code 24 = .ok (.bipush (-9), 2) := by decide +kernel
theorem d_X1_moveAll_26 : decode prog_3_method_32_code 26 = .ok (.if_icmp .eq 22, 3) := by decide +kernel
theorem d_X1_moveAll_29 : decode prog_3_method_32_code 29 = .ok (.aload_n 0, 1) := by decide +kernel
theorem d_X1_moveAll_30 : decode prog_3_method_32_code 30 = .ok (.getfield 18, 3) := by decide +kernel
theorem d_X1_moveAll_33 : decode prog_3_method_32_code 33 = .ok (.iload_n 3, 1) := by decide +kernel
theorem d_X1_moveAll_34 : decode prog_3_method_32_code 34 = .ok (.aload_n 0, 1) := by decide +kernel
theorem d_X1_moveAll_35 : decode prog_3_method_32_code 35 = .ok (.iload_n 3, 1) := by decide +kernel
theorem d_X1_moveAll_36 : decode prog_3_method_32_code 36 = .ok (.aload_n 0, 1) := by decide +kernel
theorem d_X1_moveAll_37 : decode prog_3_method_32_code 37 = .ok (.getfield 18, 3) := by decide +kernel
theorem d_X1_moveAll_40 : decode prog_3_method_32_code 40 = .ok (.iload_n 3, 1) := by decide +kernel
theorem d_X1_moveAll_41 : decode prog_3_method_32_code 41 = .ok (.iaload, 1) := by decide +kernel
theorem d_X1_moveAll_42 : decode prog_3_method_32_code 42 = .ok (.iload_n 2, 1) := by decide +kernel
theorem d_X1_moveAll_43 : decode prog_3_method_32_code 43 = .ok (.iadd, 1) := by decide +kernel
theorem d_X1_moveAll_44 : decode prog_3_method_32_code 44 = .ok (.invokevirtual 62, 3) := by decide +kernel
theorem d_X1_moveAll_47 : decode prog_3_method_32_code 47 = .ok (.iastore, 1) := by decide +kernel
theorem d_X1_moveAll_48 : decode prog_3_method_32_code 48 = .ok (.iinc 3 1, 3) := by decide +kernel
theorem d_X1_moveAll_51 : decode prog_3_method_32_code 51 = .ok (.goto (-49), 3) := by decide +kernel
theorem d_X1_moveAll_54 : decode prog_3_method_32_code 54 = .ok (.aload_n 0, 1) := by decide +kernel
theorem d_X1_moveAll_55 : decode prog_3_method_32_code 55 = .ok (.invokevirtual 66, 3) := by decide +kernel
theorem d_X1_moveAll_58 : decode prog_3_method_32_code 58 = .ok (.return_, 1) := by decide +kernel
abbrev M_Mesh_moveAll : zMT := (⟨"PeriodSlots$Mesh", "moveAll", "(II)V"⟩, prog_3_method_32_code, 4, none)
theorem k_Mesh_moveAll : zcall M_Mesh_moveAll 2 := ⟨zU_in (i := 515) (by decide +kernel) rfl, m56, ⟨by decide, by decide, by decide +kernel⟩, by decide⟩
def o_Mesh_moveAll (h : zHp) (b : Nat) (set : Int32) (d : Int32) : zHp :=
  (o_Mesh_dropOlds (zrep (fun (i2_1 : Nat) (s2_1 : zHp) => (if (o_Slots_has set (nI i2_1)) = true then (if (s2_1 (b + 3) i2_1) = (-9) then s2_1 else (zup s2_1 (b + 3) i2_1 (o_Mesh_wrapped h b i2_1 ((s2_1 (b + 3) i2_1) + d)))) else s2_1)) h (zcn (h b 0))) b)
theorem fr_Mesh_moveAll {h : zHp} {b : Nat} {set : Int32} {d : Int32} (c k : Nat) (q0 : c ≠ b + 3) (q1 : c ≠ b + 4) (q2 : c ≠ b + 9) (q3 : c ≠ b + 10) : (o_Mesh_moveAll h b set d) c k = h c k := by
  unfold o_Mesh_moveAll
  have hI2_1 := zrep_inv (f := (fun (i2_1 : Nat) (s2_1 : zHp) => (if (o_Slots_has set (nI i2_1)) = true then (if (s2_1 (b + 3) i2_1) = (-9) then s2_1 else (zup s2_1 (b + 3) i2_1 (o_Mesh_wrapped h b i2_1 ((s2_1 (b + 3) i2_1) + d)))) else s2_1))) (a := h) (fun _ s2_1 => ∀ c k : Nat, c ≠ b + 3 → c ≠ b + 4 → c ≠ b + 9 → c ≠ b + 10 → s2_1 c k = h c k) (zcn (h b 0)) (fun _ _ _ _ _ _ => rfl) (fun i2_1 s2_1 hi2_1 hI2_1 => (fun c k q0 q1 q2 q3 => (by (try dsimp only); exact (zite_fr (fun _ => (zite_fr (fun _ => (hI2_1 _ _ (by assumption) (by assumption) (by assumption) (by assumption))) (fun _ => ((zup_fr (Or.inl (by assumption))).trans (hI2_1 _ _ (by assumption) (by assumption) (by assumption) (by assumption)))))) (fun _ => (hI2_1 _ _ (by assumption) (by assumption) (by assumption) (by assumption)))))))
  first | done | exact ((fr_Mesh_dropOlds _ _ (by assumption) (by assumption) (by assumption)).trans (hI2_1 _ _ (by assumption) (by assumption) (by assumption) (by assumption)))
set_option maxHeartbeats 400000 in
set_option maxRecDepth 20000 in
theorem c_Mesh_moveAll (X : zXT) (h : zHp) (g : zLg) (b : Nat) (set : Int32) (d : Int32) (hb : b = 3 ∨ b = 15 ∨ b = 27) (hf0 : zfit h b 0 8) : zDi X M_Mesh_moveAll 3 [zR X b, .int set, .int d] h g none (o_Mesh_moveAll h b set d) g := by
  have hf0_1 := hf0.1
  refine zDi_of "PeriodSlots$Mesh" prog_3_method_32_code 4 none rfl (by decide) [zO X b, zI set, zI d, none] rfl (fun _ q => q) (Nat.le_of_ble_eq_true rfl) ?_
  intro Γ Q C hQ
  refine zr_iconst C (v := 0) d_X1_moveAll_0 (by decide) ?_
  refine zr_istore_n C [zO X b, zI set, zI d, zI 0] d_X1_moveAll_1 (Nat.le_of_ble_eq_true rfl) rfl rfl ?_
  refine zfor (f := (fun (i2_1 : Nat) (s2_1 : zHp) => (if (o_Slots_has set (nI i2_1)) = true then (if (s2_1 (b + 3) i2_1) = (-9) then s2_1 else (zup s2_1 (b + 3) i2_1 (o_Mesh_wrapped h b i2_1 ((s2_1 (b + 3) i2_1) + d)))) else s2_1))) (a := h) (fun i2_1 s2_1 => zV X Γ Q 2 [zO X b, zI set, zI d, zI (nI i2_1)] [] s2_1 g) (fun _ s2_1 => ∀ c k : Nat, c ≠ b + 3 → c ≠ b + 4 → c ≠ b + 9 → c ≠ b + 10 → s2_1 c k = h c k) (zcn (h b 0)) (fun _ _ _ _ _ _ => rfl) (fun i2_1 s2_1 hi2_1 hI2_1 => ⟨(fun c k q0 q1 q2 q3 => (by (try dsimp only); exact (zite_fr (fun _ => (zite_fr (fun _ => (hI2_1 _ _ (by assumption) (by assumption) (by assumption) (by assumption))) (fun _ => ((zup_fr (Or.inl (by assumption))).trans (hI2_1 _ _ (by assumption) (by assumption) (by assumption) (by assumption)))))) (fun _ => (hI2_1 _ _ (by assumption) (by assumption) (by assumption) (by assumption)))))), fun hk2_1 => ?_⟩) (fun r2_1 er2_1 hI2_1 => ?_)
  · refine zr_iload_n C d_X1_moveAll_2 rfl ?_
    refine zr_aload_n C d_X1_moveAll_3 rfl ?_
    refine gf_Mesh_0 C hb m95 d_X1_moveAll_4 ?_
    refine zr_top (hI2_1 _ _ (by omega) (by omega) (by omega) (by omega)) ?_
    refine zr_icmp_ge C 54 d_X1_moveAll_7 (by decide) (fun c => absurd c (zge_no rfl (by omega))) (fun _ => ?_)
    refine zr_iload_n C d_X1_moveAll_10 rfl ?_
    refine zr_iload_n C d_X1_moveAll_11 rfl ?_
    refine zr_callNi (As := [.int set, .int (nI i2_1)]) (st := []) C (c_Slots_has X s2_1 g set (nI i2_1)) k_Slots_has (by simp [zNest]) m322 rfl (by decide) rfl (Nat.le_of_ble_eq_true rfl) d_X1_moveAll_12 ?_
    suffices hJ15 : ∀ (h3 : zHp), (if (o_Slots_has set (nI i2_1)) = true then (if (s2_1 (b + 3) i2_1) = (-9) then s2_1 else (zup s2_1 (b + 3) i2_1 (o_Mesh_wrapped h b i2_1 ((s2_1 (b + 3) i2_1) + d)))) else s2_1) = h3 → zV X Γ Q 48 [zO X b, zI set, zI d, zI (nI i2_1)] [] h3 g by
      refine zr_ifz_eq C 48 d_X1_moveAll_15 (by decide) (fun c15 => ?_) (fun c15 => ?_)
      · exact hJ15 s2_1 (((if_neg (zbf c15))))
      · refine zr_aload_n C d_X1_moveAll_18 rfl ?_
        refine gf_Mesh_5 C hb m111 d_X1_moveAll_19 ?_
        refine zr_iload_n C d_X1_moveAll_22 rfl ?_
        refine zr_iald C (za_mesh_3 hb) (i2_1) rfl (by omega) (by decide) d_X1_moveAll_23 ?_
        refine zr_bipush C (v := (-9)) d_X1_moveAll_24 (by decide) ?_
        refine zr_icmp_eq C 48 d_X1_moveAll_26 (by decide) (fun c26 => ?_) (fun c26 => ?_)
        · exact hJ15 s2_1 (((if_pos c15).trans ((if_pos c26))))
        · refine zr_aload_n C d_X1_moveAll_29 rfl ?_
          refine gf_Mesh_5 C hb m111 d_X1_moveAll_30 ?_
          refine zr_iload_n C d_X1_moveAll_33 rfl ?_
          refine zr_aload_n C d_X1_moveAll_34 rfl ?_
          refine zr_iload_n C d_X1_moveAll_35 rfl ?_
          refine zr_aload_n C d_X1_moveAll_36 rfl ?_
          refine gf_Mesh_5 C hb m111 d_X1_moveAll_37 ?_
          refine zr_iload_n C d_X1_moveAll_40 rfl ?_
          refine zr_iald C (za_mesh_3 hb) (i2_1) rfl (by omega) (by decide) d_X1_moveAll_41 ?_
          refine zr_iload_n C d_X1_moveAll_42 rfl ?_
          refine zr_iadd C d_X1_moveAll_43 ?_
          refine zr_callVi (As := [.int (nI i2_1), .int ((s2_1 (b + 3) i2_1) + d)]) (st := [.int (nI i2_1), zR X (b + 3)]) (c := b) C (c_Mesh_wrapped X s2_1 g b i2_1 ((s2_1 (b + 3) i2_1) + d) rfl hb (by omega)) k_Mesh_wrapped m294 m295 m296 (by omega) (zC_Mesh hb X _ _) rfl rfl (by decide) rfl (Nat.le_of_ble_eq_true rfl) d_X1_moveAll_44 ?_
          refine zr_top (rd_Mesh_wrapped (funext fun kk => (hI2_1 _ _ (by omega) (by omega) (by omega) (by omega)))) ?_
          refine zr_iast C (za_mesh_3 hb) (i2_1) rfl (by omega) (by decide) d_X1_moveAll_47 ?_
          refine zr_h (fun h2 eh2 => ?_)
          exact hJ15 h2 (by subst eh2; exact ((if_pos c15).trans ((if_neg c26))))
    intro h3 eh3
    refine zr_iinc C [zO X b, zI set, zI d, zI (nI (i2_1 + 1))] (v := (nI (i2_1 + 1))) d_X1_moveAll_48 rfl (zn_add rfl rfl) (Nat.le_of_ble_eq_true rfl) rfl rfl ?_
    refine zr_goto C 2 d_X1_moveAll_51 (by decide) ?_
    exact hk2_1 h3 (by subst eh3; exact rfl)
  refine zr_iload_n C d_X1_moveAll_2 rfl ?_
  refine zr_aload_n C d_X1_moveAll_3 rfl ?_
  refine gf_Mesh_0 C hb m95 d_X1_moveAll_4 ?_
  refine zr_top (hI2_1 _ _ (by omega) (by omega) (by omega) (by omega)) ?_
  refine zr_icmp_ge C 54 d_X1_moveAll_7 (by decide) (fun _ => ?_) (fun c => absurd (zge_yes rfl (by omega) (by have := zcn_small (h b 0); omega)) c)
  refine zr_aload_n C d_X1_moveAll_54 rfl ?_
  refine zr_callVv (As := []) (st := []) (c := b) C (c_Mesh_dropOlds X r2_1 g b hb (zfit_fr (hI2_1 _ _ (by omega) (by omega) (by omega) (by omega)) hf0)) k_Mesh_dropOlds m298 m299 m300 (by omega) (zC_Mesh hb X _ _) rfl rfl (by decide) rfl (Nat.le_of_ble_eq_true rfl) d_X1_moveAll_55 ?_
  refine zr_h (fun h4 eh4 => ?_)
  have eR : o_Mesh_moveAll h b set d = h4 := (by subst eh4 er2_1; unfold o_Mesh_moveAll; exact rfl)
  subst hQ
  rw [eR]
  exact zr_vret C d_X1_moveAll_58
theorem d_X1_startWithOnly_0 : decode prog_3_method_34_code 0 = .ok (.iconst 0, 1) := by decide +kernel
theorem d_X1_startWithOnly_1 : decode prog_3_method_34_code 1 = .ok (.istore_n 2, 1) := by decide +kernel
theorem d_X1_startWithOnly_2 : decode prog_3_method_34_code 2 = .ok (.iload_n 2, 1) := by decide +kernel
theorem d_X1_startWithOnly_3 : decode prog_3_method_34_code 3 = .ok (.aload_n 0, 1) := by decide +kernel
theorem d_X1_startWithOnly_4 : decode prog_3_method_34_code 4 = .ok (.getfield 45, 3) := by decide +kernel
theorem d_X1_startWithOnly_7 : decode prog_3_method_34_code 7 = .ok (.if_icmp .ge 55, 3) := by decide +kernel
theorem d_X1_startWithOnly_10 : decode prog_3_method_34_code 10 = .ok (.aload_n 0, 1) := by decide +kernel
theorem d_X1_startWithOnly_11 : decode prog_3_method_34_code 11 = .ok (.getfield 15, 3) := by decide +kernel
theorem d_X1_startWithOnly_14 : decode prog_3_method_34_code 14 = .ok (.iload_n 2, 1) := by decide +kernel
theorem d_X1_startWithOnly_15 : decode prog_3_method_34_code 15 = .ok (.iload_n 1, 1) := by decide +kernel
theorem d_X1_startWithOnly_16 : decode prog_3_method_34_code 16 = .ok (.iload_n 2, 1) := by decide +kernel
theorem d_X1_startWithOnly_17 : decode prog_3_method_34_code 17 = .ok (.invokestatic 89, 3) := by decide +kernel
theorem d_X1_startWithOnly_20 : decode prog_3_method_34_code 20 = .ok (.ifCond .eq 14, 3) := by decide +kernel
theorem d_X1_startWithOnly_23 : decode prog_3_method_34_code 23 = .ok (.aload_n 0, 1) := by decide +kernel
theorem d_X1_startWithOnly_24 : decode prog_3_method_34_code 24 = .ok (.getfield 15, 3) := by decide +kernel
theorem d_X1_startWithOnly_27 : decode prog_3_method_34_code 27 = .ok (.iload_n 2, 1) := by decide +kernel
theorem d_X1_startWithOnly_28 : decode prog_3_method_34_code 28 = .ok (.iaload, 1) := by decide +kernel
theorem d_X1_startWithOnly_29 : decode prog_3_method_34_code 29 = .ok (.iload_n 1, 1) := by decide +kernel
theorem d_X1_startWithOnly_30 : decode prog_3_method_34_code 30 = .ok (.iand, 1) := by decide +kernel
theorem d_X1_startWithOnly_31 : decode prog_3_method_34_code 31 = .ok (.goto 4, 3) := by decide +kernel
theorem d_X1_startWithOnly_34 : decode prog_3_method_34_code 34 = .ok (.iconst 0, 1) := by decide +kernel
theorem d_X1_startWithOnly_35 : decode prog_3_method_34_code 35 = .ok (.iastore, 1) := by decide +kernel
theorem d_X1_startWithOnly_36 : decode prog_3_method_34_code 36 = .ok (.aload_n 0, 1) := by decide +kernel
theorem d_X1_startWithOnly_37 : decode prog_3_method_34_code 37 = .ok (.getfield 18, 3) := by decide +kernel
theorem d_X1_startWithOnly_40 : decode prog_3_method_34_code 40 = .ok (.iload_n 2, 1) := by decide +kernel
theorem d_X1_startWithOnly_41 : decode prog_3_method_34_code 41 = .ok (.iload_n 1, 1) := by decide +kernel
theorem d_X1_startWithOnly_42 : decode prog_3_method_34_code 42 = .ok (.iload_n 2, 1) := by decide +kernel
theorem d_X1_startWithOnly_43 : decode prog_3_method_34_code 43 = .ok (.invokestatic 89, 3) := by decide +kernel
theorem d_X1_startWithOnly_46 : decode prog_3_method_34_code 46 = .ok (.ifCond .eq 8, 3) := by decide +kernel
theorem d_X1_startWithOnly_49 : decode prog_3_method_34_code 49 = .ok (.bipush (-9), 2) := by decide +kernel
theorem d_X1_startWithOnly_51 : decode prog_3_method_34_code 51 = .ok (.goto 4, 3) := by decide +kernel
theorem d_X1_startWithOnly_54 : decode prog_3_method_34_code 54 = .ok (.iconst 0, 1) := by decide +kernel
theorem d_X1_startWithOnly_55 : decode prog_3_method_34_code 55 = .ok (.iastore, 1) := by decide +kernel
theorem d_X1_startWithOnly_56 : decode prog_3_method_34_code 56 = .ok (.iinc 2 1, 3) := by decide +kernel
theorem d_X1_startWithOnly_59 : decode prog_3_method_34_code 59 = .ok (.goto (-57), 3) := by decide +kernel
theorem d_X1_startWithOnly_62 : decode prog_3_method_34_code 62 = .ok (.aload_n 0, 1) := by decide +kernel
theorem d_X1_startWithOnly_63 : decode prog_3_method_34_code 63 = .ok (.invokevirtual 66, 3) := by decide +kernel
theorem d_X1_startWithOnly_66 : decode prog_3_method_34_code 66 = .ok (.aload_n 0, 1) := by decide +kernel
theorem d_X1_startWithOnly_67 : decode prog_3_method_34_code 67 = .ok (.iconst 0, 1) := by decide +kernel
theorem d_X1_startWithOnly_68 : decode prog_3_method_34_code 68 = .ok (.putfield 49, 3) := by decide +kernel
theorem d_X1_startWithOnly_71 : decode prog_3_method_34_code 71 = .ok (.aload_n 0, 1) := by decide +kernel
theorem d_X1_startWithOnly_72 : decode prog_3_method_34_code 72 = .ok (.invokevirtual 69, 3) := by decide +kernel
theorem d_X1_startWithOnly_75 : decode prog_3_method_34_code 75 = .ok (.return_, 1) := by decide +kernel
abbrev M_Mesh_startWithOnly : zMT := (⟨"PeriodSlots$Mesh", "startWithOnly", "(I)V"⟩, prog_3_method_34_code, 3, none)
theorem k_Mesh_startWithOnly : zcall M_Mesh_startWithOnly 1 := ⟨zU_in (i := 701) (by decide +kernel) rfl, m56, ⟨by decide, by decide, by decide +kernel⟩, by decide⟩
def o_Mesh_startWithOnly (h : zHp) (b : Nat) (on : Int32) : zHp :=
  (o_Mesh_relate (zup (o_Mesh_dropOlds (zrep (fun (i2_1 : Nat) (s2_1 : zHp) => (zup (zup s2_1 (b + 2) i2_1 (if (o_Slots_has on (nI i2_1)) = true then ((s2_1 (b + 2) i2_1) &&& on) else 0)) (b + 3) i2_1 (if (o_Slots_has on (nI i2_1)) = true then (-9) else 0))) h (zcn (h b 0))) b) b 1 0) b)
theorem fr_Mesh_startWithOnly {h : zHp} {b : Nat} {on : Int32} (c k : Nat) (q0 : ¬ (c = b ∧ k = 1)) (q1 : c ≠ b + 2) (q2 : c ≠ b + 3) (q3 : c ≠ b + 4) (q4 : c ≠ b + 6) (q5 : c ≠ b + 7) (q6 : c ≠ b + 8) (q7 : c ≠ b + 9) (q8 : c ≠ b + 10) : (o_Mesh_startWithOnly h b on) c k = h c k := by
  unfold o_Mesh_startWithOnly
  have hI2_1 := zrep_inv (f := (fun (i2_1 : Nat) (s2_1 : zHp) => (zup (zup s2_1 (b + 2) i2_1 (if (o_Slots_has on (nI i2_1)) = true then ((s2_1 (b + 2) i2_1) &&& on) else 0)) (b + 3) i2_1 (if (o_Slots_has on (nI i2_1)) = true then (-9) else 0)))) (a := h) (fun _ s2_1 => ∀ c k : Nat, ¬ (c = b ∧ k = 1) → c ≠ b + 2 → c ≠ b + 3 → c ≠ b + 4 → c ≠ b + 6 → c ≠ b + 7 → c ≠ b + 8 → c ≠ b + 9 → c ≠ b + 10 → s2_1 c k = h c k) (zcn (h b 0)) (fun _ _ _ _ _ _ _ _ _ _ _ => rfl) (fun i2_1 s2_1 hi2_1 hI2_1 => (fun c k q0 q1 q2 q3 q4 q5 q6 q7 q8 => (by (try dsimp only); exact ((zup_fr (Or.inl (by assumption))).trans ((zup_fr (Or.inl (by assumption))).trans (hI2_1 _ _ (by assumption) (by assumption) (by assumption) (by assumption) (by assumption) (by assumption) (by assumption) (by assumption) (by assumption)))))))
  first | done | exact ((fr_Mesh_relate _ _ (by assumption) (by assumption) (by assumption)).trans ((zup_fr (by omega)).trans ((fr_Mesh_dropOlds _ _ (by assumption) (by assumption) (by assumption)).trans (hI2_1 _ _ (by assumption) (by assumption) (by assumption) (by assumption) (by assumption) (by assumption) (by assumption) (by assumption) (by assumption)))))
set_option maxHeartbeats 400000 in
set_option maxRecDepth 20000 in
theorem c_Mesh_startWithOnly (X : zXT) (h : zHp) (g : zLg) (b : Nat) (on : Int32) (hb : b = 3 ∨ b = 15 ∨ b = 27) (hf0 : zfit h b 0 8) : zDi X M_Mesh_startWithOnly 3 [zR X b, .int on] h g none (o_Mesh_startWithOnly h b on) g := by
  have hf0_1 := hf0.1
  refine zDi_of "PeriodSlots$Mesh" prog_3_method_34_code 3 none rfl (by decide) [zO X b, zI on, none] rfl (fun _ q => q) (Nat.le_of_ble_eq_true rfl) ?_
  intro Γ Q C hQ
  refine zr_iconst C (v := 0) d_X1_startWithOnly_0 (by decide) ?_
  refine zr_istore_n C [zO X b, zI on, zI 0] d_X1_startWithOnly_1 (Nat.le_of_ble_eq_true rfl) rfl rfl ?_
  refine zfor (f := (fun (i2_1 : Nat) (s2_1 : zHp) => (zup (zup s2_1 (b + 2) i2_1 (if (o_Slots_has on (nI i2_1)) = true then ((s2_1 (b + 2) i2_1) &&& on) else 0)) (b + 3) i2_1 (if (o_Slots_has on (nI i2_1)) = true then (-9) else 0)))) (a := h) (fun i2_1 s2_1 => zV X Γ Q 2 [zO X b, zI on, zI (nI i2_1)] [] s2_1 g) (fun _ s2_1 => ∀ c k : Nat, ¬ (c = b ∧ k = 1) → c ≠ b + 2 → c ≠ b + 3 → c ≠ b + 4 → c ≠ b + 6 → c ≠ b + 7 → c ≠ b + 8 → c ≠ b + 9 → c ≠ b + 10 → s2_1 c k = h c k) (zcn (h b 0)) (fun _ _ _ _ _ _ _ _ _ _ _ => rfl) (fun i2_1 s2_1 hi2_1 hI2_1 => ⟨(fun c k q0 q1 q2 q3 q4 q5 q6 q7 q8 => (by (try dsimp only); exact ((zup_fr (Or.inl (by assumption))).trans ((zup_fr (Or.inl (by assumption))).trans (hI2_1 _ _ (by assumption) (by assumption) (by assumption) (by assumption) (by assumption) (by assumption) (by assumption) (by assumption) (by assumption)))))), fun hk2_1 => ?_⟩) (fun r2_1 er2_1 hI2_1 => ?_)
  · refine zr_iload_n C d_X1_startWithOnly_2 rfl ?_
    refine zr_aload_n C d_X1_startWithOnly_3 rfl ?_
    refine gf_Mesh_0 C hb m95 d_X1_startWithOnly_4 ?_
    refine zr_top (hI2_1 _ _ (by omega) (by omega) (by omega) (by omega) (by omega) (by omega) (by omega) (by omega) (by omega)) ?_
    refine zr_icmp_ge C 62 d_X1_startWithOnly_7 (by decide) (fun c => absurd c (zge_no rfl (by omega))) (fun _ => ?_)
    refine zr_aload_n C d_X1_startWithOnly_10 rfl ?_
    refine gf_Mesh_4 C hb m107 d_X1_startWithOnly_11 ?_
    refine zr_iload_n C d_X1_startWithOnly_14 rfl ?_
    refine zr_iload_n C d_X1_startWithOnly_15 rfl ?_
    refine zr_iload_n C d_X1_startWithOnly_16 rfl ?_
    refine zr_callNi (As := [.int on, .int (nI i2_1)]) (st := [.int (nI i2_1), zR X (b + 2)]) C (c_Slots_has X s2_1 g on (nI i2_1)) k_Slots_has (by simp [zNest]) m322 rfl (by decide) rfl (Nat.le_of_ble_eq_true rfl) d_X1_startWithOnly_17 ?_
    suffices hJ20 : ∀ (y2 : Int32), (if (o_Slots_has on (nI i2_1)) = true then ((s2_1 (b + 2) i2_1) &&& on) else 0) = y2 → zV X Γ Q 35 [zO X b, zI on, zI (nI i2_1)] [.int y2, .int (nI i2_1), zR X (b + 2)] s2_1 g by
      refine zr_ifz_eq C 34 d_X1_startWithOnly_20 (by decide) (fun c20 => ?_) (fun c20 => ?_)
      · refine zr_iconst C (v := 0) d_X1_startWithOnly_34 (by decide) ?_
        exact hJ20 0 (((if_neg (zbf c20))))
      · refine zr_aload_n C d_X1_startWithOnly_23 rfl ?_
        refine gf_Mesh_4 C hb m107 d_X1_startWithOnly_24 ?_
        refine zr_iload_n C d_X1_startWithOnly_27 rfl ?_
        refine zr_iald C (za_mesh_2 hb) (i2_1) rfl (by omega) (by decide) d_X1_startWithOnly_28 ?_
        refine zr_iload_n C d_X1_startWithOnly_29 rfl ?_
        refine zr_iand C d_X1_startWithOnly_30 ?_
        refine zr_goto C 35 d_X1_startWithOnly_31 (by decide) ?_
        exact hJ20 ((s2_1 (b + 2) i2_1) &&& on) (((if_pos c20)))
    intro y2 ey2
    refine zr_iast C (za_mesh_2 hb) (i2_1) rfl (by omega) (by decide) d_X1_startWithOnly_35 ?_
    refine zr_h (fun h3 eh3 => ?_)
    refine zr_aload_n C d_X1_startWithOnly_36 rfl ?_
    refine gf_Mesh_5 C hb m111 d_X1_startWithOnly_37 ?_
    refine zr_iload_n C d_X1_startWithOnly_40 rfl ?_
    refine zr_iload_n C d_X1_startWithOnly_41 rfl ?_
    refine zr_iload_n C d_X1_startWithOnly_42 rfl ?_
    refine zr_callNi (As := [.int on, .int (nI i2_1)]) (st := [.int (nI i2_1), zR X (b + 3)]) C (c_Slots_has X h3 g on (nI i2_1)) k_Slots_has (by simp [zNest]) m322 rfl (by decide) rfl (Nat.le_of_ble_eq_true rfl) d_X1_startWithOnly_43 ?_
    suffices hJ46 : ∀ (y4 : Int32), (if (o_Slots_has on (nI i2_1)) = true then (-9) else 0) = y4 → zV X Γ Q 55 [zO X b, zI on, zI (nI i2_1)] [.int y4, .int (nI i2_1), zR X (b + 3)] h3 g by
      refine zr_ifz_eq C 54 d_X1_startWithOnly_46 (by decide) (fun c46 => ?_) (fun c46 => ?_)
      · refine zr_iconst C (v := 0) d_X1_startWithOnly_54 (by decide) ?_
        exact hJ46 0 (((if_neg (zbf c46))))
      · refine zr_bipush C (v := (-9)) d_X1_startWithOnly_49 (by decide) ?_
        refine zr_goto C 55 d_X1_startWithOnly_51 (by decide) ?_
        exact hJ46 (-9) (((if_pos c46)))
    intro y4 ey4
    refine zr_iast C (za_mesh_3 hb) (i2_1) rfl (by omega) (by decide) d_X1_startWithOnly_55 ?_
    refine zr_h (fun h5 eh5 => ?_)
    refine zr_iinc C [zO X b, zI on, zI (nI (i2_1 + 1))] (v := (nI (i2_1 + 1))) d_X1_startWithOnly_56 rfl (zn_add rfl rfl) (Nat.le_of_ble_eq_true rfl) rfl rfl ?_
    refine zr_goto C 2 d_X1_startWithOnly_59 (by decide) ?_
    exact hk2_1 h5 (by subst eh5 ey4 eh3 ey2; exact rfl)
  refine zr_iload_n C d_X1_startWithOnly_2 rfl ?_
  refine zr_aload_n C d_X1_startWithOnly_3 rfl ?_
  refine gf_Mesh_0 C hb m95 d_X1_startWithOnly_4 ?_
  refine zr_top (hI2_1 _ _ (by omega) (by omega) (by omega) (by omega) (by omega) (by omega) (by omega) (by omega) (by omega)) ?_
  refine zr_icmp_ge C 62 d_X1_startWithOnly_7 (by decide) (fun _ => ?_) (fun c => absurd (zge_yes rfl (by omega) (by have := zcn_small (h b 0); omega)) c)
  refine zr_aload_n C d_X1_startWithOnly_62 rfl ?_
  refine zr_callVv (As := []) (st := []) (c := b) C (c_Mesh_dropOlds X r2_1 g b hb (zfit_fr (hI2_1 _ _ (by omega) (by omega) (by omega) (by omega) (by omega) (by omega) (by omega) (by omega) (by omega)) hf0)) k_Mesh_dropOlds m298 m299 m300 (by omega) (zC_Mesh hb X _ _) rfl rfl (by decide) rfl (Nat.le_of_ble_eq_true rfl) d_X1_startWithOnly_63 ?_
  refine zr_h (fun h6 eh6 => ?_)
  refine zr_aload_n C d_X1_startWithOnly_66 rfl ?_
  refine zr_iconst C (v := 0) d_X1_startWithOnly_67 (by decide) ?_
  refine pf_Mesh_1 C hb m99 d_X1_startWithOnly_68 ?_
  refine zr_h (fun h7 eh7 => ?_)
  refine zr_aload_n C d_X1_startWithOnly_71 rfl ?_
  refine zr_callVv (As := []) (st := []) (c := b) C (c_Mesh_relate X h7 g b hb (zfit_fr ((congrFun (congrFun eh7.symm _) _).trans ((zup_fr (by omega)).trans ((congrFun (congrFun eh6.symm _) _).trans ((fr_Mesh_dropOlds _ _ (by omega) (by omega) (by omega)).trans (hI2_1 _ _ (by omega) (by omega) (by omega) (by omega) (by omega) (by omega) (by omega) (by omega) (by omega)))))) hf0)) k_Mesh_relate m313 m314 m315 (by omega) (zC_Mesh hb X _ _) rfl rfl (by decide) rfl (Nat.le_of_ble_eq_true rfl) d_X1_startWithOnly_72 ?_
  refine zr_h (fun h8 eh8 => ?_)
  have eR : o_Mesh_startWithOnly h b on = h8 := (by subst eh8 eh7 eh6 er2_1; unfold o_Mesh_startWithOnly; exact rfl)
  subst hQ
  rw [eR]
  exact zr_vret C d_X1_startWithOnly_75
