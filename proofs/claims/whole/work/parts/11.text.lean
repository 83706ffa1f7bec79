/-! Walks of methods, by program (wip/whole/gen). -/
theorem d_X5_append_0 : decode prog_7_method_2_code 0 = .ok (.aload_n 0, 1) := by decide +kernel
theorem d_X5_append_1 : decode prog_7_method_2_code 1 = .ok (.getfield 15, 3) := by decide +kernel
theorem d_X5_append_4 : decode prog_7_method_2_code 4 = .ok (.aload_n 0, 1) := by decide +kernel
theorem d_X5_append_5 : decode prog_7_method_2_code 5 = .ok (.getfield 9, 3) := by decide +kernel
theorem d_X5_append_8 : decode prog_7_method_2_code 8 = .ok (.arraylength, 1) := by decide +kernel
theorem d_X5_append_9 : decode prog_7_method_2_code 9 = .ok (.if_icmp .ge 23, 3) := by decide +kernel
theorem d_X5_append_12 : decode prog_7_method_2_code 12 = .ok (.aload_n 0, 1) := by decide +kernel
theorem d_X5_append_13 : decode prog_7_method_2_code 13 = .ok (.getfield 9, 3) := by decide +kernel
theorem d_X5_append_16 : decode prog_7_method_2_code 16 = .ok (.aload_n 0, 1) := by decide +kernel
theorem d_X5_append_17 : decode prog_7_method_2_code 17 = .ok (.getfield 15, 3) := by decide +kernel
theorem d_X5_append_20 : decode prog_7_method_2_code 20 = .ok (.iload_n 1, 1) := by decide +kernel
theorem d_X5_append_21 : decode prog_7_method_2_code 21 = .ok (.iastore, 1) := by decide +kernel
theorem d_X5_append_22 : decode prog_7_method_2_code 22 = .ok (.aload_n 0, 1) := by decide +kernel
theorem d_X5_append_23 : decode prog_7_method_2_code 23 = .ok (.dup, 1) := by decide +kernel
theorem d_X5_append_24 : decode prog_7_method_2_code 24 = .ok (.getfield 15, 3) := by decide +kernel
theorem d_X5_append_27 : decode prog_7_method_2_code 27 = .ok (.iconst 1, 1) := by decide +kernel
theorem d_X5_append_28 : decode prog_7_method_2_code 28 = .ok (.iadd, 1) := by decide +kernel
theorem d_X5_append_29 : decode prog_7_method_2_code 29 = .ok (.putfield 15, 3) := by decide +kernel
theorem d_X5_append_32 : decode prog_7_method_2_code 32 = .ok (.return_, 1) := by decide +kernel
abbrev M_Text_append : zMT := (⟨"PeriodSlots$Text", "append", "(I)V"⟩, prog_7_method_2_code, 2, none)
theorem k_Text_append : zcall M_Text_append 1 := ⟨zU_in (i := 265) (by decide +kernel) rfl, m55, ⟨by decide, by decide, by decide +kernel⟩, by decide⟩
def o_Text_append (h : zHp) (letter : Int32) : zHp :=
  (if (nI 110) ≤ (h 1 0) then h else (zup (zup h 2 (zcn (h 1 0)) letter) 1 0 ((h 1 0) + 1)))
theorem fr_Text_append {h : zHp} {letter : Int32} (c k : Nat) (q0 : ¬ (c = 1 ∧ k = 0)) (q1 : c ≠ 2) : (o_Text_append h letter) c k = h c k := by
  unfold o_Text_append
  first | done | exact (zite_fr (fun _ => rfl) (fun _ => ((zup_fr (by omega)).trans (zup_fr (Or.inl (by assumption))))))
set_option maxHeartbeats 400000 in
set_option maxRecDepth 20000 in
theorem c_Text_append (X : zXT) (h : zHp) (g : zLg) (letter : Int32) (hf0 : zfit h 1 0 110) : zDi X M_Text_append 0 [zR X 1, .int letter] h g none (o_Text_append h letter) g := by
  have hf0_1 := hf0.1
  refine zDi_of "PeriodSlots$Text" prog_7_method_2_code 2 none rfl (by decide) [zO X 1, zI letter] rfl (fun _ q => q) (Nat.le_of_ble_eq_true rfl) ?_
  intro Γ Q C hQ
  refine zr_aload_n C d_X5_append_0 rfl ?_
  refine gf_Text_1 C m81 d_X5_append_1 ?_
  refine zr_aload_n C d_X5_append_4 rfl ?_
  refine gf_Text_0 C m80 d_X5_append_5 ?_
  refine zr_alen C za_2 d_X5_append_8 ?_
  suffices hJ9 : ∀ (h5 : zHp), (if (nI 110) ≤ (h 1 0) then h else (zup (zup h 2 (zcn (h 1 0)) letter) 1 0 ((h 1 0) + 1))) = h5 → zV X Γ Q 32 [none, none] [] h5 g by
    refine zr_icmp_ge C 32 d_X5_append_9 (by decide) (fun c9 => ?_) (fun c9 => ?_)
    · have en1 := zn_ge (a := zcn (h 1 0)) (b := 110) hf0.2 rfl c9 (zcn_small _) (by decide)
      refine zr_lv [none, none] (by simp [zle]) ?_
      exact hJ9 h (((if_pos c9)))
    · have en2 := zn_nge (a := zcn (h 1 0)) (b := 110) hf0.2 rfl c9 (zcn_small _) (by decide)
      refine zr_aload_n C d_X5_append_12 rfl ?_
      refine gf_Text_0 C m80 d_X5_append_13 ?_
      refine zr_aload_n C d_X5_append_16 rfl ?_
      refine gf_Text_1 C m81 d_X5_append_17 ?_
      refine zr_iload_n C d_X5_append_20 rfl ?_
      refine zr_iast C za_2 (zcn (h 1 0)) hf0.2 (by omega) (by decide) d_X5_append_21 ?_
      refine zr_h (fun h3 eh3 => ?_)
      refine zr_aload_n C d_X5_append_22 rfl ?_
      refine zr_dup C d_X5_append_23 rfl ?_
      refine gf_Text_1 C m81 d_X5_append_24 ?_
      refine zr_top ((congrFun (congrFun eh3.symm _) _).trans (zup_fr (by omega))) ?_
      refine zr_iconst C (v := 1) d_X5_append_27 (by decide) ?_
      refine zr_iadd C d_X5_append_28 ?_
      refine pf_Text_1 C m81 d_X5_append_29 ?_
      refine zr_h (fun h4 eh4 => ?_)
      have hfh4 : zfit h4 1 0 110 := zfit_of (m := (zcn (h 1 0)) + 1) ((congrFun (congrFun eh4.symm _) _).trans (zup_at.trans (zn_add hf0.2 rfl))) (by omega) (by decide)
      have hfh4_1 := hfh4.1
      refine zr_lv [none, none] (by simp [zle]) ?_
      exact hJ9 h4 (by subst eh4 eh3; exact ((if_neg c9)))
  intro h5 eh5
  have eR : o_Text_append h letter = h5 := (by subst eh5; unfold o_Text_append; exact rfl)
  subst hQ
  rw [eR]
  exact zr_vret C d_X5_append_32
theorem d_X5_byteAt_0 : decode prog_7_method_6_code 0 = .ok (.iload_n 1, 1) := by decide +kernel
theorem d_X5_byteAt_1 : decode prog_7_method_6_code 1 = .ok (.ifCond .lt 29, 3) := by decide +kernel
theorem d_X5_byteAt_4 : decode prog_7_method_6_code 4 = .ok (.iload_n 1, 1) := by decide +kernel
theorem d_X5_byteAt_5 : decode prog_7_method_6_code 5 = .ok (.aload_n 0, 1) := by decide +kernel
theorem d_X5_byteAt_6 : decode prog_7_method_6_code 6 = .ok (.getfield 15, 3) := by decide +kernel
theorem d_X5_byteAt_9 : decode prog_7_method_6_code 9 = .ok (.if_icmp .ge 21, 3) := by decide +kernel
theorem d_X5_byteAt_12 : decode prog_7_method_6_code 12 = .ok (.iload_n 1, 1) := by decide +kernel
theorem d_X5_byteAt_13 : decode prog_7_method_6_code 13 = .ok (.aload_n 0, 1) := by decide +kernel
theorem d_X5_byteAt_14 : decode prog_7_method_6_code 14 = .ok (.getfield 9, 3) := by decide +kernel
theorem d_X5_byteAt_17 : decode prog_7_method_6_code 17 = .ok (.arraylength, 1) := by decide +kernel
theorem d_X5_byteAt_18 : decode prog_7_method_6_code 18 = .ok (.if_icmp .ge 12, 3) := by decide +kernel
theorem d_X5_byteAt_21 : decode prog_7_method_6_code 21 = .ok (.aload_n 0, 1) := by decide +kernel
theorem d_X5_byteAt_22 : decode prog_7_method_6_code 22 = .ok (.getfield 9, 3) := by decide +kernel
theorem d_X5_byteAt_25 : decode prog_7_method_6_code 25 = .ok (.iload_n 1, 1) := by decide +kernel
theorem d_X5_byteAt_26 : decode prog_7_method_6_code 26 = .ok (.iaload, 1) := by decide +kernel
theorem d_X5_byteAt_27 : decode prog_7_method_6_code 27 = .ok (.goto 4, 3) := by decide +kernel
theorem d_X5_byteAt_30 : decode prog_7_method_6_code 30 = .ok (.iconst (-1), 1) := by decide +kernel
theorem d_X5_byteAt_31 : decode prog_7_method_6_code 31 = .ok (.ireturn, 1) := by decide +kernel
abbrev M_Text_byteAt : zMT := (⟨"PeriodSlots$Text", "byteAt", "(I)I"⟩, prog_7_method_6_code, 2, (some .int))
theorem k_Text_byteAt : zcall M_Text_byteAt 1 := ⟨zU_in (i := 285) (by decide +kernel) rfl, m55, ⟨by decide, by decide, by decide +kernel⟩, by decide⟩
def o_Text_byteAt (h : zHp) (p : Int32) : Int32 :=
  (if p < 0 then (-1) else (if (h 1 0) ≤ p then (-1) else (if (nI 110) ≤ p then (-1) else (h 2 (zcn p)))))
theorem rd_Text_byteAt {h h2 : zHp} {p : Int32} (e0 : h2 1 0 = h 1 0) (e1 : h2 2 = h 2) : o_Text_byteAt h2 p = o_Text_byteAt h p := by
  unfold o_Text_byteAt
  simp only [e0, e1]

set_option maxHeartbeats 400000 in
set_option maxRecDepth 20000 in
theorem c_Text_byteAt (X : zXT) (h : zHp) (g : zLg) (p : Int32) : zDi X M_Text_byteAt 0 [zR X 1, .int p] h g (zI (o_Text_byteAt h p)) h g := by
  refine zDi_of "PeriodSlots$Text" prog_7_method_6_code 2 (some .int) rfl (by decide) [zO X 1, zI p] rfl (fun _ q => q) (Nat.le_of_ble_eq_true rfl) ?_
  intro Γ Q C hQ
  refine zr_iload_n C d_X5_byteAt_0 rfl ?_
  suffices hJ1 : ∀ (y3 : Int32), (if p < 0 then (-1) else (if (h 1 0) ≤ p then (-1) else (if (nI 110) ≤ p then (-1) else (h 2 (zcn p))))) = y3 → zV X Γ Q 31 [none, none] [.int y3] h g by
    refine zr_if_lt C 30 d_X5_byteAt_1 (by decide) (fun c1 => ?_) (fun c1 => ?_)
    · refine zr_iconst C (v := (-1)) d_X5_byteAt_30 (by decide) ?_
      refine zr_lv [none, none] (by simp [zle]) ?_
      exact hJ1 (-1) (((if_pos c1)))
    · refine zr_iload_n C d_X5_byteAt_4 rfl ?_
      refine zr_aload_n C d_X5_byteAt_5 rfl ?_
      refine gf_Text_1 C m81 d_X5_byteAt_6 ?_
      refine zr_icmp_ge C 30 d_X5_byteAt_9 (by decide) (fun c9 => ?_) (fun c9 => ?_)
      · refine zr_iconst C (v := (-1)) d_X5_byteAt_30 (by decide) ?_
        refine zr_lv [none, none] (by simp [zle]) ?_
        exact hJ1 (-1) (((if_neg c1).trans ((if_pos c9))))
      · refine zr_iload_n C d_X5_byteAt_12 rfl ?_
        refine zr_aload_n C d_X5_byteAt_13 rfl ?_
        refine gf_Text_0 C m80 d_X5_byteAt_14 ?_
        refine zr_alen C za_2 d_X5_byteAt_17 ?_
        refine zr_icmp_ge C 30 d_X5_byteAt_18 (by decide) (fun c18 => ?_) (fun c18 => ?_)
        · have en1 := zn_ge (a := zcn p) (b := 110) (zix c1) rfl c18 (zcn_small _) (by decide)
          refine zr_iconst C (v := (-1)) d_X5_byteAt_30 (by decide) ?_
          refine zr_lv [none, none] (by simp [zle]) ?_
          exact hJ1 (-1) (((if_neg c1).trans ((if_neg c9).trans ((if_pos c18)))))
        · have en2 := zn_nge (a := zcn p) (b := 110) (zix c1) rfl c18 (zcn_small _) (by decide)
          refine zr_aload_n C d_X5_byteAt_21 rfl ?_
          refine gf_Text_0 C m80 d_X5_byteAt_22 ?_
          refine zr_iload_n C d_X5_byteAt_25 rfl ?_
          refine zr_iald C za_2 (zcn p) (zix c1) (zcn_ltN c18 c1 rfl (by decide)) (by decide) d_X5_byteAt_26 ?_
          refine zr_goto C 31 d_X5_byteAt_27 (by decide) ?_
          refine zr_lv [none, none] (by simp [zle]) ?_
          exact hJ1 (h 2 (zcn p)) (((if_neg c1).trans ((if_neg c9).trans ((if_neg c18)))))
  intro y3 ey3
  have eR : o_Text_byteAt h p = y3 := (by subst ey3; unfold o_Text_byteAt; exact rfl)
  subst hQ
  rw [eR]
  exact zr_ireti C d_X5_byteAt_31
theorem pf_add {h : zHp} {b : Nat} {p o : Int32} (f : zfit h b 0 8) : zfit (o_Mesh_add h b p o) b 0 8 := by
  unfold o_Mesh_add
  by_cases c6 : h b 0 < 8
  · rw [if_pos c6]
    have en := zn_lt (a := zcn (h b 0)) (b := 8) f.2 rfl c6 (zcn_small _) (by decide)
    refine zfit_of (m := zcn (h b 0) + 1) ?_ (by omega) (by decide)
    rw [fr_Mesh_relate _ _ (by omega) (by omega) (by omega), fr_Mesh_dropOlds _ _ (by omega) (by omega) (by omega), zup_at]
    exact zn_add f.2 rfl
  · rw [if_neg c6]
    exact f

theorem d_X5_readStation_0 : decode prog_7_method_4_code 0 = .ok (.aload_n 0, 1) := by decide +kernel
theorem d_X5_readStation_1 : decode prog_7_method_4_code 1 = .ok (.iload_n 1, 1) := by decide +kernel
theorem d_X5_readStation_2 : decode prog_7_method_4_code 2 = .ok (.iconst 1, 1) := by decide +kernel
theorem d_X5_readStation_3 : decode prog_7_method_4_code 3 = .ok (.iadd, 1) := by decide +kernel
theorem d_X5_readStation_4 : decode prog_7_method_4_code 4 = .ok (.invokevirtual 24, 3) := by decide +kernel
theorem d_X5_readStation_7 : decode prog_7_method_4_code 7 = .ok (.bipush 48, 2) := by decide +kernel
theorem d_X5_readStation_9 : decode prog_7_method_4_code 9 = .ok (.isub, 1) := by decide +kernel
theorem d_X5_readStation_10 : decode prog_7_method_4_code 10 = .ok (.istore_n 3, 1) := by decide +kernel
theorem d_X5_readStation_11 : decode prog_7_method_4_code 11 = .ok (.iload_n 3, 1) := by decide +kernel
theorem d_X5_readStation_12 : decode prog_7_method_4_code 12 = .ok (.iconst 1, 1) := by decide +kernel
theorem d_X5_readStation_13 : decode prog_7_method_4_code 13 = .ok (.if_icmp .lt 8, 3) := by decide +kernel
theorem d_X5_readStation_16 : decode prog_7_method_4_code 16 = .ok (.iload_n 3, 1) := by decide +kernel
theorem d_X5_readStation_17 : decode prog_7_method_4_code 17 = .ok (.iconst 3, 1) := by decide +kernel
theorem d_X5_readStation_18 : decode prog_7_method_4_code 18 = .ok (.if_icmp .le 5, 3) := by decide +kernel
theorem d_X5_readStation_21 : decode prog_7_method_4_code 21 = .ok (.iconst 1, 1) := by decide +kernel
theorem d_X5_readStation_22 : decode prog_7_method_4_code 22 = .ok (.ireturn, 1) := by decide +kernel
theorem d_X5_readStation_23 : decode prog_7_method_4_code 23 = .ok (.iconst 1, 1) := by decide +kernel
theorem d_X5_readStation_24 : decode prog_7_method_4_code 24 = .ok (.iload_n 3, 1) := by decide +kernel
theorem d_X5_readStation_25 : decode prog_7_method_4_code 25 = .ok (.ishl, 1) := by decide +kernel
theorem d_X5_readStation_26 : decode prog_7_method_4_code 26 = .ok (.istore 4, 2) := by decide +kernel
theorem d_X5_readStation_28 : decode prog_7_method_4_code 28 = .ok (.aload_n 0, 1) := by decide +kernel
theorem d_X5_readStation_29 : decode prog_7_method_4_code 29 = .ok (.iload_n 1, 1) := by decide +kernel
theorem d_X5_readStation_30 : decode prog_7_method_4_code 30 = .ok (.iconst 2, 1) := by decide +kernel
theorem d_X5_readStation_31 : decode prog_7_method_4_code 31 = .ok (.iadd, 1) := by decide +kernel
theorem d_X5_readStation_32 : decode prog_7_method_4_code 32 = .ok (.invokevirtual 24, 3) := by decide +kernel
theorem d_X5_readStation_35 : decode prog_7_method_4_code 35 = .ok (.istore 5, 2) := by decide +kernel
theorem d_X5_readStation_37 : decode prog_7_method_4_code 37 = .ok (.iload 5, 2) := by decide +kernel
theorem d_X5_readStation_39 : decode prog_7_method_4_code 39 = .ok (.bipush 45, 2) := by decide +kernel
theorem d_X5_readStation_41 : decode prog_7_method_4_code 41 = .ok (.if_icmp .eq 22, 3) := by decide +kernel
theorem d_X5_readStation_44 : decode prog_7_method_4_code 44 = .ok (.iload 5, 2) := by decide +kernel
theorem d_X5_readStation_46 : decode prog_7_method_4_code 46 = .ok (.bipush 97, 2) := by decide +kernel
theorem d_X5_readStation_48 : decode prog_7_method_4_code 48 = .ok (.if_icmp .lt 13, 3) := by decide +kernel
theorem d_X5_readStation_51 : decode prog_7_method_4_code 51 = .ok (.iload 5, 2) := by decide +kernel
theorem d_X5_readStation_53 : decode prog_7_method_4_code 53 = .ok (.bipush 97, 2) := by decide +kernel
theorem d_X5_readStation_55 : decode prog_7_method_4_code 55 = .ok (.iload 4, 2) := by decide +kernel
theorem d_X5_readStation_57 : decode prog_7_method_4_code 57 = .ok (.iadd, 1) := by decide +kernel
theorem d_X5_readStation_58 : decode prog_7_method_4_code 58 = .ok (.if_icmp .lt 5, 3) := by decide +kernel
theorem d_X5_readStation_61 : decode prog_7_method_4_code 61 = .ok (.iconst 2, 1) := by decide +kernel
theorem d_X5_readStation_62 : decode prog_7_method_4_code 62 = .ok (.ireturn, 1) := by decide +kernel
theorem d_X5_readStation_63 : decode prog_7_method_4_code 63 = .ok (.aload_n 2, 1) := by decide +kernel
theorem d_X5_readStation_64 : decode prog_7_method_4_code 64 = .ok (.iload 4, 2) := by decide +kernel
theorem d_X5_readStation_66 : decode prog_7_method_4_code 66 = .ok (.iload 5, 2) := by decide +kernel
theorem d_X5_readStation_68 : decode prog_7_method_4_code 68 = .ok (.bipush 45, 2) := by decide +kernel
theorem d_X5_readStation_70 : decode prog_7_method_4_code 70 = .ok (.if_icmp .ne 8, 3) := by decide +kernel
theorem d_X5_readStation_73 : decode prog_7_method_4_code 73 = .ok (.bipush (-9), 2) := by decide +kernel
theorem d_X5_readStation_75 : decode prog_7_method_4_code 75 = .ok (.goto 8, 3) := by decide +kernel
theorem d_X5_readStation_78 : decode prog_7_method_4_code 78 = .ok (.iload 5, 2) := by decide +kernel
theorem d_X5_readStation_80 : decode prog_7_method_4_code 80 = .ok (.bipush 97, 2) := by decide +kernel
theorem d_X5_readStation_82 : decode prog_7_method_4_code 82 = .ok (.isub, 1) := by decide +kernel
theorem d_X5_readStation_83 : decode prog_7_method_4_code 83 = .ok (.invokevirtual 42, 3) := by decide +kernel
theorem d_X5_readStation_86 : decode prog_7_method_4_code 86 = .ok (.iconst 3, 1) := by decide +kernel
theorem d_X5_readStation_87 : decode prog_7_method_4_code 87 = .ok (.ireturn, 1) := by decide +kernel
abbrev M_Text_readStation : zMT := (⟨"PeriodSlots$Text", "readStation", "(ILPeriodSlots$Mesh;)I"⟩, prog_7_method_4_code, 6, (some .int))
theorem k_Text_readStation : zcall M_Text_readStation 2 := ⟨zU_in (i := 289) (by decide +kernel) rfl, m55, ⟨by decide, by decide, by decide +kernel⟩, by decide⟩
def o_Text_readStation (h : zHp) (p : Int32) (m : Nat) : Int32 × zHp :=
  (if ((o_Text_byteAt h (p + 1)) - 48) < 1 then (1, h) else (if ((o_Text_byteAt h (p + 1)) - 48) ≤ 3 then (if (o_Text_byteAt h (p + 2)) = 45 then (3, (o_Mesh_add h m (zshl 1 ((o_Text_byteAt h (p + 1)) - 48)) (-9))) else (if (o_Text_byteAt h (p + 2)) < 97 then (2, h) else (if (o_Text_byteAt h (p + 2)) < (97 + (zshl 1 ((o_Text_byteAt h (p + 1)) - 48))) then (3, (o_Mesh_add h m (zshl 1 ((o_Text_byteAt h (p + 1)) - 48)) ((o_Text_byteAt h (p + 2)) - 97))) else (2, h)))) else (1, h)))
theorem fr_Text_readStation {h : zHp} {p : Int32} {m : Nat} (c k : Nat) (q0 : ¬ (c = m ∧ k = 0)) (q1 : c ≠ m + 1) (q2 : c ≠ m + 2) (q3 : c ≠ m + 3) (q4 : c ≠ m + 4) (q5 : c ≠ m + 5) (q6 : c ≠ m + 6) (q7 : c ≠ m + 7) (q8 : c ≠ m + 8) (q9 : c ≠ m + 9) (q10 : c ≠ m + 10) : (o_Text_readStation h p m).2 c k = h c k := by
  unfold o_Text_readStation
  by_cases f1 : ((o_Text_byteAt h (p + 1)) - 48) < 1
  · rw [if_pos f1]
    try dsimp only
    first | done | exact rfl
  · rw [if_neg f1]
    by_cases f2 : ((o_Text_byteAt h (p + 1)) - 48) ≤ 3
    · rw [if_pos f2]
      by_cases f3 : (o_Text_byteAt h (p + 2)) = 45
      · rw [if_pos f3]
        try dsimp only
        first | done | exact (fr_Mesh_add _ _ (by assumption) (by assumption) (by assumption) (by assumption) (by assumption) (by assumption) (by assumption) (by assumption) (by assumption) (by assumption) (by assumption))
      · rw [if_neg f3]
        by_cases f4 : (o_Text_byteAt h (p + 2)) < 97
        · rw [if_pos f4]
          try dsimp only
          first | done | exact rfl
        · rw [if_neg f4]
          by_cases f5 : (o_Text_byteAt h (p + 2)) < (97 + (zshl 1 ((o_Text_byteAt h (p + 1)) - 48)))
          · rw [if_pos f5]
            try dsimp only
            first | done | exact (fr_Mesh_add _ _ (by assumption) (by assumption) (by assumption) (by assumption) (by assumption) (by assumption) (by assumption) (by assumption) (by assumption) (by assumption) (by assumption))
          · rw [if_neg f5]
            try dsimp only
            first | done | exact rfl
    · rw [if_neg f2]
      try dsimp only
      first | done | exact rfl
set_option maxHeartbeats 400000 in
set_option maxRecDepth 20000 in
theorem c_Text_readStation (X : zXT) (h : zHp) (g : zLg) (p : Int32) (m : Nat) (hm : m = 3 ∨ m = 15 ∨ m = 27) (hf0 : zfit h m 0 8) : zDi X M_Text_readStation 4 [zR X 1, .int p, zR X m] h g (zI ((o_Text_readStation h p m).1)) ((o_Text_readStation h p m).2) g := by
  have hf0_1 := hf0.1
  refine zDi_of "PeriodSlots$Text" prog_7_method_4_code 6 (some .int) rfl (by decide) [zO X 1, zI p, zO X m, none, none, none] rfl (fun _ q => q) (Nat.le_of_ble_eq_true rfl) ?_
  intro Γ Q C hQ
  refine zr_aload_n C d_X5_readStation_0 rfl ?_
  refine zr_iload_n C d_X5_readStation_1 rfl ?_
  refine zr_iconst C (v := 1) d_X5_readStation_2 (by decide) ?_
  refine zr_iadd C d_X5_readStation_3 ?_
  refine zr_callVi (As := [.int (p + 1)]) (st := []) (c := 1) C (c_Text_byteAt X h g (p + 1)) k_Text_byteAt m282 m284 m0 (by decide) (zC_Text X _ _) rfl rfl (by decide) rfl (Nat.le_of_ble_eq_true rfl) d_X5_readStation_4 ?_
  refine zr_bipush C (v := 48) d_X5_readStation_7 (by decide) ?_
  refine zr_isub C d_X5_readStation_9 ?_
  refine zr_istore_n C [zO X 1, zI p, zO X m, zI ((o_Text_byteAt h (p + 1)) - 48), none, none] d_X5_readStation_10 (Nat.le_of_ble_eq_true rfl) rfl rfl ?_
  refine zr_iload_n C d_X5_readStation_11 rfl ?_
  refine zr_iconst C (v := 1) d_X5_readStation_12 (by decide) ?_
  refine zr_icmp_lt C 21 d_X5_readStation_13 (by decide) (fun c13 => ?_) (fun c13 => ?_)
  · refine zr_iconst C (v := 1) d_X5_readStation_21 (by decide) ?_
    have eR : o_Text_readStation h p m = (1, h) := (by unfold o_Text_readStation; rw [if_pos c13])
    subst hQ
    exact zTQ_Ih eR (zr_ireti C d_X5_readStation_22)
  · refine zr_iload_n C d_X5_readStation_16 rfl ?_
    refine zr_iconst C (v := 3) d_X5_readStation_17 (by decide) ?_
    refine zr_icmp_le C 23 d_X5_readStation_18 (by decide) (fun c18 => ?_) (fun c18 => ?_)
    · refine zr_iconst C (v := 1) d_X5_readStation_23 (by decide) ?_
      refine zr_iload_n C d_X5_readStation_24 rfl ?_
      refine zr_ishl C d_X5_readStation_25 ?_
      refine zr_istore C [zO X 1, zI p, zO X m, zI ((o_Text_byteAt h (p + 1)) - 48), zI (zshl 1 ((o_Text_byteAt h (p + 1)) - 48)), none] d_X5_readStation_26 (Nat.le_of_ble_eq_true rfl) rfl rfl ?_
      refine zr_aload_n C d_X5_readStation_28 rfl ?_
      refine zr_iload_n C d_X5_readStation_29 rfl ?_
      refine zr_iconst C (v := 2) d_X5_readStation_30 (by decide) ?_
      refine zr_iadd C d_X5_readStation_31 ?_
      refine zr_callVi (As := [.int (p + 2)]) (st := []) (c := 1) C (c_Text_byteAt X h g (p + 2)) k_Text_byteAt m282 m284 m0 (by decide) (zC_Text X _ _) rfl rfl (by decide) rfl (Nat.le_of_ble_eq_true rfl) d_X5_readStation_32 ?_
      refine zr_istore C [zO X 1, zI p, zO X m, zI ((o_Text_byteAt h (p + 1)) - 48), zI (zshl 1 ((o_Text_byteAt h (p + 1)) - 48)), zI (o_Text_byteAt h (p + 2))] d_X5_readStation_35 (Nat.le_of_ble_eq_true rfl) rfl rfl ?_
      refine zr_iload C d_X5_readStation_37 rfl ?_
      refine zr_bipush C (v := 45) d_X5_readStation_39 (by decide) ?_
      refine zr_icmp_eq C 63 d_X5_readStation_41 (by decide) (fun c41 => ?_) (fun c41 => ?_)
      · refine zr_aload_n C d_X5_readStation_63 rfl ?_
        refine zr_iload C d_X5_readStation_64 rfl ?_
        refine zr_iload C d_X5_readStation_66 rfl ?_
        refine zr_bipush C (v := 45) d_X5_readStation_68 (by decide) ?_
        refine zr_icmp_ne C 78 d_X5_readStation_70 (by decide) (fun c => absurd c41 c) (fun _ => ?_)
        refine zr_bipush C (v := (-9)) d_X5_readStation_73 (by decide) ?_
        refine zr_goto C 83 d_X5_readStation_75 (by decide) ?_
        refine zr_callVv (As := [.int (zshl 1 ((o_Text_byteAt h (p + 1)) - 48)), .int (-9)]) (st := []) (c := m) C (c_Mesh_add X h g m (zshl 1 ((o_Text_byteAt h (p + 1)) - 48)) (-9) hm hf0) k_Mesh_add m290 m291 m292 (by omega) (zC_Mesh hm X _ _) rfl rfl (by decide) rfl (Nat.le_of_ble_eq_true rfl) d_X5_readStation_83 ?_
        refine zr_h (fun h1 eh1 => ?_)
        have hph1 : zfit h1 m 0 8 := by rw [← eh1]; exact pf_add hf0
        have hph1_1 := hph1.1
        refine zr_iconst C (v := 3) d_X5_readStation_86 (by decide) ?_
        have eR : o_Text_readStation h p m = (3, h1) := (by subst eh1; unfold o_Text_readStation; rw [if_neg c13, if_pos c18, if_pos c41])
        subst hQ
        exact zTQ_Ih eR (zr_ireti C d_X5_readStation_87)
      · refine zr_iload C d_X5_readStation_44 rfl ?_
        refine zr_bipush C (v := 97) d_X5_readStation_46 (by decide) ?_
        refine zr_icmp_lt C 61 d_X5_readStation_48 (by decide) (fun c48 => ?_) (fun c48 => ?_)
        · refine zr_iconst C (v := 2) d_X5_readStation_61 (by decide) ?_
          have eR : o_Text_readStation h p m = (2, h) := (by unfold o_Text_readStation; rw [if_neg c13, if_pos c18, if_neg c41, if_pos c48])
          subst hQ
          exact zTQ_Ih eR (zr_ireti C d_X5_readStation_62)
        · refine zr_iload C d_X5_readStation_51 rfl ?_
          refine zr_bipush C (v := 97) d_X5_readStation_53 (by decide) ?_
          refine zr_iload C d_X5_readStation_55 rfl ?_
          refine zr_iadd C d_X5_readStation_57 ?_
          refine zr_icmp_lt C 63 d_X5_readStation_58 (by decide) (fun c58 => ?_) (fun c58 => ?_)
          · refine zr_aload_n C d_X5_readStation_63 rfl ?_
            refine zr_iload C d_X5_readStation_64 rfl ?_
            refine zr_iload C d_X5_readStation_66 rfl ?_
            refine zr_bipush C (v := 45) d_X5_readStation_68 (by decide) ?_
            refine zr_icmp_ne C 78 d_X5_readStation_70 (by decide) (fun _ => ?_) (fun c => absurd c c41)
            refine zr_iload C d_X5_readStation_78 rfl ?_
            refine zr_bipush C (v := 97) d_X5_readStation_80 (by decide) ?_
            refine zr_isub C d_X5_readStation_82 ?_
            refine zr_callVv (As := [.int (zshl 1 ((o_Text_byteAt h (p + 1)) - 48)), .int ((o_Text_byteAt h (p + 2)) - 97)]) (st := []) (c := m) C (c_Mesh_add X h g m (zshl 1 ((o_Text_byteAt h (p + 1)) - 48)) ((o_Text_byteAt h (p + 2)) - 97) hm hf0) k_Mesh_add m290 m291 m292 (by omega) (zC_Mesh hm X _ _) rfl rfl (by decide) rfl (Nat.le_of_ble_eq_true rfl) d_X5_readStation_83 ?_
            refine zr_h (fun h2 eh2 => ?_)
            have hph2 : zfit h2 m 0 8 := by rw [← eh2]; exact pf_add hf0
            have hph2_1 := hph2.1
            refine zr_iconst C (v := 3) d_X5_readStation_86 (by decide) ?_
            have eR : o_Text_readStation h p m = (3, h2) := (by subst eh2; unfold o_Text_readStation; rw [if_neg c13, if_pos c18, if_neg c41, if_neg c48, if_pos c58])
            subst hQ
            exact zTQ_Ih eR (zr_ireti C d_X5_readStation_87)
          · refine zr_iconst C (v := 2) d_X5_readStation_61 (by decide) ?_
            have eR : o_Text_readStation h p m = (2, h) := (by unfold o_Text_readStation; rw [if_neg c13, if_pos c18, if_neg c41, if_neg c48, if_neg c58])
            subst hQ
            exact zTQ_Ih eR (zr_ireti C d_X5_readStation_62)
    · refine zr_iconst C (v := 1) d_X5_readStation_21 (by decide) ?_
      have eR : o_Text_readStation h p m = (1, h) := (by unfold o_Text_readStation; rw [if_neg c13, if_neg c18])
      subst hQ
      exact zTQ_Ih eR (zr_ireti C d_X5_readStation_22)
theorem d_X5_readLink_0 : decode prog_7_method_5_code 0 = .ok (.aload_n 0, 1) := by decide +kernel
theorem d_X5_readLink_1 : decode prog_7_method_5_code 1 = .ok (.iload_n 1, 1) := by decide +kernel
theorem d_X5_readLink_2 : decode prog_7_method_5_code 2 = .ok (.iconst 1, 1) := by decide +kernel
theorem d_X5_readLink_3 : decode prog_7_method_5_code 3 = .ok (.iadd, 1) := by decide +kernel
theorem d_X5_readLink_4 : decode prog_7_method_5_code 4 = .ok (.invokevirtual 24, 3) := by decide +kernel
theorem d_X5_readLink_7 : decode prog_7_method_5_code 7 = .ok (.bipush 48, 2) := by decide +kernel
theorem d_X5_readLink_9 : decode prog_7_method_5_code 9 = .ok (.isub, 1) := by decide +kernel
theorem d_X5_readLink_10 : decode prog_7_method_5_code 10 = .ok (.istore_n 3, 1) := by decide +kernel
theorem d_X5_readLink_11 : decode prog_7_method_5_code 11 = .ok (.aload_n 2, 1) := by decide +kernel
theorem d_X5_readLink_12 : decode prog_7_method_5_code 12 = .ok (.iload_n 3, 1) := by decide +kernel
theorem d_X5_readLink_13 : decode prog_7_method_5_code 13 = .ok (.invokevirtual 46, 3) := by decide +kernel
theorem d_X5_readLink_16 : decode prog_7_method_5_code 16 = .ok (.ifCond .eq 11, 3) := by decide +kernel
theorem d_X5_readLink_19 : decode prog_7_method_5_code 19 = .ok (.aload_n 2, 1) := by decide +kernel
theorem d_X5_readLink_20 : decode prog_7_method_5_code 20 = .ok (.iload_n 3, 1) := by decide +kernel
theorem d_X5_readLink_21 : decode prog_7_method_5_code 21 = .ok (.invokevirtual 50, 3) := by decide +kernel
theorem d_X5_readLink_24 : decode prog_7_method_5_code 24 = .ok (.ifCond .eq 5, 3) := by decide +kernel
theorem d_X5_readLink_27 : decode prog_7_method_5_code 27 = .ok (.iconst 1, 1) := by decide +kernel
theorem d_X5_readLink_28 : decode prog_7_method_5_code 28 = .ok (.ireturn, 1) := by decide +kernel
theorem d_X5_readLink_29 : decode prog_7_method_5_code 29 = .ok (.aload_n 0, 1) := by decide +kernel
theorem d_X5_readLink_30 : decode prog_7_method_5_code 30 = .ok (.iload_n 1, 1) := by decide +kernel
theorem d_X5_readLink_31 : decode prog_7_method_5_code 31 = .ok (.iconst 2, 1) := by decide +kernel
theorem d_X5_readLink_32 : decode prog_7_method_5_code 32 = .ok (.iadd, 1) := by decide +kernel
theorem d_X5_readLink_33 : decode prog_7_method_5_code 33 = .ok (.invokevirtual 24, 3) := by decide +kernel
theorem d_X5_readLink_36 : decode prog_7_method_5_code 36 = .ok (.bipush 48, 2) := by decide +kernel
theorem d_X5_readLink_38 : decode prog_7_method_5_code 38 = .ok (.isub, 1) := by decide +kernel
theorem d_X5_readLink_39 : decode prog_7_method_5_code 39 = .ok (.istore 4, 2) := by decide +kernel
theorem d_X5_readLink_41 : decode prog_7_method_5_code 41 = .ok (.aload_n 2, 1) := by decide +kernel
theorem d_X5_readLink_42 : decode prog_7_method_5_code 42 = .ok (.iload 4, 2) := by decide +kernel
theorem d_X5_readLink_44 : decode prog_7_method_5_code 44 = .ok (.invokevirtual 46, 3) := by decide +kernel
theorem d_X5_readLink_47 : decode prog_7_method_5_code 47 = .ok (.ifCond .eq 23, 3) := by decide +kernel
theorem d_X5_readLink_50 : decode prog_7_method_5_code 50 = .ok (.iload_n 3, 1) := by decide +kernel
theorem d_X5_readLink_51 : decode prog_7_method_5_code 51 = .ok (.iload 4, 2) := by decide +kernel
theorem d_X5_readLink_53 : decode prog_7_method_5_code 53 = .ok (.if_icmp .eq 17, 3) := by decide +kernel
theorem d_X5_readLink_56 : decode prog_7_method_5_code 56 = .ok (.aload_n 2, 1) := by decide +kernel
theorem d_X5_readLink_57 : decode prog_7_method_5_code 57 = .ok (.getfield 53, 3) := by decide +kernel
theorem d_X5_readLink_60 : decode prog_7_method_5_code 60 = .ok (.iload_n 3, 1) := by decide +kernel
theorem d_X5_readLink_61 : decode prog_7_method_5_code 61 = .ok (.iaload, 1) := by decide +kernel
theorem d_X5_readLink_62 : decode prog_7_method_5_code 62 = .ok (.iload 4, 2) := by decide +kernel
theorem d_X5_readLink_64 : decode prog_7_method_5_code 64 = .ok (.invokestatic 56, 3) := by decide +kernel
theorem d_X5_readLink_67 : decode prog_7_method_5_code 67 = .ok (.ifCond .eq 5, 3) := by decide +kernel
theorem d_X5_readLink_70 : decode prog_7_method_5_code 70 = .ok (.iconst 2, 1) := by decide +kernel
theorem d_X5_readLink_71 : decode prog_7_method_5_code 71 = .ok (.ireturn, 1) := by decide +kernel
theorem d_X5_readLink_72 : decode prog_7_method_5_code 72 = .ok (.aload_n 2, 1) := by decide +kernel
theorem d_X5_readLink_73 : decode prog_7_method_5_code 73 = .ok (.iload_n 3, 1) := by decide +kernel
theorem d_X5_readLink_74 : decode prog_7_method_5_code 74 = .ok (.iload 4, 2) := by decide +kernel
theorem d_X5_readLink_76 : decode prog_7_method_5_code 76 = .ok (.invokevirtual 60, 3) := by decide +kernel
theorem d_X5_readLink_79 : decode prog_7_method_5_code 79 = .ok (.iconst 3, 1) := by decide +kernel
theorem d_X5_readLink_80 : decode prog_7_method_5_code 80 = .ok (.ireturn, 1) := by decide +kernel
abbrev M_Text_readLink : zMT := (⟨"PeriodSlots$Text", "readLink", "(ILPeriodSlots$Mesh;)I"⟩, prog_7_method_5_code, 5, (some .int))
theorem k_Text_readLink : zcall M_Text_readLink 2 := ⟨zU_in (i := 357) (by decide +kernel) rfl, m55, ⟨by decide, by decide, by decide +kernel⟩, by decide⟩
def o_Text_readLink (h : zHp) (p : Int32) (m : Nat) : Int32 × zHp :=
  (if (o_Mesh_exists h m ((o_Text_byteAt h (p + 1)) - 48)) = true then (if (o_Mesh_isLinkedWithAll h m (zcn ((o_Text_byteAt h (p + 1)) - 48))) = true then (1, h) else (if (o_Mesh_exists h m ((o_Text_byteAt h (p + 2)) - 48)) = true then (if ((o_Text_byteAt h (p + 1)) - 48) = ((o_Text_byteAt h (p + 2)) - 48) then (2, h) else (if (o_Slots_has (h (m + 2) (zcn ((o_Text_byteAt h (p + 1)) - 48))) ((o_Text_byteAt h (p + 2)) - 48)) = true then (2, h) else (3, (o_Mesh_flipLink h m (zcn ((o_Text_byteAt h (p + 1)) - 48)) (zcn ((o_Text_byteAt h (p + 2)) - 48)))))) else (2, h))) else (1, h))
theorem fr_Text_readLink {h : zHp} {p : Int32} {m : Nat} (c k : Nat) (q0 : c ≠ m + 2) (q1 : c ≠ m + 4) (q2 : c ≠ m + 6) (q3 : c ≠ m + 7) (q4 : c ≠ m + 8) (q5 : c ≠ m + 9) (q6 : c ≠ m + 10) : (o_Text_readLink h p m).2 c k = h c k := by
  unfold o_Text_readLink
  by_cases f1 : (o_Mesh_exists h m ((o_Text_byteAt h (p + 1)) - 48)) = true
  · rw [if_pos f1]
    by_cases f2 : (o_Mesh_isLinkedWithAll h m (zcn ((o_Text_byteAt h (p + 1)) - 48))) = true
    · rw [if_pos f2]
      try dsimp only
      first | done | exact rfl
    · rw [if_neg f2]
      by_cases f3 : (o_Mesh_exists h m ((o_Text_byteAt h (p + 2)) - 48)) = true
      · rw [if_pos f3]
        by_cases f4 : ((o_Text_byteAt h (p + 1)) - 48) = ((o_Text_byteAt h (p + 2)) - 48)
        · rw [if_pos f4]
          try dsimp only
          first | done | exact rfl
        · rw [if_neg f4]
          by_cases f5 : (o_Slots_has (h (m + 2) (zcn ((o_Text_byteAt h (p + 1)) - 48))) ((o_Text_byteAt h (p + 2)) - 48)) = true
          · rw [if_pos f5]
            try dsimp only
            first | done | exact rfl
          · rw [if_neg f5]
            try dsimp only
            first | done | exact (fr_Mesh_flipLink _ _ (by assumption) (by assumption) (by assumption) (by assumption) (by assumption) (by assumption) (by assumption))
      · rw [if_neg f3]
        try dsimp only
        first | done | exact rfl
  · rw [if_neg f1]
    try dsimp only
    first | done | exact rfl
set_option maxHeartbeats 400000 in
set_option maxRecDepth 20000 in
theorem c_Text_readLink (X : zXT) (h : zHp) (g : zLg) (p : Int32) (m : Nat) (hm : m = 3 ∨ m = 15 ∨ m = 27) (hf0 : zfit h m 0 8) : zDi X M_Text_readLink 4 [zR X 1, .int p, zR X m] h g (zI ((o_Text_readLink h p m).1)) ((o_Text_readLink h p m).2) g := by
  have hf0_1 := hf0.1
  refine zDi_of "PeriodSlots$Text" prog_7_method_5_code 5 (some .int) rfl (by decide) [zO X 1, zI p, zO X m, none, none] rfl (fun _ q => q) (Nat.le_of_ble_eq_true rfl) ?_
  intro Γ Q C hQ
  refine zr_aload_n C d_X5_readLink_0 rfl ?_
  refine zr_iload_n C d_X5_readLink_1 rfl ?_
  refine zr_iconst C (v := 1) d_X5_readLink_2 (by decide) ?_
  refine zr_iadd C d_X5_readLink_3 ?_
  refine zr_callVi (As := [.int (p + 1)]) (st := []) (c := 1) C (c_Text_byteAt X h g (p + 1)) k_Text_byteAt m282 m284 m0 (by decide) (zC_Text X _ _) rfl rfl (by decide) rfl (Nat.le_of_ble_eq_true rfl) d_X5_readLink_4 ?_
  refine zr_bipush C (v := 48) d_X5_readLink_7 (by decide) ?_
  refine zr_isub C d_X5_readLink_9 ?_
  refine zr_istore_n C [zO X 1, zI p, zO X m, zI ((o_Text_byteAt h (p + 1)) - 48), none] d_X5_readLink_10 (Nat.le_of_ble_eq_true rfl) rfl rfl ?_
  refine zr_aload_n C d_X5_readLink_11 rfl ?_
  refine zr_iload_n C d_X5_readLink_12 rfl ?_
  refine zr_callVi (As := [.int ((o_Text_byteAt h (p + 1)) - 48)]) (st := []) (c := m) C (c_Mesh_exists X h g m ((o_Text_byteAt h (p + 1)) - 48) hm) k_Mesh_exists m358 m359 m360 (by omega) (zC_Mesh hm X _ _) rfl rfl (by decide) rfl (Nat.le_of_ble_eq_true rfl) d_X5_readLink_13 ?_
  refine zr_ifz_eq C 27 d_X5_readLink_16 (by decide) (fun c16 => ?_) (fun c16 => ?_)
  · refine zr_iconst C (v := 1) d_X5_readLink_27 (by decide) ?_
    have eR : o_Text_readLink h p m = (1, h) := (by unfold o_Text_readLink; rw [if_neg (zbf c16)])
    subst hQ
    exact zTQ_Ih eR (zr_ireti C d_X5_readLink_28)
  · have ex1 := zex c16
    have ex1_2 := ex1.2
    have ex1_b := (hf0).1
    refine zr_aload_n C d_X5_readLink_19 rfl ?_
    refine zr_iload_n C d_X5_readLink_20 rfl ?_
    refine zr_callVi (As := [.int ((o_Text_byteAt h (p + 1)) - 48)]) (st := []) (c := m) C (c_Mesh_isLinkedWithAll X h g m (zcn ((o_Text_byteAt h (p + 1)) - 48)) (zix ex1.1) hm hf0 (by omega)) k_Mesh_isLinkedWithAll m362 m363 m364 (by omega) (zC_Mesh hm X _ _) rfl rfl (by decide) rfl (Nat.le_of_ble_eq_true rfl) d_X5_readLink_21 ?_
    refine zr_ifz_eq C 29 d_X5_readLink_24 (by decide) (fun c24 => ?_) (fun c24 => ?_)
    · refine zr_aload_n C d_X5_readLink_29 rfl ?_
      refine zr_iload_n C d_X5_readLink_30 rfl ?_
      refine zr_iconst C (v := 2) d_X5_readLink_31 (by decide) ?_
      refine zr_iadd C d_X5_readLink_32 ?_
      refine zr_callVi (As := [.int (p + 2)]) (st := []) (c := 1) C (c_Text_byteAt X h g (p + 2)) k_Text_byteAt m282 m284 m0 (by decide) (zC_Text X _ _) rfl rfl (by decide) rfl (Nat.le_of_ble_eq_true rfl) d_X5_readLink_33 ?_
      refine zr_bipush C (v := 48) d_X5_readLink_36 (by decide) ?_
      refine zr_isub C d_X5_readLink_38 ?_
      refine zr_istore C [zO X 1, zI p, zO X m, zI ((o_Text_byteAt h (p + 1)) - 48), zI ((o_Text_byteAt h (p + 2)) - 48)] d_X5_readLink_39 (Nat.le_of_ble_eq_true rfl) rfl rfl ?_
      refine zr_aload_n C d_X5_readLink_41 rfl ?_
      refine zr_iload C d_X5_readLink_42 rfl ?_
      refine zr_callVi (As := [.int ((o_Text_byteAt h (p + 2)) - 48)]) (st := []) (c := m) C (c_Mesh_exists X h g m ((o_Text_byteAt h (p + 2)) - 48) hm) k_Mesh_exists m358 m359 m360 (by omega) (zC_Mesh hm X _ _) rfl rfl (by decide) rfl (Nat.le_of_ble_eq_true rfl) d_X5_readLink_44 ?_
      refine zr_ifz_eq C 70 d_X5_readLink_47 (by decide) (fun c47 => ?_) (fun c47 => ?_)
      · refine zr_iconst C (v := 2) d_X5_readLink_70 (by decide) ?_
        have eR : o_Text_readLink h p m = (2, h) := (by unfold o_Text_readLink; rw [if_pos c16, if_neg (zbf c24), if_neg (zbf c47)])
        subst hQ
        exact zTQ_Ih eR (zr_ireti C d_X5_readLink_71)
      · have ex2 := zex c47
        have ex2_2 := ex2.2
        have ex2_b := (hf0).1
        refine zr_iload_n C d_X5_readLink_50 rfl ?_
        refine zr_iload C d_X5_readLink_51 rfl ?_
        refine zr_icmp_eq C 70 d_X5_readLink_53 (by decide) (fun c53 => ?_) (fun c53 => ?_)
        · have en3 := zn_eq (a := zcn ((o_Text_byteAt h (p + 1)) - 48)) (b := zcn ((o_Text_byteAt h (p + 2)) - 48)) (zix ex1.1) (zix ex2.1) c53 (zcn_small _) (zcn_small _)
          refine zr_iconst C (v := 2) d_X5_readLink_70 (by decide) ?_
          have eR : o_Text_readLink h p m = (2, h) := (by unfold o_Text_readLink; rw [if_pos c16, if_neg (zbf c24), if_pos c47, if_pos c53])
          subst hQ
          exact zTQ_Ih eR (zr_ireti C d_X5_readLink_71)
        · have en4 := zn_neq (a := zcn ((o_Text_byteAt h (p + 1)) - 48)) (b := zcn ((o_Text_byteAt h (p + 2)) - 48)) (zix ex1.1) (zix ex2.1) c53 (zcn_small _) (zcn_small _)
          refine zr_aload_n C d_X5_readLink_56 rfl ?_
          refine gf_Mesh_4 C hm m109 d_X5_readLink_57 ?_
          refine zr_iload_n C d_X5_readLink_60 rfl ?_
          refine zr_iald C (za_mesh_2 hm) (zcn ((o_Text_byteAt h (p + 1)) - 48)) (zix ex1.1) (by omega) (by decide) d_X5_readLink_61 ?_
          refine zr_iload C d_X5_readLink_62 rfl ?_
          refine zr_callNi (As := [.int (h (m + 2) (zcn ((o_Text_byteAt h (p + 1)) - 48))), .int ((o_Text_byteAt h (p + 2)) - 48)]) (st := []) C (c_Slots_has X h g (h (m + 2) (zcn ((o_Text_byteAt h (p + 1)) - 48))) ((o_Text_byteAt h (p + 2)) - 48)) k_Slots_has (by simp [zNest]) m322 rfl (by decide) rfl (Nat.le_of_ble_eq_true rfl) d_X5_readLink_64 ?_
          refine zr_ifz_eq C 72 d_X5_readLink_67 (by decide) (fun c67 => ?_) (fun c67 => ?_)
          · refine zr_aload_n C d_X5_readLink_72 rfl ?_
            refine zr_iload_n C d_X5_readLink_73 rfl ?_
            refine zr_iload C d_X5_readLink_74 rfl ?_
            refine zr_callVv (As := [.int ((o_Text_byteAt h (p + 1)) - 48), .int ((o_Text_byteAt h (p + 2)) - 48)]) (st := []) (c := m) C (c_Mesh_flipLink X h g m (zcn ((o_Text_byteAt h (p + 1)) - 48)) (zcn ((o_Text_byteAt h (p + 2)) - 48)) (zix ex1.1) (zix ex2.1) hm hf0 (by omega) (by omega)) k_Mesh_flipLink m367 m368 m369 (by omega) (zC_Mesh hm X _ _) rfl rfl (by decide) rfl (Nat.le_of_ble_eq_true rfl) d_X5_readLink_76 ?_
            refine zr_h (fun h5 eh5 => ?_)
            refine zr_iconst C (v := 3) d_X5_readLink_79 (by decide) ?_
            have eR : o_Text_readLink h p m = (3, h5) := (by subst eh5; unfold o_Text_readLink; rw [if_pos c16, if_neg (zbf c24), if_pos c47, if_neg c53, if_neg (zbf c67)])
            subst hQ
            exact zTQ_Ih eR (zr_ireti C d_X5_readLink_80)
          · refine zr_iconst C (v := 2) d_X5_readLink_70 (by decide) ?_
            have eR : o_Text_readLink h p m = (2, h) := (by unfold o_Text_readLink; rw [if_pos c16, if_neg (zbf c24), if_pos c47, if_neg c53, if_pos c67])
            subst hQ
            exact zTQ_Ih eR (zr_ireti C d_X5_readLink_71)
    · refine zr_iconst C (v := 1) d_X5_readLink_27 (by decide) ?_
      have eR : o_Text_readLink h p m = (1, h) := (by unfold o_Text_readLink; rw [if_pos c16, if_pos c24])
      subst hQ
      exact zTQ_Ih eR (zr_ireti C d_X5_readLink_28)
theorem pf_readStation {h : zHp} {p : Int32} {m : Nat} (f : zfit h m 0 8) : zfit (o_Text_readStation h p m).2 m 0 8 := by
  unfold o_Text_readStation
  (repeat' split) <;> first | exact f | exact pf_add f
theorem zlk {h : zHp} {p : Int32} {m : Nat} : (o_Text_readLink h p m).2 m 0 = h m 0 := fr_Text_readLink _ _ (by omega) (by omega) (by omega) (by omega) (by omega) (by omega) (by omega)
theorem pf_readLink {h : zHp} {p : Int32} {m : Nat} (f : zfit h m 0 8) : zfit (o_Text_readLink h p m).2 m 0 8 := zfit_fr zlk f

theorem d_X5_readInto_0 : decode prog_7_method_3_code 0 = .ok (.aload_n 1, 1) := by decide +kernel
theorem d_X5_readInto_1 : decode prog_7_method_3_code 1 = .ok (.invokevirtual 19, 3) := by decide +kernel
theorem d_X5_readInto_4 : decode prog_7_method_3_code 4 = .ok (.iconst 0, 1) := by decide +kernel
theorem d_X5_readInto_5 : decode prog_7_method_3_code 5 = .ok (.istore_n 2, 1) := by decide +kernel
theorem d_X5_readInto_6 : decode prog_7_method_3_code 6 = .ok (.iload_n 2, 1) := by decide +kernel
theorem d_X5_readInto_7 : decode prog_7_method_3_code 7 = .ok (.aload_n 0, 1) := by decide +kernel
theorem d_X5_readInto_8 : decode prog_7_method_3_code 8 = .ok (.getfield 15, 3) := by decide +kernel
theorem d_X5_readInto_11 : decode prog_7_method_3_code 11 = .ok (.if_icmp .ge 76, 3) := by decide +kernel
theorem d_X5_readInto_14 : decode prog_7_method_3_code 14 = .ok (.aload_n 0, 1) := by decide +kernel
theorem d_X5_readInto_15 : decode prog_7_method_3_code 15 = .ok (.iload_n 2, 1) := by decide +kernel
theorem d_X5_readInto_16 : decode prog_7_method_3_code 16 = .ok (.invokevirtual 24, 3) := by decide +kernel
theorem d_X5_readInto_19 : decode prog_7_method_3_code 19 = .ok (.istore_n 3, 1) := by decide +kernel
theorem d_X5_readInto_20 : decode prog_7_method_3_code 20 = .ok (.iconst 0, 1) := by decide +kernel
theorem d_X5_readInto_21 : decode prog_7_method_3_code 21 = .ok (.istore 4, 2) := by decide +kernel
theorem d_X5_readInto_23 : decode prog_7_method_3_code 23 = .ok (.iload_n 3, 1) := by decide +kernel
theorem d_X5_readInto_24 : decode prog_7_method_3_code 24 = .ok (.bipush 83, 2) := by decide +kernel
theorem d_X5_readInto_26 : decode prog_7_method_3_code 26 = .ok (.if_icmp .ne 23, 3) := by decide +kernel
theorem d_X5_readInto_29 : decode prog_7_method_3_code 29 = .ok (.aload_n 1, 1) := by decide +kernel
theorem d_X5_readInto_30 : decode prog_7_method_3_code 30 = .ok (.getfield 28, 3) := by decide +kernel
theorem d_X5_readInto_33 : decode prog_7_method_3_code 33 = .ok (.bipush 8, 2) := by decide +kernel
theorem d_X5_readInto_35 : decode prog_7_method_3_code 35 = .ok (.if_icmp .ge 14, 3) := by decide +kernel
theorem d_X5_readInto_38 : decode prog_7_method_3_code 38 = .ok (.aload_n 0, 1) := by decide +kernel
theorem d_X5_readInto_39 : decode prog_7_method_3_code 39 = .ok (.iload_n 2, 1) := by decide +kernel
theorem d_X5_readInto_40 : decode prog_7_method_3_code 40 = .ok (.aload_n 1, 1) := by decide +kernel
theorem d_X5_readInto_41 : decode prog_7_method_3_code 41 = .ok (.invokevirtual 31, 3) := by decide +kernel
theorem d_X5_readInto_44 : decode prog_7_method_3_code 44 = .ok (.istore 4, 2) := by decide +kernel
theorem d_X5_readInto_46 : decode prog_7_method_3_code 46 = .ok (.goto 24, 3) := by decide +kernel
theorem d_X5_readInto_49 : decode prog_7_method_3_code 49 = .ok (.iload_n 3, 1) := by decide +kernel
theorem d_X5_readInto_50 : decode prog_7_method_3_code 50 = .ok (.bipush 76, 2) := by decide +kernel
theorem d_X5_readInto_52 : decode prog_7_method_3_code 52 = .ok (.if_icmp .ne 18, 3) := by decide +kernel
theorem d_X5_readInto_55 : decode prog_7_method_3_code 55 = .ok (.aload_n 1, 1) := by decide +kernel
theorem d_X5_readInto_56 : decode prog_7_method_3_code 56 = .ok (.invokevirtual 35, 3) := by decide +kernel
theorem d_X5_readInto_59 : decode prog_7_method_3_code 59 = .ok (.ifCond .eq 11, 3) := by decide +kernel
theorem d_X5_readInto_62 : decode prog_7_method_3_code 62 = .ok (.aload_n 0, 1) := by decide +kernel
theorem d_X5_readInto_63 : decode prog_7_method_3_code 63 = .ok (.iload_n 2, 1) := by decide +kernel
theorem d_X5_readInto_64 : decode prog_7_method_3_code 64 = .ok (.aload_n 1, 1) := by decide +kernel
theorem d_X5_readInto_65 : decode prog_7_method_3_code 65 = .ok (.invokevirtual 39, 3) := by decide +kernel
theorem d_X5_readInto_68 : decode prog_7_method_3_code 68 = .ok (.istore 4, 2) := by decide +kernel
theorem d_X5_readInto_70 : decode prog_7_method_3_code 70 = .ok (.iload 4, 2) := by decide +kernel
theorem d_X5_readInto_72 : decode prog_7_method_3_code 72 = .ok (.iconst 3, 1) := by decide +kernel
theorem d_X5_readInto_73 : decode prog_7_method_3_code 73 = .ok (.if_icmp .ge 8, 3) := by decide +kernel
theorem d_X5_readInto_76 : decode prog_7_method_3_code 76 = .ok (.iload_n 2, 1) := by decide +kernel
theorem d_X5_readInto_77 : decode prog_7_method_3_code 77 = .ok (.iload 4, 2) := by decide +kernel
theorem d_X5_readInto_79 : decode prog_7_method_3_code 79 = .ok (.iadd, 1) := by decide +kernel
theorem d_X5_readInto_80 : decode prog_7_method_3_code 80 = .ok (.ireturn, 1) := by decide +kernel
theorem d_X5_readInto_81 : decode prog_7_method_3_code 81 = .ok (.iinc 2 3, 3) := by decide +kernel
theorem d_X5_readInto_84 : decode prog_7_method_3_code 84 = .ok (.goto (-78), 3) := by decide +kernel
theorem d_X5_readInto_87 : decode prog_7_method_3_code 87 = .ok (.bipush (-9), 2) := by decide +kernel
theorem d_X5_readInto_89 : decode prog_7_method_3_code 89 = .ok (.ireturn, 1) := by decide +kernel
abbrev M_Text_readInto : zMT := (⟨"PeriodSlots$Text", "readInto", "(LPeriodSlots$Mesh;)I"⟩, prog_7_method_3_code, 5, (some .int))
theorem k_Text_readInto : zcall M_Text_readInto 1 := ⟨zU_in (i := 277) (by decide +kernel) rfl, m55, ⟨by decide, by decide, by decide +kernel⟩, by decide⟩
def o_Text_readInto (h : zHp) (m : Nat) : Int32 × zHp :=
  (Sum.elim (fun r6_2 => ((-9), r6_2)) (fun q6_2 => q6_2) (zrex (fun (i6_2 : Nat) (s6_2 : zHp) => ((if 3 ≤ (if (o_Text_byteAt h (nI (3 * i6_2))) = 83 then (if 8 ≤ (s6_2 m 0) then (if (o_Text_byteAt h (nI (3 * i6_2))) = 76 then (if (o_Mesh_lacksLink s6_2 m) = true then ((o_Text_readLink s6_2 (nI (3 * i6_2)) m).1) else 0) else 0) else ((o_Text_readStation s6_2 (nI (3 * i6_2)) m).1)) else (if (o_Text_byteAt h (nI (3 * i6_2))) = 76 then (if (o_Mesh_lacksLink s6_2 m) = true then ((o_Text_readLink s6_2 (nI (3 * i6_2)) m).1) else 0) else 0)) then .inl (if (o_Text_byteAt h (nI (3 * i6_2))) = 83 then (if 8 ≤ (s6_2 m 0) then (if (o_Text_byteAt h (nI (3 * i6_2))) = 76 then (if (o_Mesh_lacksLink s6_2 m) = true then ((o_Text_readLink s6_2 (nI (3 * i6_2)) m).2) else s6_2) else s6_2) else ((o_Text_readStation s6_2 (nI (3 * i6_2)) m).2)) else (if (o_Text_byteAt h (nI (3 * i6_2))) = 76 then (if (o_Mesh_lacksLink s6_2 m) = true then ((o_Text_readLink s6_2 (nI (3 * i6_2)) m).2) else s6_2) else s6_2)) else .inr (((nI (3 * i6_2)) + (if (o_Text_byteAt h (nI (3 * i6_2))) = 83 then (if 8 ≤ (s6_2 m 0) then (if (o_Text_byteAt h (nI (3 * i6_2))) = 76 then (if (o_Mesh_lacksLink s6_2 m) = true then ((o_Text_readLink s6_2 (nI (3 * i6_2)) m).1) else 0) else 0) else ((o_Text_readStation s6_2 (nI (3 * i6_2)) m).1)) else (if (o_Text_byteAt h (nI (3 * i6_2))) = 76 then (if (o_Mesh_lacksLink s6_2 m) = true then ((o_Text_readLink s6_2 (nI (3 * i6_2)) m).1) else 0) else 0))), (if (o_Text_byteAt h (nI (3 * i6_2))) = 83 then (if 8 ≤ (s6_2 m 0) then (if (o_Text_byteAt h (nI (3 * i6_2))) = 76 then (if (o_Mesh_lacksLink s6_2 m) = true then ((o_Text_readLink s6_2 (nI (3 * i6_2)) m).2) else s6_2) else s6_2) else ((o_Text_readStation s6_2 (nI (3 * i6_2)) m).2)) else (if (o_Text_byteAt h (nI (3 * i6_2))) = 76 then (if (o_Mesh_lacksLink s6_2 m) = true then ((o_Text_readLink s6_2 (nI (3 * i6_2)) m).2) else s6_2) else s6_2)))) : (zHp) ⊕ (Int32 × zHp))) (o_Mesh_clear h m) ((zcn (h 1 0) + 2) / 3)))
theorem fr_Text_readInto {h : zHp} {m : Nat} (c k : Nat) (q0 : ¬ (c = m ∧ k = 0)) (q1 : ¬ (c = m ∧ k = 1)) (q2 : c ≠ m + 1) (q3 : c ≠ m + 2) (q4 : c ≠ m + 3) (q5 : c ≠ m + 4) (q6 : c ≠ m + 5) (q7 : c ≠ m + 6) (q8 : c ≠ m + 7) (q9 : c ≠ m + 8) (q10 : c ≠ m + 9) (q11 : c ≠ m + 10) : (o_Text_readInto h m).2 c k = h c k := by
  unfold o_Text_readInto
  have hX := zrex_inv (f := (fun (i6_2 : Nat) (s6_2 : zHp) => ((if 3 ≤ (if (o_Text_byteAt h (nI (3 * i6_2))) = 83 then (if 8 ≤ (s6_2 m 0) then (if (o_Text_byteAt h (nI (3 * i6_2))) = 76 then (if (o_Mesh_lacksLink s6_2 m) = true then ((o_Text_readLink s6_2 (nI (3 * i6_2)) m).1) else 0) else 0) else ((o_Text_readStation s6_2 (nI (3 * i6_2)) m).1)) else (if (o_Text_byteAt h (nI (3 * i6_2))) = 76 then (if (o_Mesh_lacksLink s6_2 m) = true then ((o_Text_readLink s6_2 (nI (3 * i6_2)) m).1) else 0) else 0)) then .inl (if (o_Text_byteAt h (nI (3 * i6_2))) = 83 then (if 8 ≤ (s6_2 m 0) then (if (o_Text_byteAt h (nI (3 * i6_2))) = 76 then (if (o_Mesh_lacksLink s6_2 m) = true then ((o_Text_readLink s6_2 (nI (3 * i6_2)) m).2) else s6_2) else s6_2) else ((o_Text_readStation s6_2 (nI (3 * i6_2)) m).2)) else (if (o_Text_byteAt h (nI (3 * i6_2))) = 76 then (if (o_Mesh_lacksLink s6_2 m) = true then ((o_Text_readLink s6_2 (nI (3 * i6_2)) m).2) else s6_2) else s6_2)) else .inr (((nI (3 * i6_2)) + (if (o_Text_byteAt h (nI (3 * i6_2))) = 83 then (if 8 ≤ (s6_2 m 0) then (if (o_Text_byteAt h (nI (3 * i6_2))) = 76 then (if (o_Mesh_lacksLink s6_2 m) = true then ((o_Text_readLink s6_2 (nI (3 * i6_2)) m).1) else 0) else 0) else ((o_Text_readStation s6_2 (nI (3 * i6_2)) m).1)) else (if (o_Text_byteAt h (nI (3 * i6_2))) = 76 then (if (o_Mesh_lacksLink s6_2 m) = true then ((o_Text_readLink s6_2 (nI (3 * i6_2)) m).1) else 0) else 0))), (if (o_Text_byteAt h (nI (3 * i6_2))) = 83 then (if 8 ≤ (s6_2 m 0) then (if (o_Text_byteAt h (nI (3 * i6_2))) = 76 then (if (o_Mesh_lacksLink s6_2 m) = true then ((o_Text_readLink s6_2 (nI (3 * i6_2)) m).2) else s6_2) else s6_2) else ((o_Text_readStation s6_2 (nI (3 * i6_2)) m).2)) else (if (o_Text_byteAt h (nI (3 * i6_2))) = 76 then (if (o_Mesh_lacksLink s6_2 m) = true then ((o_Text_readLink s6_2 (nI (3 * i6_2)) m).2) else s6_2) else s6_2)))) : (zHp) ⊕ (Int32 × zHp)))) (a := (o_Mesh_clear h m)) (fun _ s6_2 => ∀ c k : Nat, ¬ (c = m ∧ k = 0) → ¬ (c = m ∧ k = 1) → c ≠ m + 1 → c ≠ m + 2 → c ≠ m + 3 → c ≠ m + 4 → c ≠ m + 5 → c ≠ m + 6 → c ≠ m + 7 → c ≠ m + 8 → c ≠ m + 9 → c ≠ m + 10 → s6_2 c k = (o_Mesh_clear h m) c k) (fun q6_2 => ∀ c k : Nat, ¬ (c = m ∧ k = 0) → ¬ (c = m ∧ k = 1) → c ≠ m + 1 → c ≠ m + 2 → c ≠ m + 3 → c ≠ m + 4 → c ≠ m + 5 → c ≠ m + 6 → c ≠ m + 7 → c ≠ m + 8 → c ≠ m + 9 → c ≠ m + 10 → q6_2.2 c k = (o_Mesh_clear h m) c k) ((zcn (h 1 0) + 2) / 3) (fun _ _ _ _ _ _ _ _ _ _ _ _ _ _ => rfl) (fun i6_2 s6_2 hi6_2 hI6_2 => ⟨(by intro s2 hs; (try dsimp only at hs); by_cases cc : 3 ≤ (if (o_Text_byteAt h (nI (3 * i6_2))) = 83 then (if 8 ≤ (s6_2 m 0) then (if (o_Text_byteAt h (nI (3 * i6_2))) = 76 then (if (o_Mesh_lacksLink s6_2 m) = true then ((o_Text_readLink s6_2 (nI (3 * i6_2)) m).1) else 0) else 0) else ((o_Text_readStation s6_2 (nI (3 * i6_2)) m).1)) else (if (o_Text_byteAt h (nI (3 * i6_2))) = 76 then (if (o_Mesh_lacksLink s6_2 m) = true then ((o_Text_readLink s6_2 (nI (3 * i6_2)) m).1) else 0) else 0)); (rw [if_pos cc] at hs; cases hs; exact fun c k q0 q1 q2 q3 q4 q5 q6 q7 q8 q9 q10 q11 => (by (try dsimp only); exact (zite_fr (fun _ => (zite_fr (fun _ => (zite_fr (fun _ => (zite_fr (fun _ => ((fr_Text_readLink _ _ (by assumption) (by assumption) (by assumption) (by assumption) (by assumption) (by assumption) (by assumption)).trans (hI6_2 _ _ (by assumption) (by assumption) (by assumption) (by assumption) (by assumption) (by assumption) (by assumption) (by assumption) (by assumption) (by assumption) (by assumption) (by assumption)))) (fun _ => (hI6_2 _ _ (by assumption) (by assumption) (by assumption) (by assumption) (by assumption) (by assumption) (by assumption) (by assumption) (by assumption) (by assumption) (by assumption) (by assumption))))) (fun _ => (hI6_2 _ _ (by assumption) (by assumption) (by assumption) (by assumption) (by assumption) (by assumption) (by assumption) (by assumption) (by assumption) (by assumption) (by assumption) (by assumption))))) (fun _ => ((fr_Text_readStation _ _ (by assumption) (by assumption) (by assumption) (by assumption) (by assumption) (by assumption) (by assumption) (by assumption) (by assumption) (by assumption) (by assumption)).trans (hI6_2 _ _ (by assumption) (by assumption) (by assumption) (by assumption) (by assumption) (by assumption) (by assumption) (by assumption) (by assumption) (by assumption) (by assumption) (by assumption)))))) (fun _ => (zite_fr (fun _ => (zite_fr (fun _ => ((fr_Text_readLink _ _ (by assumption) (by assumption) (by assumption) (by assumption) (by assumption) (by assumption) (by assumption)).trans (hI6_2 _ _ (by assumption) (by assumption) (by assumption) (by assumption) (by assumption) (by assumption) (by assumption) (by assumption) (by assumption) (by assumption) (by assumption) (by assumption)))) (fun _ => (hI6_2 _ _ (by assumption) (by assumption) (by assumption) (by assumption) (by assumption) (by assumption) (by assumption) (by assumption) (by assumption) (by assumption) (by assumption) (by assumption))))) (fun _ => (hI6_2 _ _ (by assumption) (by assumption) (by assumption) (by assumption) (by assumption) (by assumption) (by assumption) (by assumption) (by assumption) (by assumption) (by assumption) (by assumption)))))))); (rw [if_neg cc] at hs; cases hs)), (by intro r hs; (try dsimp only at hs); by_cases cc : 3 ≤ (if (o_Text_byteAt h (nI (3 * i6_2))) = 83 then (if 8 ≤ (s6_2 m 0) then (if (o_Text_byteAt h (nI (3 * i6_2))) = 76 then (if (o_Mesh_lacksLink s6_2 m) = true then ((o_Text_readLink s6_2 (nI (3 * i6_2)) m).1) else 0) else 0) else ((o_Text_readStation s6_2 (nI (3 * i6_2)) m).1)) else (if (o_Text_byteAt h (nI (3 * i6_2))) = 76 then (if (o_Mesh_lacksLink s6_2 m) = true then ((o_Text_readLink s6_2 (nI (3 * i6_2)) m).1) else 0) else 0)); (rw [if_pos cc] at hs; cases hs); (rw [if_neg cc] at hs; cases hs; exact fun c k q0 q1 q2 q3 q4 q5 q6 q7 q8 q9 q10 q11 => (by (try dsimp only); exact (zite_fr (fun _ => (zite_fr (fun _ => (zite_fr (fun _ => (zite_fr (fun _ => ((fr_Text_readLink _ _ (by assumption) (by assumption) (by assumption) (by assumption) (by assumption) (by assumption) (by assumption)).trans (hI6_2 _ _ (by assumption) (by assumption) (by assumption) (by assumption) (by assumption) (by assumption) (by assumption) (by assumption) (by assumption) (by assumption) (by assumption) (by assumption)))) (fun _ => (hI6_2 _ _ (by assumption) (by assumption) (by assumption) (by assumption) (by assumption) (by assumption) (by assumption) (by assumption) (by assumption) (by assumption) (by assumption) (by assumption))))) (fun _ => (hI6_2 _ _ (by assumption) (by assumption) (by assumption) (by assumption) (by assumption) (by assumption) (by assumption) (by assumption) (by assumption) (by assumption) (by assumption) (by assumption))))) (fun _ => ((fr_Text_readStation _ _ (by assumption) (by assumption) (by assumption) (by assumption) (by assumption) (by assumption) (by assumption) (by assumption) (by assumption) (by assumption) (by assumption)).trans (hI6_2 _ _ (by assumption) (by assumption) (by assumption) (by assumption) (by assumption) (by assumption) (by assumption) (by assumption) (by assumption) (by assumption) (by assumption) (by assumption)))))) (fun _ => (zite_fr (fun _ => (zite_fr (fun _ => ((fr_Text_readLink _ _ (by assumption) (by assumption) (by assumption) (by assumption) (by assumption) (by assumption) (by assumption)).trans (hI6_2 _ _ (by assumption) (by assumption) (by assumption) (by assumption) (by assumption) (by assumption) (by assumption) (by assumption) (by assumption) (by assumption) (by assumption) (by assumption)))) (fun _ => (hI6_2 _ _ (by assumption) (by assumption) (by assumption) (by assumption) (by assumption) (by assumption) (by assumption) (by assumption) (by assumption) (by assumption) (by assumption) (by assumption))))) (fun _ => (hI6_2 _ _ (by assumption) (by assumption) (by assumption) (by assumption) (by assumption) (by assumption) (by assumption) (by assumption) (by assumption) (by assumption) (by assumption) (by assumption)))))))))⟩)
  cases hz : (zrex (fun (i6_2 : Nat) (s6_2 : zHp) => ((if 3 ≤ (if (o_Text_byteAt h (nI (3 * i6_2))) = 83 then (if 8 ≤ (s6_2 m 0) then (if (o_Text_byteAt h (nI (3 * i6_2))) = 76 then (if (o_Mesh_lacksLink s6_2 m) = true then ((o_Text_readLink s6_2 (nI (3 * i6_2)) m).1) else 0) else 0) else ((o_Text_readStation s6_2 (nI (3 * i6_2)) m).1)) else (if (o_Text_byteAt h (nI (3 * i6_2))) = 76 then (if (o_Mesh_lacksLink s6_2 m) = true then ((o_Text_readLink s6_2 (nI (3 * i6_2)) m).1) else 0) else 0)) then .inl (if (o_Text_byteAt h (nI (3 * i6_2))) = 83 then (if 8 ≤ (s6_2 m 0) then (if (o_Text_byteAt h (nI (3 * i6_2))) = 76 then (if (o_Mesh_lacksLink s6_2 m) = true then ((o_Text_readLink s6_2 (nI (3 * i6_2)) m).2) else s6_2) else s6_2) else ((o_Text_readStation s6_2 (nI (3 * i6_2)) m).2)) else (if (o_Text_byteAt h (nI (3 * i6_2))) = 76 then (if (o_Mesh_lacksLink s6_2 m) = true then ((o_Text_readLink s6_2 (nI (3 * i6_2)) m).2) else s6_2) else s6_2)) else .inr (((nI (3 * i6_2)) + (if (o_Text_byteAt h (nI (3 * i6_2))) = 83 then (if 8 ≤ (s6_2 m 0) then (if (o_Text_byteAt h (nI (3 * i6_2))) = 76 then (if (o_Mesh_lacksLink s6_2 m) = true then ((o_Text_readLink s6_2 (nI (3 * i6_2)) m).1) else 0) else 0) else ((o_Text_readStation s6_2 (nI (3 * i6_2)) m).1)) else (if (o_Text_byteAt h (nI (3 * i6_2))) = 76 then (if (o_Mesh_lacksLink s6_2 m) = true then ((o_Text_readLink s6_2 (nI (3 * i6_2)) m).1) else 0) else 0))), (if (o_Text_byteAt h (nI (3 * i6_2))) = 83 then (if 8 ≤ (s6_2 m 0) then (if (o_Text_byteAt h (nI (3 * i6_2))) = 76 then (if (o_Mesh_lacksLink s6_2 m) = true then ((o_Text_readLink s6_2 (nI (3 * i6_2)) m).2) else s6_2) else s6_2) else ((o_Text_readStation s6_2 (nI (3 * i6_2)) m).2)) else (if (o_Text_byteAt h (nI (3 * i6_2))) = 76 then (if (o_Mesh_lacksLink s6_2 m) = true then ((o_Text_readLink s6_2 (nI (3 * i6_2)) m).2) else s6_2) else s6_2)))) : (zHp) ⊕ (Int32 × zHp))) (o_Mesh_clear h m) ((zcn (h 1 0) + 2) / 3)) with
  | inl r6_2 =>
    have hI6_2 := hX.1 r6_2 hz
    simp only [Sum.elim_inl]
    try dsimp only
    first | done | exact ((hI6_2 _ _ (by assumption) (by assumption) (by assumption) (by assumption) (by assumption) (by assumption) (by assumption) (by assumption) (by assumption) (by assumption) (by assumption) (by assumption)).trans (fr_Mesh_clear _ _ (by assumption) (by assumption)))
  | inr q6_2 =>
    exact (hX.2 q6_2 hz c k (by assumption) (by assumption) (by assumption) (by assumption) (by assumption) (by assumption) (by assumption) (by assumption) (by assumption) (by assumption) (by assumption) (by assumption)).trans (fr_Mesh_clear _ _ (by assumption) (by assumption))
set_option maxHeartbeats 400000 in
set_option maxRecDepth 20000 in
theorem c_Text_readInto (X : zXT) (h : zHp) (g : zLg) (m : Nat) (hm : m = 3 ∨ m = 15 ∨ m = 27) (hf0 : zfit h 1 0 110) : zDi X M_Text_readInto 5 [zR X 1, zR X m] h g (zI ((o_Text_readInto h m).1)) ((o_Text_readInto h m).2) g := by
  have hf0_1 := hf0.1
  refine zDi_of "PeriodSlots$Text" prog_7_method_3_code 5 (some .int) rfl (by decide) [zO X 1, zO X m, none, none, none] rfl (fun _ q => q) (Nat.le_of_ble_eq_true rfl) ?_
  intro Γ Q C hQ
  refine zr_aload_n C d_X5_readInto_0 rfl ?_
  refine zr_callVv (As := []) (st := []) (c := m) C (c_Mesh_clear X h g m hm) k_Mesh_clear m278 m279 m280 (by omega) (zC_Mesh hm X _ _) rfl rfl (by decide) rfl (Nat.le_of_ble_eq_true rfl) d_X5_readInto_1 ?_
  refine zr_h (fun h1 eh1 => ?_)
  have hph1 : zfit h1 m 0 8 := by rw [← eh1]; exact pf_clear
  have hph1_1 := hph1.1
  refine zr_iconst C (v := 0) d_X5_readInto_4 (by decide) ?_
  refine zr_istore_n C [zO X 1, zO X m, zI 0, none, none] d_X5_readInto_5 (Nat.le_of_ble_eq_true rfl) rfl rfl ?_
  refine zforx (f := (fun (i6_2 : Nat) (s6_2 : zHp) => ((if 3 ≤ (if (o_Text_byteAt h (nI (3 * i6_2))) = 83 then (if 8 ≤ (s6_2 m 0) then (if (o_Text_byteAt h (nI (3 * i6_2))) = 76 then (if (o_Mesh_lacksLink s6_2 m) = true then ((o_Text_readLink s6_2 (nI (3 * i6_2)) m).1) else 0) else 0) else ((o_Text_readStation s6_2 (nI (3 * i6_2)) m).1)) else (if (o_Text_byteAt h (nI (3 * i6_2))) = 76 then (if (o_Mesh_lacksLink s6_2 m) = true then ((o_Text_readLink s6_2 (nI (3 * i6_2)) m).1) else 0) else 0)) then .inl (if (o_Text_byteAt h (nI (3 * i6_2))) = 83 then (if 8 ≤ (s6_2 m 0) then (if (o_Text_byteAt h (nI (3 * i6_2))) = 76 then (if (o_Mesh_lacksLink s6_2 m) = true then ((o_Text_readLink s6_2 (nI (3 * i6_2)) m).2) else s6_2) else s6_2) else ((o_Text_readStation s6_2 (nI (3 * i6_2)) m).2)) else (if (o_Text_byteAt h (nI (3 * i6_2))) = 76 then (if (o_Mesh_lacksLink s6_2 m) = true then ((o_Text_readLink s6_2 (nI (3 * i6_2)) m).2) else s6_2) else s6_2)) else .inr (((nI (3 * i6_2)) + (if (o_Text_byteAt h (nI (3 * i6_2))) = 83 then (if 8 ≤ (s6_2 m 0) then (if (o_Text_byteAt h (nI (3 * i6_2))) = 76 then (if (o_Mesh_lacksLink s6_2 m) = true then ((o_Text_readLink s6_2 (nI (3 * i6_2)) m).1) else 0) else 0) else ((o_Text_readStation s6_2 (nI (3 * i6_2)) m).1)) else (if (o_Text_byteAt h (nI (3 * i6_2))) = 76 then (if (o_Mesh_lacksLink s6_2 m) = true then ((o_Text_readLink s6_2 (nI (3 * i6_2)) m).1) else 0) else 0))), (if (o_Text_byteAt h (nI (3 * i6_2))) = 83 then (if 8 ≤ (s6_2 m 0) then (if (o_Text_byteAt h (nI (3 * i6_2))) = 76 then (if (o_Mesh_lacksLink s6_2 m) = true then ((o_Text_readLink s6_2 (nI (3 * i6_2)) m).2) else s6_2) else s6_2) else ((o_Text_readStation s6_2 (nI (3 * i6_2)) m).2)) else (if (o_Text_byteAt h (nI (3 * i6_2))) = 76 then (if (o_Mesh_lacksLink s6_2 m) = true then ((o_Text_readLink s6_2 (nI (3 * i6_2)) m).2) else s6_2) else s6_2)))) : (zHp) ⊕ (Int32 × zHp)))) (a := h1) (fun i6_2 s6_2 => zV X Γ Q 6 [zO X 1, zO X m, zI (nI (3 * i6_2)), none, none] [] s6_2 g) (fun _ s6_2 => (∀ c k : Nat, ¬ (c = m ∧ k = 0) → ¬ (c = m ∧ k = 1) → c ≠ m + 1 → c ≠ m + 2 → c ≠ m + 3 → c ≠ m + 4 → c ≠ m + 5 → c ≠ m + 6 → c ≠ m + 7 → c ≠ m + 8 → c ≠ m + 9 → c ≠ m + 10 → s6_2 c k = h1 c k) ∧ zfit s6_2 m 0 8) ((zcn (h 1 0) + 2) / 3) ⟨(fun _ _ _ _ _ _ _ _ _ _ _ _ _ _ => rfl), hph1⟩ (fun i6_2 s6_2 hi6_2 hI6_2 => ⟨(by intro s2 hs; (try dsimp only at hs); by_cases cc : 3 ≤ (if (o_Text_byteAt h (nI (3 * i6_2))) = 83 then (if 8 ≤ (s6_2 m 0) then (if (o_Text_byteAt h (nI (3 * i6_2))) = 76 then (if (o_Mesh_lacksLink s6_2 m) = true then ((o_Text_readLink s6_2 (nI (3 * i6_2)) m).1) else 0) else 0) else ((o_Text_readStation s6_2 (nI (3 * i6_2)) m).1)) else (if (o_Text_byteAt h (nI (3 * i6_2))) = 76 then (if (o_Mesh_lacksLink s6_2 m) = true then ((o_Text_readLink s6_2 (nI (3 * i6_2)) m).1) else 0) else 0)); (rw [if_pos cc] at hs; cases hs; exact ⟨fun c k q0 q1 q2 q3 q4 q5 q6 q7 q8 q9 q10 q11 => (by (try dsimp only); exact (zite_fr (fun _ => (zite_fr (fun _ => (zite_fr (fun _ => (zite_fr (fun _ => ((fr_Text_readLink _ _ (by assumption) (by assumption) (by assumption) (by assumption) (by assumption) (by assumption) (by assumption)).trans (hI6_2.1 _ _ (by assumption) (by assumption) (by assumption) (by assumption) (by assumption) (by assumption) (by assumption) (by assumption) (by assumption) (by assumption) (by assumption) (by assumption)))) (fun _ => (hI6_2.1 _ _ (by assumption) (by assumption) (by assumption) (by assumption) (by assumption) (by assumption) (by assumption) (by assumption) (by assumption) (by assumption) (by assumption) (by assumption))))) (fun _ => (hI6_2.1 _ _ (by assumption) (by assumption) (by assumption) (by assumption) (by assumption) (by assumption) (by assumption) (by assumption) (by assumption) (by assumption) (by assumption) (by assumption))))) (fun _ => ((fr_Text_readStation _ _ (by assumption) (by assumption) (by assumption) (by assumption) (by assumption) (by assumption) (by assumption) (by assumption) (by assumption) (by assumption) (by assumption)).trans (hI6_2.1 _ _ (by assumption) (by assumption) (by assumption) (by assumption) (by assumption) (by assumption) (by assumption) (by assumption) (by assumption) (by assumption) (by assumption) (by assumption)))))) (fun _ => (zite_fr (fun _ => (zite_fr (fun _ => ((fr_Text_readLink _ _ (by assumption) (by assumption) (by assumption) (by assumption) (by assumption) (by assumption) (by assumption)).trans (hI6_2.1 _ _ (by assumption) (by assumption) (by assumption) (by assumption) (by assumption) (by assumption) (by assumption) (by assumption) (by assumption) (by assumption) (by assumption) (by assumption)))) (fun _ => (hI6_2.1 _ _ (by assumption) (by assumption) (by assumption) (by assumption) (by assumption) (by assumption) (by assumption) (by assumption) (by assumption) (by assumption) (by assumption) (by assumption))))) (fun _ => (hI6_2.1 _ _ (by assumption) (by assumption) (by assumption) (by assumption) (by assumption) (by assumption) (by assumption) (by assumption) (by assumption) (by assumption) (by assumption) (by assumption))))))), (by (repeat' split) <;> with_reducible first | exact hI6_2.2 | exact pf_readStation hI6_2.2 | exact pf_readLink hI6_2.2)⟩); (rw [if_neg cc] at hs; cases hs)), fun hk6_2 hx6_2 => ?_⟩) (fun r6_2 er6_2 hI6_2 => ?_)
  · have hI6_2_2 := hI6_2.2.1
    refine zr_iload_n C d_X5_readInto_6 rfl ?_
    refine zr_aload_n C d_X5_readInto_7 rfl ?_
    refine gf_Text_1 C m81 d_X5_readInto_8 ?_
    refine zr_top ((hI6_2.1 _ _ (by omega) (by omega) (by omega) (by omega) (by omega) (by omega) (by omega) (by omega) (by omega) (by omega) (by omega) (by omega)).trans ((congrFun (congrFun eh1.symm _) _).trans (fr_Mesh_clear _ _ (by omega) (by omega)))) ?_
    refine zr_icmp_ge C 87 d_X5_readInto_11 (by decide) (fun c => absurd c (zge_no rfl (by omega))) (fun _ => ?_)
    refine zr_aload_n C d_X5_readInto_14 rfl ?_
    refine zr_iload_n C d_X5_readInto_15 rfl ?_
    refine zr_callVi (As := [.int (nI (3 * i6_2))]) (st := []) (c := 1) C (c_Text_byteAt X s6_2 g (nI (3 * i6_2))) k_Text_byteAt m282 m284 m0 (by decide) (zC_Text X _ _) rfl rfl (by decide) rfl (Nat.le_of_ble_eq_true rfl) d_X5_readInto_16 ?_
    refine zr_top (rd_Text_byteAt ((hI6_2.1 _ _ (by omega) (by omega) (by omega) (by omega) (by omega) (by omega) (by omega) (by omega) (by omega) (by omega) (by omega) (by omega)).trans ((congrFun (congrFun eh1.symm _) _).trans (fr_Mesh_clear _ _ (by omega) (by omega)))) (funext fun kk => ((hI6_2.1 _ _ (by omega) (by omega) (by omega) (by omega) (by omega) (by omega) (by omega) (by omega) (by omega) (by omega) (by omega) (by omega)).trans ((congrFun (congrFun eh1.symm _) _).trans (fr_Mesh_clear _ _ (by omega) (by omega)))))) ?_
    refine zr_istore_n C [zO X 1, zO X m, zI (nI (3 * i6_2)), zI (o_Text_byteAt h (nI (3 * i6_2))), none] d_X5_readInto_19 (Nat.le_of_ble_eq_true rfl) rfl rfl ?_
    refine zr_iconst C (v := 0) d_X5_readInto_20 (by decide) ?_
    refine zr_istore C [zO X 1, zO X m, zI (nI (3 * i6_2)), zI (o_Text_byteAt h (nI (3 * i6_2))), zI 0] d_X5_readInto_21 (Nat.le_of_ble_eq_true rfl) rfl rfl ?_
    refine zr_iload_n C d_X5_readInto_23 rfl ?_
    refine zr_bipush C (v := 83) d_X5_readInto_24 (by decide) ?_
    suffices hJ26 : ∀ (y11 : Int32) (h12 : zHp), (if (o_Text_byteAt h (nI (3 * i6_2))) = 83 then (if 8 ≤ (s6_2 m 0) then (if (o_Text_byteAt h (nI (3 * i6_2))) = 76 then (if (o_Mesh_lacksLink s6_2 m) = true then ((o_Text_readLink s6_2 (nI (3 * i6_2)) m).1) else 0) else 0) else ((o_Text_readStation s6_2 (nI (3 * i6_2)) m).1)) else (if (o_Text_byteAt h (nI (3 * i6_2))) = 76 then (if (o_Mesh_lacksLink s6_2 m) = true then ((o_Text_readLink s6_2 (nI (3 * i6_2)) m).1) else 0) else 0)) = y11 → (if (o_Text_byteAt h (nI (3 * i6_2))) = 83 then (if 8 ≤ (s6_2 m 0) then (if (o_Text_byteAt h (nI (3 * i6_2))) = 76 then (if (o_Mesh_lacksLink s6_2 m) = true then ((o_Text_readLink s6_2 (nI (3 * i6_2)) m).2) else s6_2) else s6_2) else ((o_Text_readStation s6_2 (nI (3 * i6_2)) m).2)) else (if (o_Text_byteAt h (nI (3 * i6_2))) = 76 then (if (o_Mesh_lacksLink s6_2 m) = true then ((o_Text_readLink s6_2 (nI (3 * i6_2)) m).2) else s6_2) else s6_2)) = h12 → zV X Γ Q 70 [zO X 1, zO X m, zI (nI (3 * i6_2)), none, zI y11] [] h12 g by
      refine zr_icmp_ne C 49 d_X5_readInto_26 (by decide) (fun c26 => ?_) (fun c26 => ?_)
      · refine zr_iload_n C d_X5_readInto_49 rfl ?_
        refine zr_bipush C (v := 76) d_X5_readInto_50 (by decide) ?_
        refine zr_icmp_ne C 70 d_X5_readInto_52 (by decide) (fun c52 => ?_) (fun c52 => ?_)
        · refine zr_lv [zO X 1, zO X m, zI (nI (3 * i6_2)), none, zI 0] (by simp [zle]) ?_
          exact hJ26 0 s6_2 (((if_neg c26).trans ((if_neg c52)))) (((if_neg c26).trans ((if_neg c52))))
        · refine zr_aload_n C d_X5_readInto_55 rfl ?_
          refine zr_callVi (As := []) (st := []) (c := m) C (c_Mesh_lacksLink X s6_2 g m hm hI6_2.2) k_Mesh_lacksLink m340 m341 m342 (by omega) (zC_Mesh hm X _ _) rfl rfl (by decide) rfl (Nat.le_of_ble_eq_true rfl) d_X5_readInto_56 ?_
          refine zr_ifz_eq C 70 d_X5_readInto_59 (by decide) (fun c59 => ?_) (fun c59 => ?_)
          · refine zr_lv [zO X 1, zO X m, zI (nI (3 * i6_2)), none, zI 0] (by simp [zle]) ?_
            exact hJ26 0 s6_2 (((if_neg c26).trans ((if_pos c52).trans ((if_neg (zbf c59)))))) (((if_neg c26).trans ((if_pos c52).trans ((if_neg (zbf c59))))))
          · refine zr_aload_n C d_X5_readInto_62 rfl ?_
            refine zr_iload_n C d_X5_readInto_63 rfl ?_
            refine zr_aload_n C d_X5_readInto_64 rfl ?_
            refine zr_callVi (As := [.int (nI (3 * i6_2)), zR X m]) (st := []) (c := 1) C (c_Text_readLink X s6_2 g (nI (3 * i6_2)) m hm hI6_2.2) k_Text_readLink m354 m356 m6 (by decide) (zC_Text X _ _) rfl rfl (by decide) rfl (Nat.le_of_ble_eq_true rfl) d_X5_readInto_65 ?_
            refine zr_vi (fun y3 ey3 => ?_)
            refine zr_h (fun h4 eh4 => ?_)
            refine zr_istore C [zO X 1, zO X m, zI (nI (3 * i6_2)), zI (o_Text_byteAt h (nI (3 * i6_2))), zI y3] d_X5_readInto_68 (Nat.le_of_ble_eq_true rfl) rfl rfl ?_
            refine zr_lv [zO X 1, zO X m, zI (nI (3 * i6_2)), none, zI y3] (by simp [zle]) ?_
            exact hJ26 y3 h4 (by subst eh4 ey3; exact ((if_neg c26).trans ((if_pos c52).trans ((if_pos c59))))) (by subst eh4 ey3; exact ((if_neg c26).trans ((if_pos c52).trans ((if_pos c59)))))
      · refine zr_aload_n C d_X5_readInto_29 rfl ?_
        refine gf_Mesh_0 C hm m97 d_X5_readInto_30 ?_
        refine zr_bipush C (v := 8) d_X5_readInto_33 (by decide) ?_
        refine zr_icmp_ge C 49 d_X5_readInto_35 (by decide) (fun c35 => ?_) (fun c35 => ?_)
        · have en5 := zn_ge (a := zcn (s6_2 m 0)) (b := 8) hI6_2.2.2 rfl c35 (zcn_small _) (by decide)
          refine zr_iload_n C d_X5_readInto_49 rfl ?_
          refine zr_bipush C (v := 76) d_X5_readInto_50 (by decide) ?_
          refine zr_icmp_ne C 70 d_X5_readInto_52 (by decide) (fun c52 => ?_) (fun c52 => ?_)
          · refine zr_lv [zO X 1, zO X m, zI (nI (3 * i6_2)), none, zI 0] (by simp [zle]) ?_
            exact hJ26 0 s6_2 (((if_pos c26).trans ((if_pos c35).trans ((if_neg c52))))) (((if_pos c26).trans ((if_pos c35).trans ((if_neg c52)))))
          · refine zr_aload_n C d_X5_readInto_55 rfl ?_
            refine zr_callVi (As := []) (st := []) (c := m) C (c_Mesh_lacksLink X s6_2 g m hm hI6_2.2) k_Mesh_lacksLink m340 m341 m342 (by omega) (zC_Mesh hm X _ _) rfl rfl (by decide) rfl (Nat.le_of_ble_eq_true rfl) d_X5_readInto_56 ?_
            refine zr_ifz_eq C 70 d_X5_readInto_59 (by decide) (fun c59 => ?_) (fun c59 => ?_)
            · refine zr_lv [zO X 1, zO X m, zI (nI (3 * i6_2)), none, zI 0] (by simp [zle]) ?_
              exact hJ26 0 s6_2 (((if_pos c26).trans ((if_pos c35).trans ((if_pos c52).trans ((if_neg (zbf c59))))))) (((if_pos c26).trans ((if_pos c35).trans ((if_pos c52).trans ((if_neg (zbf c59)))))))
            · refine zr_aload_n C d_X5_readInto_62 rfl ?_
              refine zr_iload_n C d_X5_readInto_63 rfl ?_
              refine zr_aload_n C d_X5_readInto_64 rfl ?_
              refine zr_callVi (As := [.int (nI (3 * i6_2)), zR X m]) (st := []) (c := 1) C (c_Text_readLink X s6_2 g (nI (3 * i6_2)) m hm hI6_2.2) k_Text_readLink m354 m356 m6 (by decide) (zC_Text X _ _) rfl rfl (by decide) rfl (Nat.le_of_ble_eq_true rfl) d_X5_readInto_65 ?_
              refine zr_vi (fun y6 ey6 => ?_)
              refine zr_h (fun h7 eh7 => ?_)
              refine zr_istore C [zO X 1, zO X m, zI (nI (3 * i6_2)), zI (o_Text_byteAt h (nI (3 * i6_2))), zI y6] d_X5_readInto_68 (Nat.le_of_ble_eq_true rfl) rfl rfl ?_
              refine zr_lv [zO X 1, zO X m, zI (nI (3 * i6_2)), none, zI y6] (by simp [zle]) ?_
              exact hJ26 y6 h7 (by subst eh7 ey6; exact ((if_pos c26).trans ((if_pos c35).trans ((if_pos c52).trans ((if_pos c59)))))) (by subst eh7 ey6; exact ((if_pos c26).trans ((if_pos c35).trans ((if_pos c52).trans ((if_pos c59))))))
        · have en8 := zn_nge (a := zcn (s6_2 m 0)) (b := 8) hI6_2.2.2 rfl c35 (zcn_small _) (by decide)
          refine zr_aload_n C d_X5_readInto_38 rfl ?_
          refine zr_iload_n C d_X5_readInto_39 rfl ?_
          refine zr_aload_n C d_X5_readInto_40 rfl ?_
          refine zr_callVi (As := [.int (nI (3 * i6_2)), zR X m]) (st := []) (c := 1) C (c_Text_readStation X s6_2 g (nI (3 * i6_2)) m hm hI6_2.2) k_Text_readStation m286 m288 m1 (by decide) (zC_Text X _ _) rfl rfl (by decide) rfl (Nat.le_of_ble_eq_true rfl) d_X5_readInto_41 ?_
          refine zr_vi (fun y9 ey9 => ?_)
          refine zr_h (fun h10 eh10 => ?_)
          have hph10 : zfit h10 m 0 8 := by rw [← eh10]; exact pf_readStation hI6_2.2
          have hph10_1 := hph10.1
          refine zr_istore C [zO X 1, zO X m, zI (nI (3 * i6_2)), zI (o_Text_byteAt h (nI (3 * i6_2))), zI y9] d_X5_readInto_44 (Nat.le_of_ble_eq_true rfl) rfl rfl ?_
          refine zr_goto C 70 d_X5_readInto_46 (by decide) ?_
          refine zr_lv [zO X 1, zO X m, zI (nI (3 * i6_2)), none, zI y9] (by simp [zle]) ?_
          exact hJ26 y9 h10 (by subst eh10 ey9; exact ((if_pos c26).trans ((if_neg c35)))) (by subst eh10 ey9; exact ((if_pos c26).trans ((if_neg c35))))
    intro y11 h12 ey11 eh12
    refine zr_iload C d_X5_readInto_70 rfl ?_
    refine zr_iconst C (v := 3) d_X5_readInto_72 (by decide) ?_
    refine zr_icmp_ge C 81 d_X5_readInto_73 (by decide) (fun c73 => ?_) (fun c73 => ?_)
    · refine zr_iinc C [zO X 1, zO X m, zI (nI (3 * (i6_2 + 1))), none, zI y11] (v := (nI (3 * (i6_2 + 1)))) d_X5_readInto_81 rfl (zn_cast (a := 3 * i6_2 + 3) (zn_add rfl rfl) (by omega)) (Nat.le_of_ble_eq_true rfl) rfl rfl ?_
      refine zr_goto C 6 d_X5_readInto_84 (by decide) ?_
      refine zr_lv [zO X 1, zO X m, zI (nI (3 * (i6_2 + 1))), none, none] (by simp [zle]) ?_
      exact hk6_2 h12 (by subst eh12 ey11; exact ((if_pos c73)))
    · refine zr_iload_n C d_X5_readInto_76 rfl ?_
      refine zr_iload C d_X5_readInto_77 rfl ?_
      refine zr_iadd C d_X5_readInto_79 ?_
      have hr6_2 := hx6_2 ((((nI (3 * i6_2)) + y11), h12)) (by subst eh12 ey11; exact ((if_neg c73)))
      have eR : o_Text_readInto h m = (((nI (3 * i6_2)) + y11), h12) := (by subst eh12 ey11 eh1; unfold o_Text_readInto; exact ((congrArg (Sum.elim _ _) hr6_2)))
      subst hQ
      exact zTQ_Ih eR (zr_ireti C d_X5_readInto_80)
  have hI6_2_2 := hI6_2.2.1
  refine zr_iload_n C d_X5_readInto_6 rfl ?_
  refine zr_aload_n C d_X5_readInto_7 rfl ?_
  refine gf_Text_1 C m81 d_X5_readInto_8 ?_
  refine zr_top ((hI6_2.1 _ _ (by omega) (by omega) (by omega) (by omega) (by omega) (by omega) (by omega) (by omega) (by omega) (by omega) (by omega) (by omega)).trans ((congrFun (congrFun eh1.symm _) _).trans (fr_Mesh_clear _ _ (by omega) (by omega)))) ?_
  refine zr_icmp_ge C 87 d_X5_readInto_11 (by decide) (fun _ => ?_) (fun c => absurd (zge_yes rfl (by omega) (by have := zcn_small (h 1 0); omega)) c)
  refine zr_bipush C (v := (-9)) d_X5_readInto_87 (by decide) ?_
  have eR : o_Text_readInto h m = ((-9), r6_2) := (by subst eh1; unfold o_Text_readInto; exact ((congrArg (Sum.elim _ _) er6_2)))
  subst hQ
  exact zTQ_Ih eR (zr_ireti C d_X5_readInto_89)
theorem pf_readInto {h : zHp} {m : Nat} : zfit (o_Text_readInto h m).2 m 0 8 := by
  unfold o_Text_readInto
  refine zrex_P (fun _ s => zfit s m 0 8) (fun (q : Int32 × zHp) => zfit q.2 m 0 8) pf_clear (fun i s hi hI => ⟨fun s2 e => ?_, fun r e => ?_⟩) (fun s h => h)
  · obtain rfl := zite_l e
    (repeat' split) <;> with_reducible first | exact hI | exact pf_readStation hI | exact pf_readLink hI
  · obtain rfl := zite_r e
    dsimp only
    (repeat' split) <;> with_reducible first | exact hI | exact pf_readStation hI | exact pf_readLink hI

