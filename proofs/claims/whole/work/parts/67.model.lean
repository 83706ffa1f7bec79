/-! The constructor of PeriodSlotsModel, beside the class' cells. -/
theorem d_X7_init_0 : decode prog_9_method_1_code 0 = .ok (.aload_n 0, 1) := by decide +kernel
theorem d_X7_init_1 : decode prog_9_method_1_code 1 = .ok (.invokespecial 1, 3) := by decide +kernel
theorem d_X7_init_4 : decode prog_9_method_1_code 4 = .ok (.aload_n 0, 1) := by decide +kernel
theorem d_X7_init_5 : decode prog_9_method_1_code 5 = .ok (.bipush 110, 2) := by decide +kernel
theorem d_X7_init_7 : decode prog_9_method_1_code 7 = .ok (.newarray .int, 2) := by decide +kernel
theorem d_X7_init_9 : decode prog_9_method_1_code 9 = .ok (.putfield 7, 3) := by decide +kernel
theorem d_X7_init_12 : decode prog_9_method_1_code 12 = .ok (.aload_n 0, 1) := by decide +kernel
theorem d_X7_init_13 : decode prog_9_method_1_code 13 = .ok (.bipush 8, 2) := by decide +kernel
theorem d_X7_init_15 : decode prog_9_method_1_code 15 = .ok (.newarray .int, 2) := by decide +kernel
theorem d_X7_init_17 : decode prog_9_method_1_code 17 = .ok (.putfield 13, 3) := by decide +kernel
theorem d_X7_init_20 : decode prog_9_method_1_code 20 = .ok (.aload_n 0, 1) := by decide +kernel
theorem d_X7_init_21 : decode prog_9_method_1_code 21 = .ok (.bipush 25, 2) := by decide +kernel
theorem d_X7_init_23 : decode prog_9_method_1_code 23 = .ok (.newarray .int, 2) := by decide +kernel
theorem d_X7_init_25 : decode prog_9_method_1_code 25 = .ok (.putfield 16, 3) := by decide +kernel
theorem d_X7_init_28 : decode prog_9_method_1_code 28 = .ok (.aload_n 0, 1) := by decide +kernel
theorem d_X7_init_29 : decode prog_9_method_1_code 29 = .ok (.bipush 25, 2) := by decide +kernel
theorem d_X7_init_31 : decode prog_9_method_1_code 31 = .ok (.newarray .int, 2) := by decide +kernel
theorem d_X7_init_33 : decode prog_9_method_1_code 33 = .ok (.putfield 19, 3) := by decide +kernel
theorem d_X7_init_36 : decode prog_9_method_1_code 36 = .ok (.aload_n 0, 1) := by decide +kernel
theorem d_X7_init_37 : decode prog_9_method_1_code 37 = .ok (.bipush 25, 2) := by decide +kernel
theorem d_X7_init_39 : decode prog_9_method_1_code 39 = .ok (.newarray .int, 2) := by decide +kernel
theorem d_X7_init_41 : decode prog_9_method_1_code 41 = .ok (.putfield 22, 3) := by decide +kernel
theorem d_X7_init_44 : decode prog_9_method_1_code 44 = .ok (.aload_n 0, 1) := by decide +kernel
theorem d_X7_init_45 : decode prog_9_method_1_code 45 = .ok (.sipush 350, 3) := by decide +kernel
theorem d_X7_init_48 : decode prog_9_method_1_code 48 = .ok (.newarray .int, 2) := by decide +kernel
theorem d_X7_init_50 : decode prog_9_method_1_code 50 = .ok (.putfield 25, 3) := by decide +kernel
theorem d_X7_init_53 : decode prog_9_method_1_code 53 = .ok (.aload_n 0, 1) := by decide +kernel
theorem d_X7_init_54 : decode prog_9_method_1_code 54 = .ok (.bipush 50, 2) := by decide +kernel
theorem d_X7_init_56 : decode prog_9_method_1_code 56 = .ok (.newarray .int, 2) := by decide +kernel
theorem d_X7_init_58 : decode prog_9_method_1_code 58 = .ok (.putfield 28, 3) := by decide +kernel
theorem d_X7_init_61 : decode prog_9_method_1_code 61 = .ok (.aload_n 0, 1) := by decide +kernel
theorem d_X7_init_62 : decode prog_9_method_1_code 62 = .ok (.iconst 2, 1) := by decide +kernel
theorem d_X7_init_63 : decode prog_9_method_1_code 63 = .ok (.newarray .boolean, 2) := by decide +kernel
theorem d_X7_init_65 : decode prog_9_method_1_code 65 = .ok (.putfield 31, 3) := by decide +kernel
theorem d_X7_init_68 : decode prog_9_method_1_code 68 = .ok (.aload_n 0, 1) := by decide +kernel
theorem d_X7_init_69 : decode prog_9_method_1_code 69 = .ok (.bipush 6, 2) := by decide +kernel
theorem d_X7_init_71 : decode prog_9_method_1_code 71 = .ok (.newarray .int, 2) := by decide +kernel
theorem d_X7_init_73 : decode prog_9_method_1_code 73 = .ok (.putfield 35, 3) := by decide +kernel
theorem d_X7_init_76 : decode prog_9_method_1_code 76 = .ok (.aload_n 0, 1) := by decide +kernel
theorem d_X7_init_77 : decode prog_9_method_1_code 77 = .ok (.bipush 6, 2) := by decide +kernel
theorem d_X7_init_79 : decode prog_9_method_1_code 79 = .ok (.newarray .int, 2) := by decide +kernel
theorem d_X7_init_81 : decode prog_9_method_1_code 81 = .ok (.putfield 38, 3) := by decide +kernel
theorem d_X7_init_84 : decode prog_9_method_1_code 84 = .ok (.aload_n 0, 1) := by decide +kernel
theorem d_X7_init_85 : decode prog_9_method_1_code 85 = .ok (.bipush 6, 2) := by decide +kernel
theorem d_X7_init_87 : decode prog_9_method_1_code 87 = .ok (.newarray .int, 2) := by decide +kernel
theorem d_X7_init_89 : decode prog_9_method_1_code 89 = .ok (.putfield 41, 3) := by decide +kernel
theorem d_X7_init_92 : decode prog_9_method_1_code 92 = .ok (.aload_n 0, 1) := by decide +kernel
theorem d_X7_init_93 : decode prog_9_method_1_code 93 = .ok (.bipush 8, 2) := by decide +kernel
theorem d_X7_init_95 : decode prog_9_method_1_code 95 = .ok (.newarray .int, 2) := by decide +kernel
theorem d_X7_init_97 : decode prog_9_method_1_code 97 = .ok (.putfield 44, 3) := by decide +kernel
theorem d_X7_init_100 : decode prog_9_method_1_code 100 = .ok (.aload_n 0, 1) := by decide +kernel
theorem d_X7_init_101 : decode prog_9_method_1_code 101 = .ok (.bipush 8, 2) := by decide +kernel
theorem d_X7_init_103 : decode prog_9_method_1_code 103 = .ok (.newarray .int, 2) := by decide +kernel
theorem d_X7_init_105 : decode prog_9_method_1_code 105 = .ok (.putfield 47, 3) := by decide +kernel
theorem d_X7_init_108 : decode prog_9_method_1_code 108 = .ok (.aload_n 0, 1) := by decide +kernel
theorem d_X7_init_109 : decode prog_9_method_1_code 109 = .ok (.bipush 8, 2) := by decide +kernel
theorem d_X7_init_111 : decode prog_9_method_1_code 111 = .ok (.newarray .int, 2) := by decide +kernel
theorem d_X7_init_113 : decode prog_9_method_1_code 113 = .ok (.putfield 50, 3) := by decide +kernel
theorem d_X7_init_116 : decode prog_9_method_1_code 116 = .ok (.aload_n 0, 1) := by decide +kernel
theorem d_X7_init_117 : decode prog_9_method_1_code 117 = .ok (.bipush 8, 2) := by decide +kernel
theorem d_X7_init_119 : decode prog_9_method_1_code 119 = .ok (.newarray .int, 2) := by decide +kernel
theorem d_X7_init_121 : decode prog_9_method_1_code 121 = .ok (.putfield 53, 3) := by decide +kernel
theorem d_X7_init_124 : decode prog_9_method_1_code 124 = .ok (.aload_n 0, 1) := by decide +kernel
theorem d_X7_init_125 : decode prog_9_method_1_code 125 = .ok (.bipush 8, 2) := by decide +kernel
theorem d_X7_init_127 : decode prog_9_method_1_code 127 = .ok (.newarray .int, 2) := by decide +kernel
theorem d_X7_init_129 : decode prog_9_method_1_code 129 = .ok (.putfield 56, 3) := by decide +kernel
theorem d_X7_init_132 : decode prog_9_method_1_code 132 = .ok (.aload_n 0, 1) := by decide +kernel
theorem d_X7_init_133 : decode prog_9_method_1_code 133 = .ok (.bipush 8, 2) := by decide +kernel
theorem d_X7_init_135 : decode prog_9_method_1_code 135 = .ok (.newarray .int, 2) := by decide +kernel
theorem d_X7_init_137 : decode prog_9_method_1_code 137 = .ok (.putfield 59, 3) := by decide +kernel
theorem d_X7_init_140 : decode prog_9_method_1_code 140 = .ok (.aload_n 0, 1) := by decide +kernel
theorem d_X7_init_141 : decode prog_9_method_1_code 141 = .ok (.bipush 8, 2) := by decide +kernel
theorem d_X7_init_143 : decode prog_9_method_1_code 143 = .ok (.newarray .int, 2) := by decide +kernel
theorem d_X7_init_145 : decode prog_9_method_1_code 145 = .ok (.putfield 62, 3) := by decide +kernel
theorem d_X7_init_148 : decode prog_9_method_1_code 148 = .ok (.aload_n 0, 1) := by decide +kernel
theorem d_X7_init_149 : decode prog_9_method_1_code 149 = .ok (.sipush 256, 3) := by decide +kernel
theorem d_X7_init_152 : decode prog_9_method_1_code 152 = .ok (.newarray .int, 2) := by decide +kernel
theorem d_X7_init_154 : decode prog_9_method_1_code 154 = .ok (.putfield 65, 3) := by decide +kernel
theorem d_X7_init_157 : decode prog_9_method_1_code 157 = .ok (.aload_n 0, 1) := by decide +kernel
theorem d_X7_init_158 : decode prog_9_method_1_code 158 = .ok (.getfield 16, 3) := by decide +kernel
theorem d_X7_init_161 : decode prog_9_method_1_code 161 = .ok (.invokestatic 68, 3) := by decide +kernel
theorem d_X7_init_164 : decode prog_9_method_1_code 164 = .ok (.return_, 1) := by decide +kernel
abbrev M_Model_init : zMT := (⟨"PeriodSlotsModel", "<init>", "()V"⟩, prog_9_method_1_code, 1, none)
theorem k_Model_init : zcall M_Model_init 0 := ⟨zU_in (i := 748) (by decide +kernel) rfl, (zU_in (i := 62) (by decide +kernel) rfl), ⟨by decide, by decide, by decide +kernel⟩, by decide⟩
def w_Model_0 (l : Launch) (D : va_G) (cI cZ : ClassId) (a : Nat → Nat) (h0 : Nat) : va_W := w_Slots_1 l D cI cZ a ++ [(h0, .inr (7, [.null, .int 0, .int 0, .null, .null, .null, .null, .null, .int 0, .int 0, .null, .null, .null, .null, .null, .int 0, .long 0, .int 0, .null, .null, .null, .int 0, .int 0, .int 0, .int 0, .null, .null, .null, .int 0, .int 0, .null, .null]))]
set_option maxHeartbeats 4000000 in
set_option maxRecDepth 100000 in
theorem c_Model_init (l : Launch) (D : va_G) (cI cZ : ClassId) (a : Nat → Nat) (h0 sz : Nat) : zNi l D cI cZ M_Model_init 4 19 925 [.ref h0] (w_Model_0 l D cI cZ a h0) (fun q => zw (l, D, cI, cZ, zadr a h0 q) (o_Model_clear zH0 54) zg0) sz := by
  refine zNi_of "PeriodSlotsModel" prog_9_method_1_code 1 rfl (by decide) [some (.ref h0)] rfl (fun _ q => q) (Nat.le_of_ble_eq_true rfl) (fun Γ A K hin hr => ?_)
  show zB D l A Γ _ 0 [some (.ref h0)] [] (w_Slots_1 l D cI cZ a ++ [(h0, .inr (7, [.null, .int 0, .int 0, .null, .null, .null, .null, .null, .int 0, .int 0, .null, .null, .null, .null, .null, .int 0, .long 0, .int 0, .null, .null, .null, .int 0, .int 0, .int 0, .int 0, .null, .null, .null, .int 0, .int 0, .null, .null]))]) 0 0
  obtain ⟨pre, hpre⟩ : ∃ pre, pre = w_Slots_1 l D cI cZ a := ⟨_, rfl⟩
  have hp : pre.length = 51 := by rw [hpre]; unfold w_Slots_1; rw [List.length_map, List.length_range]
  rw [← hpre]
  refine zb_aload K d_X7_init_0 rfl ?_
  refine zb_obj K (zU_in (i := 749) (by decide +kernel) rfl) rfl (by decide) (by decide) d_X7_init_1 ?_
  refine zb_aload K d_X7_init_4 rfl ?_
  refine zb_bipush K (v := 110) d_X7_init_5 rfl ?_
  refine zb_newP K 110 rfl (by decide) (Nat.le_of_ble_eq_true rfl) (Nat.le_of_ble_eq_true rfl) d_X7_init_7 (fun q1 => ?_)
  refine zb_putP K hp 0 (by decide) (zU_in (i := 753) (by decide +kernel) rfl) rfl hin rfl rfl rfl (by first | (simp only [List.length_set]; exact Nat.le_of_ble_eq_true rfl) | exact Nat.le_of_ble_eq_true rfl) d_X7_init_9 ?_
  refine zb_aload K d_X7_init_12 rfl ?_
  refine zb_bipush K (v := 8) d_X7_init_13 rfl ?_
  refine zb_newP K 8 rfl (by decide) (Nat.le_of_ble_eq_true rfl) (Nat.le_of_ble_eq_true rfl) d_X7_init_15 (fun q2 => ?_)
  refine zb_putP K hp 3 (by decide) (zU_in (i := 756) (by decide +kernel) rfl) rfl hin rfl rfl rfl (by first | (simp only [List.length_set]; exact Nat.le_of_ble_eq_true rfl) | exact Nat.le_of_ble_eq_true rfl) d_X7_init_17 ?_
  refine zb_aload K d_X7_init_20 rfl ?_
  refine zb_bipush K (v := 25) d_X7_init_21 rfl ?_
  refine zb_newP K 25 rfl (by decide) (Nat.le_of_ble_eq_true rfl) (Nat.le_of_ble_eq_true rfl) d_X7_init_23 (fun q3 => ?_)
  refine zb_putP K hp 4 (by decide) (zU_in (i := 757) (by decide +kernel) rfl) rfl hin rfl rfl rfl (by first | (simp only [List.length_set]; exact Nat.le_of_ble_eq_true rfl) | exact Nat.le_of_ble_eq_true rfl) d_X7_init_25 ?_
  refine zb_aload K d_X7_init_28 rfl ?_
  refine zb_bipush K (v := 25) d_X7_init_29 rfl ?_
  refine zb_newP K 25 rfl (by decide) (Nat.le_of_ble_eq_true rfl) (Nat.le_of_ble_eq_true rfl) d_X7_init_31 (fun q4 => ?_)
  refine zb_putP K hp 5 (by decide) (zU_in (i := 758) (by decide +kernel) rfl) rfl hin rfl rfl rfl (by first | (simp only [List.length_set]; exact Nat.le_of_ble_eq_true rfl) | exact Nat.le_of_ble_eq_true rfl) d_X7_init_33 ?_
  refine zb_aload K d_X7_init_36 rfl ?_
  refine zb_bipush K (v := 25) d_X7_init_37 rfl ?_
  refine zb_newP K 25 rfl (by decide) (Nat.le_of_ble_eq_true rfl) (Nat.le_of_ble_eq_true rfl) d_X7_init_39 (fun q5 => ?_)
  refine zb_putP K hp 6 (by decide) (zU_in (i := 759) (by decide +kernel) rfl) rfl hin rfl rfl rfl (by first | (simp only [List.length_set]; exact Nat.le_of_ble_eq_true rfl) | exact Nat.le_of_ble_eq_true rfl) d_X7_init_41 ?_
  refine zb_aload K d_X7_init_44 rfl ?_
  refine zb_sipush K (v := 350) d_X7_init_45 rfl ?_
  refine zb_newP K 350 rfl (by decide) (Nat.le_of_ble_eq_true rfl) (Nat.le_of_ble_eq_true rfl) d_X7_init_48 (fun q6 => ?_)
  refine zb_putP K hp 7 (by decide) (zU_in (i := 760) (by decide +kernel) rfl) rfl hin rfl rfl rfl (by first | (simp only [List.length_set]; exact Nat.le_of_ble_eq_true rfl) | exact Nat.le_of_ble_eq_true rfl) d_X7_init_50 ?_
  refine zb_aload K d_X7_init_53 rfl ?_
  refine zb_bipush K (v := 50) d_X7_init_54 rfl ?_
  refine zb_newP K 50 rfl (by decide) (Nat.le_of_ble_eq_true rfl) (Nat.le_of_ble_eq_true rfl) d_X7_init_56 (fun q7 => ?_)
  refine zb_putP K hp 10 (by decide) (zU_in (i := 763) (by decide +kernel) rfl) rfl hin rfl rfl rfl (by first | (simp only [List.length_set]; exact Nat.le_of_ble_eq_true rfl) | exact Nat.le_of_ble_eq_true rfl) d_X7_init_58 ?_
  refine zb_aload K d_X7_init_61 rfl ?_
  refine zb_iconst K (v := 2) d_X7_init_62 (by decide) ?_
  refine zb_newQ K 2 rfl (by decide) (Nat.le_of_ble_eq_true rfl) (Nat.le_of_ble_eq_true rfl) d_X7_init_63 (fun q8 => ?_)
  refine zb_putP K hp 11 (by decide) (zU_in (i := 764) (by decide +kernel) rfl) rfl hin rfl rfl rfl (by first | (simp only [List.length_set]; exact Nat.le_of_ble_eq_true rfl) | exact Nat.le_of_ble_eq_true rfl) d_X7_init_65 ?_
  refine zb_aload K d_X7_init_68 rfl ?_
  refine zb_bipush K (v := 6) d_X7_init_69 rfl ?_
  refine zb_newP K 6 rfl (by decide) (Nat.le_of_ble_eq_true rfl) (Nat.le_of_ble_eq_true rfl) d_X7_init_71 (fun q9 => ?_)
  refine zb_putP K hp 12 (by decide) (zU_in (i := 765) (by decide +kernel) rfl) rfl hin rfl rfl rfl (by first | (simp only [List.length_set]; exact Nat.le_of_ble_eq_true rfl) | exact Nat.le_of_ble_eq_true rfl) d_X7_init_73 ?_
  refine zb_aload K d_X7_init_76 rfl ?_
  refine zb_bipush K (v := 6) d_X7_init_77 rfl ?_
  refine zb_newP K 6 rfl (by decide) (Nat.le_of_ble_eq_true rfl) (Nat.le_of_ble_eq_true rfl) d_X7_init_79 (fun q10 => ?_)
  refine zb_putP K hp 13 (by decide) (zU_in (i := 766) (by decide +kernel) rfl) rfl hin rfl rfl rfl (by first | (simp only [List.length_set]; exact Nat.le_of_ble_eq_true rfl) | exact Nat.le_of_ble_eq_true rfl) d_X7_init_81 ?_
  refine zb_aload K d_X7_init_84 rfl ?_
  refine zb_bipush K (v := 6) d_X7_init_85 rfl ?_
  refine zb_newP K 6 rfl (by decide) (Nat.le_of_ble_eq_true rfl) (Nat.le_of_ble_eq_true rfl) d_X7_init_87 (fun q11 => ?_)
  refine zb_putP K hp 14 (by decide) (zU_in (i := 767) (by decide +kernel) rfl) rfl hin rfl rfl rfl (by first | (simp only [List.length_set]; exact Nat.le_of_ble_eq_true rfl) | exact Nat.le_of_ble_eq_true rfl) d_X7_init_89 ?_
  refine zb_aload K d_X7_init_92 rfl ?_
  refine zb_bipush K (v := 8) d_X7_init_93 rfl ?_
  refine zb_newP K 8 rfl (by decide) (Nat.le_of_ble_eq_true rfl) (Nat.le_of_ble_eq_true rfl) d_X7_init_95 (fun q12 => ?_)
  refine zb_putP K hp 18 (by decide) (zU_in (i := 771) (by decide +kernel) rfl) rfl hin rfl rfl rfl (by first | (simp only [List.length_set]; exact Nat.le_of_ble_eq_true rfl) | exact Nat.le_of_ble_eq_true rfl) d_X7_init_97 ?_
  refine zb_aload K d_X7_init_100 rfl ?_
  refine zb_bipush K (v := 8) d_X7_init_101 rfl ?_
  refine zb_newP K 8 rfl (by decide) (Nat.le_of_ble_eq_true rfl) (Nat.le_of_ble_eq_true rfl) d_X7_init_103 (fun q13 => ?_)
  refine zb_putP K hp 19 (by decide) (zU_in (i := 772) (by decide +kernel) rfl) rfl hin rfl rfl rfl (by first | (simp only [List.length_set]; exact Nat.le_of_ble_eq_true rfl) | exact Nat.le_of_ble_eq_true rfl) d_X7_init_105 ?_
  refine zb_aload K d_X7_init_108 rfl ?_
  refine zb_bipush K (v := 8) d_X7_init_109 rfl ?_
  refine zb_newP K 8 rfl (by decide) (Nat.le_of_ble_eq_true rfl) (Nat.le_of_ble_eq_true rfl) d_X7_init_111 (fun q14 => ?_)
  refine zb_putP K hp 20 (by decide) (zU_in (i := 773) (by decide +kernel) rfl) rfl hin rfl rfl rfl (by first | (simp only [List.length_set]; exact Nat.le_of_ble_eq_true rfl) | exact Nat.le_of_ble_eq_true rfl) d_X7_init_113 ?_
  refine zb_aload K d_X7_init_116 rfl ?_
  refine zb_bipush K (v := 8) d_X7_init_117 rfl ?_
  refine zb_newP K 8 rfl (by decide) (Nat.le_of_ble_eq_true rfl) (Nat.le_of_ble_eq_true rfl) d_X7_init_119 (fun q15 => ?_)
  refine zb_putP K hp 25 (by decide) (zU_in (i := 778) (by decide +kernel) rfl) rfl hin rfl rfl rfl (by first | (simp only [List.length_set]; exact Nat.le_of_ble_eq_true rfl) | exact Nat.le_of_ble_eq_true rfl) d_X7_init_121 ?_
  refine zb_aload K d_X7_init_124 rfl ?_
  refine zb_bipush K (v := 8) d_X7_init_125 rfl ?_
  refine zb_newP K 8 rfl (by decide) (Nat.le_of_ble_eq_true rfl) (Nat.le_of_ble_eq_true rfl) d_X7_init_127 (fun q16 => ?_)
  refine zb_putP K hp 26 (by decide) (zU_in (i := 779) (by decide +kernel) rfl) rfl hin rfl rfl rfl (by first | (simp only [List.length_set]; exact Nat.le_of_ble_eq_true rfl) | exact Nat.le_of_ble_eq_true rfl) d_X7_init_129 ?_
  refine zb_aload K d_X7_init_132 rfl ?_
  refine zb_bipush K (v := 8) d_X7_init_133 rfl ?_
  refine zb_newP K 8 rfl (by decide) (Nat.le_of_ble_eq_true rfl) (Nat.le_of_ble_eq_true rfl) d_X7_init_135 (fun q17 => ?_)
  refine zb_putP K hp 27 (by decide) (zU_in (i := 780) (by decide +kernel) rfl) rfl hin rfl rfl rfl (by first | (simp only [List.length_set]; exact Nat.le_of_ble_eq_true rfl) | exact Nat.le_of_ble_eq_true rfl) d_X7_init_137 ?_
  refine zb_aload K d_X7_init_140 rfl ?_
  refine zb_bipush K (v := 8) d_X7_init_141 rfl ?_
  refine zb_newP K 8 rfl (by decide) (Nat.le_of_ble_eq_true rfl) (Nat.le_of_ble_eq_true rfl) d_X7_init_143 (fun q18 => ?_)
  refine zb_putP K hp 30 (by decide) (zU_in (i := 783) (by decide +kernel) rfl) rfl hin rfl rfl rfl (by first | (simp only [List.length_set]; exact Nat.le_of_ble_eq_true rfl) | exact Nat.le_of_ble_eq_true rfl) d_X7_init_145 ?_
  refine zb_aload K d_X7_init_148 rfl ?_
  refine zb_sipush K (v := 256) d_X7_init_149 rfl ?_
  refine zb_newP K 256 rfl (by decide) (Nat.le_of_ble_eq_true rfl) (Nat.le_of_ble_eq_true rfl) d_X7_init_152 (fun q19 => ?_)
  refine zb_putP K hp 31 (by decide) (zU_in (i := 784) (by decide +kernel) rfl) rfl hin rfl rfl rfl (by first | (simp only [List.length_set]; exact Nat.le_of_ble_eq_true rfl) | exact Nat.le_of_ble_eq_true rfl) d_X7_init_154 ?_
  refine zb_eq (ws2 := zw (l, D, cI, cZ, zadr a h0 (fun k => [q1, q2, q3, q4, q5, q6, q7, q8, q9, q10, q11, q12, q13, q14, q15, q16, q17, q18, q19].getD k 0)) zH0 zg0) (by rw [zw_split, hpre]; exact congr (congrArg (fun x y => x ++ y) (zw_pre l D cI cZ a h0 _).symm) rfl) ?_
  obtain ⟨adr, ha⟩ : ∃ adr : Nat → Nat, adr = zadr a h0 (fun k => [q1, q2, q3, q4, q5, q6, q7, q8, q9, q10, q11, q12, q13, q14, q15, q16, q17, q18, q19].getD k 0) := ⟨_, rfl⟩
  rw [← ha]
  have e0 : adr 51 = h0 := by subst ha; rfl
  refine zb_aload K (a0 := adr 51) d_X7_init_157 (by rw [e0]; rfl) ?_
  refine zb_get K 51 (zw_at (l, D, cI, cZ, adr) zH0 zg0 (by decide)) rfl zi_Model 4 (by decide) (zU_in (i := 757) (by decide +kernel) rfl) (v := .ref (adr 54)) rfl d_X7_init_158 ?_
  refine zb_callZ (As := [.ref (adr 54)]) (st := []) K (c_Model_clear (l, D, cI, cZ, adr) zH0 zg0 54 (Or.inl rfl)) k_Model_clear (zU_in (i := 750) (by decide +kernel) rfl) (zU_in (i := 751) (by decide +kernel) rfl) rfl (by decide) rfl (by decide) (Nat.le_of_ble_eq_true rfl) (Nat.le_of_ble_eq_true rfl) d_X7_init_161 ?_
  exact zb_ret K hr (fun k => [q1, q2, q3, q4, q5, q6, q7, q8, q9, q10, q11, q12, q13, q14, q15, q16, q17, q18, q19].getD k 0) (by rw [ha]) d_X7_init_164
