/-! The constructors of the small classes. -/
theorem d_X5_init_0 : decode prog_7_method_1_code 0 = .ok (.aload_n 0, 1) := by decide +kernel
theorem d_X5_init_1 : decode prog_7_method_1_code 1 = .ok (.invokespecial 3, 3) := by decide +kernel
theorem d_X5_init_4 : decode prog_7_method_1_code 4 = .ok (.aload_n 0, 1) := by decide +kernel
theorem d_X5_init_5 : decode prog_7_method_1_code 5 = .ok (.bipush 110, 2) := by decide +kernel
theorem d_X5_init_7 : decode prog_7_method_1_code 7 = .ok (.newarray .int, 2) := by decide +kernel
theorem d_X5_init_9 : decode prog_7_method_1_code 9 = .ok (.putfield 9, 3) := by decide +kernel
theorem d_X5_init_12 : decode prog_7_method_1_code 12 = .ok (.return_, 1) := by decide +kernel
abbrev M_Text_init : zMT := (⟨"PeriodSlots$Text", "<init>", "()V"⟩, prog_7_method_1_code, 1, none)
theorem k_Text_init : zcall M_Text_init 0 := ⟨zU_in (i := 78) (by decide +kernel) rfl, (zU_in (i := 55) (by decide +kernel) rfl), ⟨by decide, by decide, by decide +kernel⟩, by decide⟩
def w_Text_0 (h0 : Nat) : va_W := [(h0, .inr (5, [.null, .int 0]))]
def w_Text_1 (cI cZ : ClassId) (h0 : Nat) (q : Nat → Nat) : va_W := [(h0, .inr (5, [.ref (q 0), .int 0])), (q 0, .inl (cI, 110, .inl (fun _ => 0)))]
set_option maxRecDepth 20000 in
theorem c_Text_init (l : Launch) (D : va_G) (cI cZ : ClassId) (h0 sz : Nat) : zNi l D cI cZ M_Text_init 2 1 110 [.ref h0] (w_Text_0 h0) (w_Text_1 cI cZ h0) sz := by
  refine zNi_of "PeriodSlots$Text" prog_7_method_1_code 1 rfl (by decide) [some (.ref h0)] rfl (fun _ q => q) (Nat.le_of_ble_eq_true rfl) (fun Γ A K hin hr => ?_)
  show zB D l A Γ _ 0 [some (.ref h0)] [] [(h0, .inr (5, [.null, .int 0]))] 0 0
  refine zb_aload K d_X5_init_0 rfl ?_
  refine zb_obj K (zU_in (i := 79) (by decide +kernel) rfl) rfl (by decide) (by decide) d_X5_init_1 ?_
  refine zb_aload K d_X5_init_4 rfl ?_
  refine zb_bipush K (v := 110) d_X5_init_5 rfl ?_
  refine zb_newi K 110 rfl (by decide) (Nat.le_of_ble_eq_true rfl) (Nat.le_of_ble_eq_true rfl) d_X5_init_7 (fun q1 => ?_)
  refine zb_putF K (ws2 := [(h0, .inr (5, [.ref q1, .int 0])), (q1, .inl (cI, 110, .inl (fun _ => 0)))]) 0 rfl rfl zi_Text zY_Text zY_Text_ok zT_Text_nm 0 (by decide) (zU_in (i := 80) (by decide +kernel) rfl) rfl hin rfl rfl rfl (Nat.le_of_ble_eq_true rfl) rfl d_X5_init_9 ?_
  exact zb_ret K hr (fun k => [q1].getD k 0) rfl d_X5_init_12
theorem d_X1_init_0 : decode prog_3_method_1_code 0 = .ok (.aload_n 0, 1) := by decide +kernel
theorem d_X1_init_1 : decode prog_3_method_1_code 1 = .ok (.invokespecial 3, 3) := by decide +kernel
theorem d_X1_init_4 : decode prog_3_method_1_code 4 = .ok (.aload_n 0, 1) := by decide +kernel
theorem d_X1_init_5 : decode prog_3_method_1_code 5 = .ok (.bipush 8, 2) := by decide +kernel
theorem d_X1_init_7 : decode prog_3_method_1_code 7 = .ok (.newarray .int, 2) := by decide +kernel
theorem d_X1_init_9 : decode prog_3_method_1_code 9 = .ok (.putfield 9, 3) := by decide +kernel
theorem d_X1_init_12 : decode prog_3_method_1_code 12 = .ok (.aload_n 0, 1) := by decide +kernel
theorem d_X1_init_13 : decode prog_3_method_1_code 13 = .ok (.bipush 8, 2) := by decide +kernel
theorem d_X1_init_15 : decode prog_3_method_1_code 15 = .ok (.newarray .int, 2) := by decide +kernel
theorem d_X1_init_17 : decode prog_3_method_1_code 17 = .ok (.putfield 15, 3) := by decide +kernel
theorem d_X1_init_20 : decode prog_3_method_1_code 20 = .ok (.aload_n 0, 1) := by decide +kernel
theorem d_X1_init_21 : decode prog_3_method_1_code 21 = .ok (.bipush 8, 2) := by decide +kernel
theorem d_X1_init_23 : decode prog_3_method_1_code 23 = .ok (.newarray .int, 2) := by decide +kernel
theorem d_X1_init_25 : decode prog_3_method_1_code 25 = .ok (.putfield 18, 3) := by decide +kernel
theorem d_X1_init_28 : decode prog_3_method_1_code 28 = .ok (.aload_n 0, 1) := by decide +kernel
theorem d_X1_init_29 : decode prog_3_method_1_code 29 = .ok (.bipush 8, 2) := by decide +kernel
theorem d_X1_init_31 : decode prog_3_method_1_code 31 = .ok (.newarray .int, 2) := by decide +kernel
theorem d_X1_init_33 : decode prog_3_method_1_code 33 = .ok (.putfield 21, 3) := by decide +kernel
theorem d_X1_init_36 : decode prog_3_method_1_code 36 = .ok (.aload_n 0, 1) := by decide +kernel
theorem d_X1_init_37 : decode prog_3_method_1_code 37 = .ok (.bipush 8, 2) := by decide +kernel
theorem d_X1_init_39 : decode prog_3_method_1_code 39 = .ok (.newarray .int, 2) := by decide +kernel
theorem d_X1_init_41 : decode prog_3_method_1_code 41 = .ok (.putfield 24, 3) := by decide +kernel
theorem d_X1_init_44 : decode prog_3_method_1_code 44 = .ok (.aload_n 0, 1) := by decide +kernel
theorem d_X1_init_45 : decode prog_3_method_1_code 45 = .ok (.bipush 8, 2) := by decide +kernel
theorem d_X1_init_47 : decode prog_3_method_1_code 47 = .ok (.newarray .int, 2) := by decide +kernel
theorem d_X1_init_49 : decode prog_3_method_1_code 49 = .ok (.putfield 27, 3) := by decide +kernel
theorem d_X1_init_52 : decode prog_3_method_1_code 52 = .ok (.aload_n 0, 1) := by decide +kernel
theorem d_X1_init_53 : decode prog_3_method_1_code 53 = .ok (.bipush 8, 2) := by decide +kernel
theorem d_X1_init_55 : decode prog_3_method_1_code 55 = .ok (.newarray .int, 2) := by decide +kernel
theorem d_X1_init_57 : decode prog_3_method_1_code 57 = .ok (.putfield 30, 3) := by decide +kernel
theorem d_X1_init_60 : decode prog_3_method_1_code 60 = .ok (.aload_n 0, 1) := by decide +kernel
theorem d_X1_init_61 : decode prog_3_method_1_code 61 = .ok (.bipush 8, 2) := by decide +kernel
theorem d_X1_init_63 : decode prog_3_method_1_code 63 = .ok (.newarray .int, 2) := by decide +kernel
theorem d_X1_init_65 : decode prog_3_method_1_code 65 = .ok (.putfield 33, 3) := by decide +kernel
theorem d_X1_init_68 : decode prog_3_method_1_code 68 = .ok (.aload_n 0, 1) := by decide +kernel
theorem d_X1_init_69 : decode prog_3_method_1_code 69 = .ok (.bipush 8, 2) := by decide +kernel
theorem d_X1_init_71 : decode prog_3_method_1_code 71 = .ok (.newarray .int, 2) := by decide +kernel
theorem d_X1_init_73 : decode prog_3_method_1_code 73 = .ok (.putfield 36, 3) := by decide +kernel
theorem d_X1_init_76 : decode prog_3_method_1_code 76 = .ok (.aload_n 0, 1) := by decide +kernel
theorem d_X1_init_77 : decode prog_3_method_1_code 77 = .ok (.bipush 8, 2) := by decide +kernel
theorem d_X1_init_79 : decode prog_3_method_1_code 79 = .ok (.newarray .int, 2) := by decide +kernel
theorem d_X1_init_81 : decode prog_3_method_1_code 81 = .ok (.putfield 39, 3) := by decide +kernel
theorem d_X1_init_84 : decode prog_3_method_1_code 84 = .ok (.aload_n 0, 1) := by decide +kernel
theorem d_X1_init_85 : decode prog_3_method_1_code 85 = .ok (.bipush 8, 2) := by decide +kernel
theorem d_X1_init_87 : decode prog_3_method_1_code 87 = .ok (.newarray .int, 2) := by decide +kernel
theorem d_X1_init_89 : decode prog_3_method_1_code 89 = .ok (.putfield 42, 3) := by decide +kernel
theorem d_X1_init_92 : decode prog_3_method_1_code 92 = .ok (.return_, 1) := by decide +kernel
abbrev M_Mesh_init : zMT := (⟨"PeriodSlots$Mesh", "<init>", "()V"⟩, prog_3_method_1_code, 1, none)
theorem k_Mesh_init : zcall M_Mesh_init 0 := ⟨zU_in (i := 93) (by decide +kernel) rfl, (zU_in (i := 56) (by decide +kernel) rfl), ⟨by decide, by decide, by decide +kernel⟩, by decide⟩
def w_Mesh_0 (h0 : Nat) : va_W := [(h0, .inr (1, [.int 0, .int 0, .int 0, .null, .null, .null, .null, .null, .null, .null, .null, .null, .null, .null]))]
def w_Mesh_1 (cI cZ : ClassId) (h0 : Nat) (q : Nat → Nat) : va_W := [(h0, .inr (1, [.int 0, .int 0, .int 0, .ref (q 0), .ref (q 1), .ref (q 2), .ref (q 3), .ref (q 4), .ref (q 5), .ref (q 6), .ref (q 7), .ref (q 8), .ref (q 9), .ref (q 10)])), (q 0, .inl (cI, 8, .inl (fun _ => 0))), (q 1, .inl (cI, 8, .inl (fun _ => 0))), (q 2, .inl (cI, 8, .inl (fun _ => 0))), (q 3, .inl (cI, 8, .inl (fun _ => 0))), (q 4, .inl (cI, 8, .inl (fun _ => 0))), (q 5, .inl (cI, 8, .inl (fun _ => 0))), (q 6, .inl (cI, 8, .inl (fun _ => 0))), (q 7, .inl (cI, 8, .inl (fun _ => 0))), (q 8, .inl (cI, 8, .inl (fun _ => 0))), (q 9, .inl (cI, 8, .inl (fun _ => 0))), (q 10, .inl (cI, 8, .inl (fun _ => 0)))]
set_option maxRecDepth 20000 in
theorem c_Mesh_init (l : Launch) (D : va_G) (cI cZ : ClassId) (h0 sz : Nat) : zNi l D cI cZ M_Mesh_init 2 11 88 [.ref h0] (w_Mesh_0 h0) (w_Mesh_1 cI cZ h0) sz := by
  refine zNi_of "PeriodSlots$Mesh" prog_3_method_1_code 1 rfl (by decide) [some (.ref h0)] rfl (fun _ q => q) (Nat.le_of_ble_eq_true rfl) (fun Γ A K hin hr => ?_)
  show zB D l A Γ _ 0 [some (.ref h0)] [] [(h0, .inr (1, [.int 0, .int 0, .int 0, .null, .null, .null, .null, .null, .null, .null, .null, .null, .null, .null]))] 0 0
  refine zb_aload K d_X1_init_0 rfl ?_
  refine zb_obj K (zU_in (i := 94) (by decide +kernel) rfl) rfl (by decide) (by decide) d_X1_init_1 ?_
  refine zb_aload K d_X1_init_4 rfl ?_
  refine zb_bipush K (v := 8) d_X1_init_5 rfl ?_
  refine zb_newi K 8 rfl (by decide) (Nat.le_of_ble_eq_true rfl) (Nat.le_of_ble_eq_true rfl) d_X1_init_7 (fun q1 => ?_)
  refine zb_putF K (ws2 := [(h0, .inr (1, [.int 0, .int 0, .int 0, .ref q1, .null, .null, .null, .null, .null, .null, .null, .null, .null, .null])), (q1, .inl (cI, 8, .inl (fun _ => 0)))]) 0 rfl rfl zi_Mesh zY_Mesh zY_Mesh_ok zT_Mesh_nm 3 (by decide) (zU_in (i := 104) (by decide +kernel) rfl) rfl hin rfl rfl rfl (Nat.le_of_ble_eq_true rfl) rfl d_X1_init_9 ?_
  refine zb_aload K d_X1_init_12 rfl ?_
  refine zb_bipush K (v := 8) d_X1_init_13 rfl ?_
  refine zb_newi K 8 rfl (by decide) (Nat.le_of_ble_eq_true rfl) (Nat.le_of_ble_eq_true rfl) d_X1_init_15 (fun q2 => ?_)
  refine zb_putF K (ws2 := [(h0, .inr (1, [.int 0, .int 0, .int 0, .ref q1, .ref q2, .null, .null, .null, .null, .null, .null, .null, .null, .null])), (q1, .inl (cI, 8, .inl (fun _ => 0))), (q2, .inl (cI, 8, .inl (fun _ => 0)))]) 0 rfl rfl zi_Mesh zY_Mesh zY_Mesh_ok zT_Mesh_nm 4 (by decide) (zU_in (i := 107) (by decide +kernel) rfl) rfl hin rfl rfl rfl (Nat.le_of_ble_eq_true rfl) rfl d_X1_init_17 ?_
  refine zb_aload K d_X1_init_20 rfl ?_
  refine zb_bipush K (v := 8) d_X1_init_21 rfl ?_
  refine zb_newi K 8 rfl (by decide) (Nat.le_of_ble_eq_true rfl) (Nat.le_of_ble_eq_true rfl) d_X1_init_23 (fun q3 => ?_)
  refine zb_putF K (ws2 := [(h0, .inr (1, [.int 0, .int 0, .int 0, .ref q1, .ref q2, .ref q3, .null, .null, .null, .null, .null, .null, .null, .null])), (q1, .inl (cI, 8, .inl (fun _ => 0))), (q2, .inl (cI, 8, .inl (fun _ => 0))), (q3, .inl (cI, 8, .inl (fun _ => 0)))]) 0 rfl rfl zi_Mesh zY_Mesh zY_Mesh_ok zT_Mesh_nm 5 (by decide) (zU_in (i := 111) (by decide +kernel) rfl) rfl hin rfl rfl rfl (Nat.le_of_ble_eq_true rfl) rfl d_X1_init_25 ?_
  refine zb_aload K d_X1_init_28 rfl ?_
  refine zb_bipush K (v := 8) d_X1_init_29 rfl ?_
  refine zb_newi K 8 rfl (by decide) (Nat.le_of_ble_eq_true rfl) (Nat.le_of_ble_eq_true rfl) d_X1_init_31 (fun q4 => ?_)
  refine zb_putF K (ws2 := [(h0, .inr (1, [.int 0, .int 0, .int 0, .ref q1, .ref q2, .ref q3, .ref q4, .null, .null, .null, .null, .null, .null, .null])), (q1, .inl (cI, 8, .inl (fun _ => 0))), (q2, .inl (cI, 8, .inl (fun _ => 0))), (q3, .inl (cI, 8, .inl (fun _ => 0))), (q4, .inl (cI, 8, .inl (fun _ => 0)))]) 0 rfl rfl zi_Mesh zY_Mesh zY_Mesh_ok zT_Mesh_nm 6 (by decide) (zU_in (i := 114) (by decide +kernel) rfl) rfl hin rfl rfl rfl (Nat.le_of_ble_eq_true rfl) rfl d_X1_init_33 ?_
  refine zb_aload K d_X1_init_36 rfl ?_
  refine zb_bipush K (v := 8) d_X1_init_37 rfl ?_
  refine zb_newi K 8 rfl (by decide) (Nat.le_of_ble_eq_true rfl) (Nat.le_of_ble_eq_true rfl) d_X1_init_39 (fun q5 => ?_)
  refine zb_putF K (ws2 := [(h0, .inr (1, [.int 0, .int 0, .int 0, .ref q1, .ref q2, .ref q3, .ref q4, .ref q5, .null, .null, .null, .null, .null, .null])), (q1, .inl (cI, 8, .inl (fun _ => 0))), (q2, .inl (cI, 8, .inl (fun _ => 0))), (q3, .inl (cI, 8, .inl (fun _ => 0))), (q4, .inl (cI, 8, .inl (fun _ => 0))), (q5, .inl (cI, 8, .inl (fun _ => 0)))]) 0 rfl rfl zi_Mesh zY_Mesh zY_Mesh_ok zT_Mesh_nm 7 (by decide) (zU_in (i := 117) (by decide +kernel) rfl) rfl hin rfl rfl rfl (Nat.le_of_ble_eq_true rfl) rfl d_X1_init_41 ?_
  refine zb_aload K d_X1_init_44 rfl ?_
  refine zb_bipush K (v := 8) d_X1_init_45 rfl ?_
  refine zb_newi K 8 rfl (by decide) (Nat.le_of_ble_eq_true rfl) (Nat.le_of_ble_eq_true rfl) d_X1_init_47 (fun q6 => ?_)
  refine zb_putF K (ws2 := [(h0, .inr (1, [.int 0, .int 0, .int 0, .ref q1, .ref q2, .ref q3, .ref q4, .ref q5, .ref q6, .null, .null, .null, .null, .null])), (q1, .inl (cI, 8, .inl (fun _ => 0))), (q2, .inl (cI, 8, .inl (fun _ => 0))), (q3, .inl (cI, 8, .inl (fun _ => 0))), (q4, .inl (cI, 8, .inl (fun _ => 0))), (q5, .inl (cI, 8, .inl (fun _ => 0))), (q6, .inl (cI, 8, .inl (fun _ => 0)))]) 0 rfl rfl zi_Mesh zY_Mesh zY_Mesh_ok zT_Mesh_nm 8 (by decide) (zU_in (i := 118) (by decide +kernel) rfl) rfl hin rfl rfl rfl (Nat.le_of_ble_eq_true rfl) rfl d_X1_init_49 ?_
  refine zb_aload K d_X1_init_52 rfl ?_
  refine zb_bipush K (v := 8) d_X1_init_53 rfl ?_
  refine zb_newi K 8 rfl (by decide) (Nat.le_of_ble_eq_true rfl) (Nat.le_of_ble_eq_true rfl) d_X1_init_55 (fun q7 => ?_)
  refine zb_putF K (ws2 := [(h0, .inr (1, [.int 0, .int 0, .int 0, .ref q1, .ref q2, .ref q3, .ref q4, .ref q5, .ref q6, .ref q7, .null, .null, .null, .null])), (q1, .inl (cI, 8, .inl (fun _ => 0))), (q2, .inl (cI, 8, .inl (fun _ => 0))), (q3, .inl (cI, 8, .inl (fun _ => 0))), (q4, .inl (cI, 8, .inl (fun _ => 0))), (q5, .inl (cI, 8, .inl (fun _ => 0))), (q6, .inl (cI, 8, .inl (fun _ => 0))), (q7, .inl (cI, 8, .inl (fun _ => 0)))]) 0 rfl rfl zi_Mesh zY_Mesh zY_Mesh_ok zT_Mesh_nm 9 (by decide) (zU_in (i := 121) (by decide +kernel) rfl) rfl hin rfl rfl rfl (Nat.le_of_ble_eq_true rfl) rfl d_X1_init_57 ?_
  refine zb_aload K d_X1_init_60 rfl ?_
  refine zb_bipush K (v := 8) d_X1_init_61 rfl ?_
  refine zb_newi K 8 rfl (by decide) (Nat.le_of_ble_eq_true rfl) (Nat.le_of_ble_eq_true rfl) d_X1_init_63 (fun q8 => ?_)
  refine zb_putF K (ws2 := [(h0, .inr (1, [.int 0, .int 0, .int 0, .ref q1, .ref q2, .ref q3, .ref q4, .ref q5, .ref q6, .ref q7, .ref q8, .null, .null, .null])), (q1, .inl (cI, 8, .inl (fun _ => 0))), (q2, .inl (cI, 8, .inl (fun _ => 0))), (q3, .inl (cI, 8, .inl (fun _ => 0))), (q4, .inl (cI, 8, .inl (fun _ => 0))), (q5, .inl (cI, 8, .inl (fun _ => 0))), (q6, .inl (cI, 8, .inl (fun _ => 0))), (q7, .inl (cI, 8, .inl (fun _ => 0))), (q8, .inl (cI, 8, .inl (fun _ => 0)))]) 0 rfl rfl zi_Mesh zY_Mesh zY_Mesh_ok zT_Mesh_nm 10 (by decide) (zU_in (i := 123) (by decide +kernel) rfl) rfl hin rfl rfl rfl (Nat.le_of_ble_eq_true rfl) rfl d_X1_init_65 ?_
  refine zb_aload K d_X1_init_68 rfl ?_
  refine zb_bipush K (v := 8) d_X1_init_69 rfl ?_
  refine zb_newi K 8 rfl (by decide) (Nat.le_of_ble_eq_true rfl) (Nat.le_of_ble_eq_true rfl) d_X1_init_71 (fun q9 => ?_)
  refine zb_putF K (ws2 := [(h0, .inr (1, [.int 0, .int 0, .int 0, .ref q1, .ref q2, .ref q3, .ref q4, .ref q5, .ref q6, .ref q7, .ref q8, .ref q9, .null, .null])), (q1, .inl (cI, 8, .inl (fun _ => 0))), (q2, .inl (cI, 8, .inl (fun _ => 0))), (q3, .inl (cI, 8, .inl (fun _ => 0))), (q4, .inl (cI, 8, .inl (fun _ => 0))), (q5, .inl (cI, 8, .inl (fun _ => 0))), (q6, .inl (cI, 8, .inl (fun _ => 0))), (q7, .inl (cI, 8, .inl (fun _ => 0))), (q8, .inl (cI, 8, .inl (fun _ => 0))), (q9, .inl (cI, 8, .inl (fun _ => 0)))]) 0 rfl rfl zi_Mesh zY_Mesh zY_Mesh_ok zT_Mesh_nm 11 (by decide) (zU_in (i := 124) (by decide +kernel) rfl) rfl hin rfl rfl rfl (Nat.le_of_ble_eq_true rfl) rfl d_X1_init_73 ?_
  refine zb_aload K d_X1_init_76 rfl ?_
  refine zb_bipush K (v := 8) d_X1_init_77 rfl ?_
  refine zb_newi K 8 rfl (by decide) (Nat.le_of_ble_eq_true rfl) (Nat.le_of_ble_eq_true rfl) d_X1_init_79 (fun q10 => ?_)
  refine zb_putF K (ws2 := [(h0, .inr (1, [.int 0, .int 0, .int 0, .ref q1, .ref q2, .ref q3, .ref q4, .ref q5, .ref q6, .ref q7, .ref q8, .ref q9, .ref q10, .null])), (q1, .inl (cI, 8, .inl (fun _ => 0))), (q2, .inl (cI, 8, .inl (fun _ => 0))), (q3, .inl (cI, 8, .inl (fun _ => 0))), (q4, .inl (cI, 8, .inl (fun _ => 0))), (q5, .inl (cI, 8, .inl (fun _ => 0))), (q6, .inl (cI, 8, .inl (fun _ => 0))), (q7, .inl (cI, 8, .inl (fun _ => 0))), (q8, .inl (cI, 8, .inl (fun _ => 0))), (q9, .inl (cI, 8, .inl (fun _ => 0))), (q10, .inl (cI, 8, .inl (fun _ => 0)))]) 0 rfl rfl zi_Mesh zY_Mesh zY_Mesh_ok zT_Mesh_nm 12 (by decide) (zU_in (i := 126) (by decide +kernel) rfl) rfl hin rfl rfl rfl (Nat.le_of_ble_eq_true rfl) rfl d_X1_init_81 ?_
  refine zb_aload K d_X1_init_84 rfl ?_
  refine zb_bipush K (v := 8) d_X1_init_85 rfl ?_
  refine zb_newi K 8 rfl (by decide) (Nat.le_of_ble_eq_true rfl) (Nat.le_of_ble_eq_true rfl) d_X1_init_87 (fun q11 => ?_)
  refine zb_putF K (ws2 := [(h0, .inr (1, [.int 0, .int 0, .int 0, .ref q1, .ref q2, .ref q3, .ref q4, .ref q5, .ref q6, .ref q7, .ref q8, .ref q9, .ref q10, .ref q11])), (q1, .inl (cI, 8, .inl (fun _ => 0))), (q2, .inl (cI, 8, .inl (fun _ => 0))), (q3, .inl (cI, 8, .inl (fun _ => 0))), (q4, .inl (cI, 8, .inl (fun _ => 0))), (q5, .inl (cI, 8, .inl (fun _ => 0))), (q6, .inl (cI, 8, .inl (fun _ => 0))), (q7, .inl (cI, 8, .inl (fun _ => 0))), (q8, .inl (cI, 8, .inl (fun _ => 0))), (q9, .inl (cI, 8, .inl (fun _ => 0))), (q10, .inl (cI, 8, .inl (fun _ => 0))), (q11, .inl (cI, 8, .inl (fun _ => 0)))]) 0 rfl rfl zi_Mesh zY_Mesh zY_Mesh_ok zT_Mesh_nm 13 (by decide) (zU_in (i := 128) (by decide +kernel) rfl) rfl hin rfl rfl rfl (Nat.le_of_ble_eq_true rfl) rfl d_X1_init_89 ?_
  exact zb_ret K hr (fun k => [q1, q2, q3, q4, q5, q6, q7, q8, q9, q10, q11].getD k 0) rfl d_X1_init_92
theorem d_X3_init_0 : decode prog_5_method_1_code 0 = .ok (.aload_n 0, 1) := by decide +kernel
theorem d_X3_init_1 : decode prog_5_method_1_code 1 = .ok (.invokespecial 3, 3) := by decide +kernel
theorem d_X3_init_4 : decode prog_5_method_1_code 4 = .ok (.aload_n 0, 1) := by decide +kernel
theorem d_X3_init_5 : decode prog_5_method_1_code 5 = .ok (.bipush 8, 2) := by decide +kernel
theorem d_X3_init_7 : decode prog_5_method_1_code 7 = .ok (.newarray .int, 2) := by decide +kernel
theorem d_X3_init_9 : decode prog_5_method_1_code 9 = .ok (.putfield 9, 3) := by decide +kernel
theorem d_X3_init_12 : decode prog_5_method_1_code 12 = .ok (.return_, 1) := by decide +kernel
abbrev M_Planner_init : zMT := (⟨"PeriodSlots$Planner", "<init>", "()V"⟩, prog_5_method_1_code, 1, none)
theorem k_Planner_init : zcall M_Planner_init 0 := ⟨zU_in (i := 162) (by decide +kernel) rfl, (zU_in (i := 57) (by decide +kernel) rfl), ⟨by decide, by decide, by decide +kernel⟩, by decide⟩
def w_Planner_0 (h0 : Nat) : va_W := [(h0, .inr (3, [.null]))]
def w_Planner_1 (cI cZ : ClassId) (h0 : Nat) (q : Nat → Nat) : va_W := [(h0, .inr (3, [.ref (q 0)])), (q 0, .inl (cI, 8, .inl (fun _ => 0)))]
set_option maxRecDepth 20000 in
theorem c_Planner_init (l : Launch) (D : va_G) (cI cZ : ClassId) (h0 sz : Nat) : zNi l D cI cZ M_Planner_init 2 1 8 [.ref h0] (w_Planner_0 h0) (w_Planner_1 cI cZ h0) sz := by
  refine zNi_of "PeriodSlots$Planner" prog_5_method_1_code 1 rfl (by decide) [some (.ref h0)] rfl (fun _ q => q) (Nat.le_of_ble_eq_true rfl) (fun Γ A K hin hr => ?_)
  show zB D l A Γ _ 0 [some (.ref h0)] [] [(h0, .inr (3, [.null]))] 0 0
  refine zb_aload K d_X3_init_0 rfl ?_
  refine zb_obj K (zU_in (i := 163) (by decide +kernel) rfl) rfl (by decide) (by decide) d_X3_init_1 ?_
  refine zb_aload K d_X3_init_4 rfl ?_
  refine zb_bipush K (v := 8) d_X3_init_5 rfl ?_
  refine zb_newi K 8 rfl (by decide) (Nat.le_of_ble_eq_true rfl) (Nat.le_of_ble_eq_true rfl) d_X3_init_7 (fun q1 => ?_)
  refine zb_putF K (ws2 := [(h0, .inr (3, [.ref q1])), (q1, .inl (cI, 8, .inl (fun _ => 0)))]) 0 rfl rfl zi_Planner zY_Planner zY_Planner_ok zT_Planner_nm 0 (by decide) (zU_in (i := 164) (by decide +kernel) rfl) rfl hin rfl rfl rfl (Nat.le_of_ble_eq_true rfl) rfl d_X3_init_9 ?_
  exact zb_ret K hr (fun k => [q1].getD k 0) rfl d_X3_init_12
theorem d_X2_init_0 : decode prog_4_method_1_code 0 = .ok (.aload_n 0, 1) := by decide +kernel
theorem d_X2_init_1 : decode prog_4_method_1_code 1 = .ok (.invokespecial 3, 3) := by decide +kernel
theorem d_X2_init_4 : decode prog_4_method_1_code 4 = .ok (.aload_n 0, 1) := by decide +kernel
theorem d_X2_init_5 : decode prog_4_method_1_code 5 = .ok (.bipush 6, 2) := by decide +kernel
theorem d_X2_init_7 : decode prog_4_method_1_code 7 = .ok (.newarray .int, 2) := by decide +kernel
theorem d_X2_init_9 : decode prog_4_method_1_code 9 = .ok (.putfield 9, 3) := by decide +kernel
theorem d_X2_init_12 : decode prog_4_method_1_code 12 = .ok (.aload_n 0, 1) := by decide +kernel
theorem d_X2_init_13 : decode prog_4_method_1_code 13 = .ok (.bipush 6, 2) := by decide +kernel
theorem d_X2_init_15 : decode prog_4_method_1_code 15 = .ok (.newarray .int, 2) := by decide +kernel
theorem d_X2_init_17 : decode prog_4_method_1_code 17 = .ok (.putfield 15, 3) := by decide +kernel
theorem d_X2_init_20 : decode prog_4_method_1_code 20 = .ok (.aload_n 0, 1) := by decide +kernel
theorem d_X2_init_21 : decode prog_4_method_1_code 21 = .ok (.bipush 6, 2) := by decide +kernel
theorem d_X2_init_23 : decode prog_4_method_1_code 23 = .ok (.newarray .int, 2) := by decide +kernel
theorem d_X2_init_25 : decode prog_4_method_1_code 25 = .ok (.putfield 18, 3) := by decide +kernel
theorem d_X2_init_28 : decode prog_4_method_1_code 28 = .ok (.return_, 1) := by decide +kernel
abbrev M_Obs_init : zMT := (⟨"PeriodSlots$Observations", "<init>", "()V"⟩, prog_4_method_1_code, 1, none)
theorem k_Obs_init : zcall M_Obs_init 0 := ⟨zU_in (i := 211) (by decide +kernel) rfl, (zU_in (i := 61) (by decide +kernel) rfl), ⟨by decide, by decide, by decide +kernel⟩, by decide⟩
def w_Obs_0 (h0 : Nat) : va_W := [(h0, .inr (2, [.null, .null, .null, .int 0]))]
def w_Obs_1 (cI cZ : ClassId) (h0 : Nat) (q : Nat → Nat) : va_W := [(h0, .inr (2, [.ref (q 0), .ref (q 1), .ref (q 2), .int 0])), (q 0, .inl (cI, 6, .inl (fun _ => 0))), (q 1, .inl (cI, 6, .inl (fun _ => 0))), (q 2, .inl (cI, 6, .inl (fun _ => 0)))]
set_option maxRecDepth 20000 in
theorem c_Obs_init (l : Launch) (D : va_G) (cI cZ : ClassId) (h0 sz : Nat) : zNi l D cI cZ M_Obs_init 2 3 18 [.ref h0] (w_Obs_0 h0) (w_Obs_1 cI cZ h0) sz := by
  refine zNi_of "PeriodSlots$Observations" prog_4_method_1_code 1 rfl (by decide) [some (.ref h0)] rfl (fun _ q => q) (Nat.le_of_ble_eq_true rfl) (fun Γ A K hin hr => ?_)
  show zB D l A Γ _ 0 [some (.ref h0)] [] [(h0, .inr (2, [.null, .null, .null, .int 0]))] 0 0
  refine zb_aload K d_X2_init_0 rfl ?_
  refine zb_obj K (zU_in (i := 212) (by decide +kernel) rfl) rfl (by decide) (by decide) d_X2_init_1 ?_
  refine zb_aload K d_X2_init_4 rfl ?_
  refine zb_bipush K (v := 6) d_X2_init_5 rfl ?_
  refine zb_newi K 6 rfl (by decide) (Nat.le_of_ble_eq_true rfl) (Nat.le_of_ble_eq_true rfl) d_X2_init_7 (fun q1 => ?_)
  refine zb_putF K (ws2 := [(h0, .inr (2, [.ref q1, .null, .null, .int 0])), (q1, .inl (cI, 6, .inl (fun _ => 0)))]) 0 rfl rfl zi_Obs zY_Obs zY_Obs_ok zT_Obs_nm 0 (by decide) (zU_in (i := 213) (by decide +kernel) rfl) rfl hin rfl rfl rfl (Nat.le_of_ble_eq_true rfl) rfl d_X2_init_9 ?_
  refine zb_aload K d_X2_init_12 rfl ?_
  refine zb_bipush K (v := 6) d_X2_init_13 rfl ?_
  refine zb_newi K 6 rfl (by decide) (Nat.le_of_ble_eq_true rfl) (Nat.le_of_ble_eq_true rfl) d_X2_init_15 (fun q2 => ?_)
  refine zb_putF K (ws2 := [(h0, .inr (2, [.ref q1, .ref q2, .null, .int 0])), (q1, .inl (cI, 6, .inl (fun _ => 0))), (q2, .inl (cI, 6, .inl (fun _ => 0)))]) 0 rfl rfl zi_Obs zY_Obs zY_Obs_ok zT_Obs_nm 1 (by decide) (zU_in (i := 214) (by decide +kernel) rfl) rfl hin rfl rfl rfl (Nat.le_of_ble_eq_true rfl) rfl d_X2_init_17 ?_
  refine zb_aload K d_X2_init_20 rfl ?_
  refine zb_bipush K (v := 6) d_X2_init_21 rfl ?_
  refine zb_newi K 6 rfl (by decide) (Nat.le_of_ble_eq_true rfl) (Nat.le_of_ble_eq_true rfl) d_X2_init_23 (fun q3 => ?_)
  refine zb_putF K (ws2 := [(h0, .inr (2, [.ref q1, .ref q2, .ref q3, .int 0])), (q1, .inl (cI, 6, .inl (fun _ => 0))), (q2, .inl (cI, 6, .inl (fun _ => 0))), (q3, .inl (cI, 6, .inl (fun _ => 0)))]) 0 rfl rfl zi_Obs zY_Obs zY_Obs_ok zT_Obs_nm 2 (by decide) (zU_in (i := 215) (by decide +kernel) rfl) rfl hin rfl rfl rfl (Nat.le_of_ble_eq_true rfl) rfl d_X2_init_25 ?_
  exact zb_ret K hr (fun k => [q1, q2, q3].getD k 0) rfl d_X2_init_28
