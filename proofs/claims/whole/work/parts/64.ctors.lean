/-! The constructors that call constructors. -/
theorem d_X4_init_0 : decode prog_6_method_1_code 0 = .ok (.aload_n 0, 1) := by decide +kernel
theorem d_X4_init_1 : decode prog_6_method_1_code 1 = .ok (.invokespecial 3, 3) := by decide +kernel
theorem d_X4_init_4 : decode prog_6_method_1_code 4 = .ok (.aload_n 0, 1) := by decide +kernel
theorem d_X4_init_5 : decode prog_6_method_1_code 5 = .ok (.iconst 0, 1) := by decide +kernel
theorem d_X4_init_6 : decode prog_6_method_1_code 6 = .ok (.iload_n 1, 1) := by decide +kernel
theorem d_X4_init_7 : decode prog_6_method_1_code 7 = .ok (.invokestatic 9, 3) := by decide +kernel
theorem d_X4_init_10 : decode prog_6_method_1_code 10 = .ok (.putfield 15, 3) := by decide +kernel
theorem d_X4_init_13 : decode prog_6_method_1_code 13 = .ok (.aload_n 0, 1) := by decide +kernel
theorem d_X4_init_14 : decode prog_6_method_1_code 14 = .ok (.aload_n 0, 1) := by decide +kernel
theorem d_X4_init_15 : decode prog_6_method_1_code 15 = .ok (.getfield 15, 3) := by decide +kernel
theorem d_X4_init_18 : decode prog_6_method_1_code 18 = .ok (.bipush 25, 2) := by decide +kernel
theorem d_X4_init_20 : decode prog_6_method_1_code 20 = .ok (.imul, 1) := by decide +kernel
theorem d_X4_init_21 : decode prog_6_method_1_code 21 = .ok (.newarray .int, 2) := by decide +kernel
theorem d_X4_init_23 : decode prog_6_method_1_code 23 = .ok (.putfield 21, 3) := by decide +kernel
theorem d_X4_init_26 : decode prog_6_method_1_code 26 = .ok (.return_, 1) := by decide +kernel
abbrev M_Shelf_init : zMT := (⟨"PeriodSlots$Shelf", "<init>", "(I)V"⟩, prog_6_method_1_code, 2, none)
theorem k_Shelf_init : zcall M_Shelf_init 1 := ⟨zU_in (i := 179) (by decide +kernel) rfl, (zU_in (i := 59) (by decide +kernel) rfl), ⟨by decide, by decide, by decide +kernel⟩, by decide⟩
def w_Shelf_0 (h0 : Nat) : va_W := [(h0, .inr (4, [.int 0, .null, .int 0]))]
def w_Shelf_1 (cI : ClassId) (N h0 : Nat) (q : Nat → Nat) : va_W := [(h0, .inr (4, [.int (nI N), .ref (q 0), .int 0])), (q 0, .inl (cI, N * 25, .inl (fun _ => 0)))]
theorem c_Shelf_init (l : Launch) (D : va_G) (cI cZ : ClassId) (N : Nat) (hN : 0 < N) (hN2 : N < 40) (h0 sz : Nat) : zNi l D cI cZ M_Shelf_init 2 1 (N * 25) [.ref h0, .int (nI N)] (w_Shelf_0 h0) (w_Shelf_1 cI N h0) sz := by
  refine zNi_of "PeriodSlots$Shelf" prog_6_method_1_code 2 rfl (by decide) [some (.ref h0), some (.int (nI N))] rfl (fun _ q => q) (Nat.le_of_ble_eq_true rfl) (fun Γ A K hin hr => ?_)
  have e1 : (if (0 : Int32) < nI N then nI N else 0) = nI N := if_pos (nI_lt (a := 0) (b := N) hN (by omega))
  have e2 : nI N * 25 = nI (N * 25) := (Int32.ofNat_mul N 25).symm
  show zB D l A Γ _ 0 [some (.ref h0), some (.int (nI N))] [] [(h0, .inr (4, [.int 0, .null, .int 0]))] 0 0
  refine zb_aload K d_X4_init_0 rfl ?_
  refine zb_obj K (zU_in (i := 180) (by decide +kernel) rfl) rfl (by decide) (by decide) d_X4_init_1 ?_
  refine zb_aload K d_X4_init_4 rfl ?_
  refine zb_iconst K (v := 0) d_X4_init_5 (by decide) ?_
  refine zb_iload K d_X4_init_6 rfl ?_
  refine zb_mmax K (zU_in (i := 181) (by decide +kernel) rfl) rfl (Nat.le_of_ble_eq_true rfl) (by decide) (Nat.zero_le _) (Nat.zero_le _) d_X4_init_7 ?_
  rw [e1]
  refine zb_putF K (ws2 := [(h0, .inr (4, [.int (nI N), .null, .int 0]))]) 0 rfl rfl zi_Shelf zY_Shelf zY_Shelf_ok zT_Shelf_nm 0 (by decide) (zU_in (i := 184) (by decide +kernel) rfl) rfl hin rfl rfl rfl (Nat.le_of_ble_eq_true rfl) rfl d_X4_init_10 ?_
  refine zb_aload K d_X4_init_13 rfl ?_
  refine zb_aload K d_X4_init_14 rfl ?_
  refine zb_get K 0 rfl rfl zi_Shelf 0 (by decide) (zU_in (i := 184) (by decide +kernel) rfl) rfl d_X4_init_15 ?_
  refine zb_bipush K (v := 25) d_X4_init_18 rfl ?_
  refine zb_imul K d_X4_init_20 ?_
  refine zb_newi K (N * 25) e2 (by omega) (by omega) (by omega) d_X4_init_21 (fun q1 => ?_)
  refine zb_putF K (ws2 := [(h0, .inr (4, [.int (nI N), .ref q1, .int 0])), (q1, .inl (cI, N * 25, .inl (fun _ => 0)))]) 0 rfl rfl zi_Shelf zY_Shelf zY_Shelf_ok zT_Shelf_nm 1 (by decide) (zU_in (i := 185) (by decide +kernel) rfl) rfl hin rfl rfl rfl (Nat.le_of_ble_eq_true rfl) rfl d_X4_init_23 ?_
  have R := zb_ret (l := l) (lv := [some (.ref h0), some (.int (nI N))]) (W1 := w_Shelf_1 cI N h0) (kc := 0 + 1) (ks := 0 + N * 25) K hr (fun k => [q1].getD k 0) rfl d_X4_init_26
  rw [show (0 + N * 25) = N * 25 from Nat.zero_add _] at R ⊢
  exact R
theorem d_X0_init_0 : decode prog_2_method_1_code 0 = .ok (.aload_n 0, 1) := by decide +kernel
theorem d_X0_init_1 : decode prog_2_method_1_code 1 = .ok (.invokespecial 3, 3) := by decide +kernel
theorem d_X0_init_4 : decode prog_2_method_1_code 4 = .ok (.aload_n 0, 1) := by decide +kernel
theorem d_X0_init_5 : decode prog_2_method_1_code 5 = .ok (.new 9, 3) := by decide +kernel
theorem d_X0_init_8 : decode prog_2_method_1_code 8 = .ok (.dup, 1) := by decide +kernel
theorem d_X0_init_9 : decode prog_2_method_1_code 9 = .ok (.bipush 14, 2) := by decide +kernel
theorem d_X0_init_11 : decode prog_2_method_1_code 11 = .ok (.invokespecial 11, 3) := by decide +kernel
theorem d_X0_init_14 : decode prog_2_method_1_code 14 = .ok (.putfield 14, 3) := by decide +kernel
theorem d_X0_init_17 : decode prog_2_method_1_code 17 = .ok (.return_, 1) := by decide +kernel
abbrev M_Acts_init : zMT := (⟨"PeriodSlots$Acts", "<init>", "()V"⟩, prog_2_method_1_code, 1, none)
theorem k_Acts_init : zcall M_Acts_init 0 := ⟨zU_in (i := 173) (by decide +kernel) rfl, (zU_in (i := 58) (by decide +kernel) rfl), ⟨by decide, by decide, by decide +kernel⟩, by decide⟩
def w_Acts_0 (h0 : Nat) : va_W := [(h0, .inr (0, [.null, .int 0, .int 0]))]
def w_Acts_1 (cI : ClassId) (h0 : Nat) (q : Nat → Nat) : va_W := [(h0, .inr (0, [.ref (q 0), .int 0, .int 0])), (q 0, .inr (4, [.int 14, .ref (q 1), .int 0])), (q 1, .inl (cI, 350, .inl (fun _ => 0)))]
theorem c_Acts_init (l : Launch) (D : va_G) (cI cZ : ClassId) (h0 sz : Nat) : zNi l D cI cZ M_Acts_init 3 2 353 [.ref h0] (w_Acts_0 h0) (w_Acts_1 cI h0) sz := by
  refine zNi_of "PeriodSlots$Acts" prog_2_method_1_code 1 rfl (by decide) [some (.ref h0)] rfl (fun _ q => q) (Nat.le_of_ble_eq_true rfl) (fun Γ A K hin hr => ?_)
  show zB D l A Γ _ 0 [some (.ref h0)] [] [(h0, .inr (0, [.null, .int 0, .int 0]))] 0 0
  refine zb_aload K d_X0_init_0 rfl ?_
  refine zb_obj K (zU_in (i := 174) (by decide +kernel) rfl) rfl (by decide) (by decide) d_X0_init_1 ?_
  refine zb_aload K d_X0_init_4 rfl ?_
  refine zb_new K (ci := 4) (fs := [.int 0, .null, .int 0]) rfl zi_Shelf zY_Shelf zY_Shelf_ok (zU_in (i := 175) (by decide +kernel) rfl) (zU_in (i := 176) (by decide +kernel) rfl) (zU_in (i := 59) (by decide +kernel) rfl) (fun j hj => by rcases (show j = 0 ∨ j = 1 ∨ j = 2 by omega) with rfl | rfl | rfl <;> rfl) (Nat.le_of_ble_eq_true rfl) (Nat.le_of_ble_eq_true rfl) d_X0_init_5 (fun q1 => ?_)
  refine zb_dup K d_X0_init_8 rfl ?_
  refine zb_bipush K (v := nI 14) d_X0_init_9 rfl ?_
  refine zb_call K (M := M_Shelf_init) (As := [.int (nI 14)]) (a := q1) (st := [.ref q1, .ref h0]) (W0 := w_Shelf_0 q1) (W1 := w_Shelf_1 cI 14 q1) (wr := [(h0, .inr (0, [.null, .int 0, .int 0]))]) (fun sz => c_Shelf_init l D cI cZ 14 (by decide) (by decide) q1 sz) k_Shelf_init rfl rfl (zU_in (i := 177) (by decide +kernel) rfl) (zU_in (i := 178) (by decide +kernel) rfl) [1] [0] rfl rfl (by decide) rfl (by decide) (by decide) rfl (by decide) rfl (Nat.le_of_ble_eq_true rfl) (Nat.le_of_ble_eq_true rfl) (Nat.le_of_ble_eq_true rfl) d_X0_init_11 (fun f => ?_)
  refine zb_putF K (ws2 := [(h0, .inr (0, [.ref q1, .int 0, .int 0])), (q1, .inr (4, [.int 14, .ref (f 0), .int 0])), (f 0, .inl (cI, 350, .inl (fun _ => 0)))]) 0 rfl rfl zi_Acts zY_Acts zY_Acts_ok zT_Acts_nm 0 (by decide) (zU_in (i := 194) (by decide +kernel) rfl) rfl hin rfl rfl rfl (Nat.le_of_ble_eq_true rfl) rfl d_X0_init_14 ?_
  exact zb_ret K hr (fun k => [q1, f 0].getD k 0) rfl d_X0_init_17
