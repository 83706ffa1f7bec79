/-! Walks of methods, by program (wip/whole/gen). -/
theorem d_J6_bitCount_0f7a4_0 : decode prog_10_method_49_code 0 = .ok (.iload_n 0, 1) := by decide +kernel
theorem d_J6_bitCount_0f7a4_1 : decode prog_10_method_49_code 1 = .ok (.iload_n 0, 1) := by decide +kernel
theorem d_J6_bitCount_0f7a4_2 : decode prog_10_method_49_code 2 = .ok (.iconst 1, 1) := by decide +kernel
theorem d_J6_bitCount_0f7a4_3 : decode prog_10_method_49_code 3 = .ok (.iushr, 1) := by decide +kernel
theorem d_J6_bitCount_0f7a4_4 : decode prog_10_method_49_code 4 = .ok (.ldc_w 265, 3) := by decide +kernel
theorem d_J6_bitCount_0f7a4_7 : decode prog_10_method_49_code 7 = .ok (.iand, 1) := by decide +kernel
theorem d_J6_bitCount_0f7a4_8 : decode prog_10_method_49_code 8 = .ok (.isub, 1) := by decide +kernel
theorem d_J6_bitCount_0f7a4_9 : decode prog_10_method_49_code 9 = .ok (.istore_n 0, 1) := by decide +kernel
theorem d_J6_bitCount_0f7a4_10 : decode prog_10_method_49_code 10 = .ok (.iload_n 0, 1) := by decide +kernel
theorem d_J6_bitCount_0f7a4_11 : decode prog_10_method_49_code 11 = .ok (.ldc_w 266, 3) := by decide +kernel
theorem d_J6_bitCount_0f7a4_14 : decode prog_10_method_49_code 14 = .ok (.iand, 1) := by decide +kernel
theorem d_J6_bitCount_0f7a4_15 : decode prog_10_method_49_code 15 = .ok (.iload_n 0, 1) := by decide +kernel
theorem d_J6_bitCount_0f7a4_16 : decode prog_10_method_49_code 16 = .ok (.iconst 2, 1) := by decide +kernel
theorem d_J6_bitCount_0f7a4_17 : decode prog_10_method_49_code 17 = .ok (.iushr, 1) := by decide +kernel
theorem d_J6_bitCount_0f7a4_18 : decode prog_10_method_49_code 18 = .ok (.ldc_w 266, 3) := by decide +kernel
theorem d_J6_bitCount_0f7a4_21 : decode prog_10_method_49_code 21 = .ok (.iand, 1) := by decide +kernel
theorem d_J6_bitCount_0f7a4_22 : decode prog_10_method_49_code 22 = .ok (.iadd, 1) := by decide +kernel
theorem d_J6_bitCount_0f7a4_23 : decode prog_10_method_49_code 23 = .ok (.istore_n 0, 1) := by decide +kernel
theorem d_J6_bitCount_0f7a4_24 : decode prog_10_method_49_code 24 = .ok (.iload_n 0, 1) := by decide +kernel
theorem d_J6_bitCount_0f7a4_25 : decode prog_10_method_49_code 25 = .ok (.iload_n 0, 1) := by decide +kernel
theorem d_J6_bitCount_0f7a4_26 : decode prog_10_method_49_code 26 = .ok (.iconst 4, 1) := by decide +kernel
theorem d_J6_bitCount_0f7a4_27 : decode prog_10_method_49_code 27 = .ok (.iushr, 1) := by decide +kernel
theorem d_J6_bitCount_0f7a4_28 : decode prog_10_method_49_code 28 = .ok (.iadd, 1) := by decide +kernel
theorem d_J6_bitCount_0f7a4_29 : decode prog_10_method_49_code 29 = .ok (.ldc_w 267, 3) := by decide +kernel
theorem d_J6_bitCount_0f7a4_32 : decode prog_10_method_49_code 32 = .ok (.iand, 1) := by decide +kernel
theorem d_J6_bitCount_0f7a4_33 : decode prog_10_method_49_code 33 = .ok (.istore_n 0, 1) := by decide +kernel
theorem d_J6_bitCount_0f7a4_34 : decode prog_10_method_49_code 34 = .ok (.iload_n 0, 1) := by decide +kernel
theorem d_J6_bitCount_0f7a4_35 : decode prog_10_method_49_code 35 = .ok (.iload_n 0, 1) := by decide +kernel
theorem d_J6_bitCount_0f7a4_36 : decode prog_10_method_49_code 36 = .ok (.bipush 8, 2) := by decide +kernel
theorem d_J6_bitCount_0f7a4_38 : decode prog_10_method_49_code 38 = .ok (.iushr, 1) := by decide +kernel
theorem d_J6_bitCount_0f7a4_39 : decode prog_10_method_49_code 39 = .ok (.iadd, 1) := by decide +kernel
theorem d_J6_bitCount_0f7a4_40 : decode prog_10_method_49_code 40 = .ok (.istore_n 0, 1) := by decide +kernel
theorem d_J6_bitCount_0f7a4_41 : decode prog_10_method_49_code 41 = .ok (.iload_n 0, 1) := by decide +kernel
theorem d_J6_bitCount_0f7a4_42 : decode prog_10_method_49_code 42 = .ok (.iload_n 0, 1) := by decide +kernel
theorem d_J6_bitCount_0f7a4_43 : decode prog_10_method_49_code 43 = .ok (.bipush 16, 2) := by decide +kernel
theorem d_J6_bitCount_0f7a4_45 : decode prog_10_method_49_code 45 = .ok (.iushr, 1) := by decide +kernel
theorem d_J6_bitCount_0f7a4_46 : decode prog_10_method_49_code 46 = .ok (.iadd, 1) := by decide +kernel
theorem d_J6_bitCount_0f7a4_47 : decode prog_10_method_49_code 47 = .ok (.istore_n 0, 1) := by decide +kernel
theorem d_J6_bitCount_0f7a4_48 : decode prog_10_method_49_code 48 = .ok (.iload_n 0, 1) := by decide +kernel
theorem d_J6_bitCount_0f7a4_49 : decode prog_10_method_49_code 49 = .ok (.bipush 63, 2) := by decide +kernel
theorem d_J6_bitCount_0f7a4_51 : decode prog_10_method_49_code 51 = .ok (.iand, 1) := by decide +kernel
theorem d_J6_bitCount_0f7a4_52 : decode prog_10_method_49_code 52 = .ok (.ireturn, 1) := by decide +kernel
abbrev M_Int_bitCount : zMT := (⟨"java/lang/Integer", "bitCount", "(I)I"⟩, prog_10_method_49_code, 1, (some .int))
theorem k_Int_bitCount : zcall M_Int_bitCount 1 := ⟨zU_in (i := 350) (by decide +kernel) rfl, m64, ⟨by decide, by decide, by decide +kernel⟩, by decide⟩
def o_Int_bitCount (x : Int32) : Int32 :=
  ((((((((x - ((zshr x 1) &&& 1431655765)) &&& 858993459) + ((zshr (x - ((zshr x 1) &&& 1431655765)) 2) &&& 858993459)) + (zshr (((x - ((zshr x 1) &&& 1431655765)) &&& 858993459) + ((zshr (x - ((zshr x 1) &&& 1431655765)) 2) &&& 858993459)) 4)) &&& 252645135) + (zshr (((((x - ((zshr x 1) &&& 1431655765)) &&& 858993459) + ((zshr (x - ((zshr x 1) &&& 1431655765)) 2) &&& 858993459)) + (zshr (((x - ((zshr x 1) &&& 1431655765)) &&& 858993459) + ((zshr (x - ((zshr x 1) &&& 1431655765)) 2) &&& 858993459)) 4)) &&& 252645135) 8)) + (zshr ((((((x - ((zshr x 1) &&& 1431655765)) &&& 858993459) + ((zshr (x - ((zshr x 1) &&& 1431655765)) 2) &&& 858993459)) + (zshr (((x - ((zshr x 1) &&& 1431655765)) &&& 858993459) + ((zshr (x - ((zshr x 1) &&& 1431655765)) 2) &&& 858993459)) 4)) &&& 252645135) + (zshr (((((x - ((zshr x 1) &&& 1431655765)) &&& 858993459) + ((zshr (x - ((zshr x 1) &&& 1431655765)) 2) &&& 858993459)) + (zshr (((x - ((zshr x 1) &&& 1431655765)) &&& 858993459) + ((zshr (x - ((zshr x 1) &&& 1431655765)) 2) &&& 858993459)) 4)) &&& 252645135) 8)) 16)) &&& 63)
set_option maxHeartbeats 400000 in
set_option maxRecDepth 20000 in
theorem c_Int_bitCount (X : zXT) (h : zHp) (g : zLg) (x : Int32) : zDi X M_Int_bitCount 0 [.int x] h g (zI (o_Int_bitCount x)) h g := by
  refine zDi_of "java/lang/Integer" prog_10_method_49_code 1 (some .int) rfl (by decide) [zI x] rfl (fun _ q => q) (Nat.le_of_ble_eq_true rfl) ?_
  intro Γ Q C hQ
  refine zr_iload_n C d_J6_bitCount_0f7a4_0 rfl ?_
  refine zr_iload_n C d_J6_bitCount_0f7a4_1 rfl ?_
  refine zr_iconst C (v := 1) d_J6_bitCount_0f7a4_2 (by decide) ?_
  refine zr_iushr C d_J6_bitCount_0f7a4_3 ?_
  refine zr_ldcw C (v := 1431655765) m351 d_J6_bitCount_0f7a4_4 ?_
  refine zr_iand C d_J6_bitCount_0f7a4_7 ?_
  refine zr_isub C d_J6_bitCount_0f7a4_8 ?_
  refine zr_istore_n C [zI (x - ((zshr x 1) &&& 1431655765))] d_J6_bitCount_0f7a4_9 (Nat.le_of_ble_eq_true rfl) rfl rfl ?_
  refine zr_iload_n C d_J6_bitCount_0f7a4_10 rfl ?_
  refine zr_ldcw C (v := 858993459) m352 d_J6_bitCount_0f7a4_11 ?_
  refine zr_iand C d_J6_bitCount_0f7a4_14 ?_
  refine zr_iload_n C d_J6_bitCount_0f7a4_15 rfl ?_
  refine zr_iconst C (v := 2) d_J6_bitCount_0f7a4_16 (by decide) ?_
  refine zr_iushr C d_J6_bitCount_0f7a4_17 ?_
  refine zr_ldcw C (v := 858993459) m352 d_J6_bitCount_0f7a4_18 ?_
  refine zr_iand C d_J6_bitCount_0f7a4_21 ?_
  refine zr_iadd C d_J6_bitCount_0f7a4_22 ?_
  refine zr_istore_n C [zI (((x - ((zshr x 1) &&& 1431655765)) &&& 858993459) + ((zshr (x - ((zshr x 1) &&& 1431655765)) 2) &&& 858993459))] d_J6_bitCount_0f7a4_23 (Nat.le_of_ble_eq_true rfl) rfl rfl ?_
  refine zr_iload_n C d_J6_bitCount_0f7a4_24 rfl ?_
  refine zr_iload_n C d_J6_bitCount_0f7a4_25 rfl ?_
  refine zr_iconst C (v := 4) d_J6_bitCount_0f7a4_26 (by decide) ?_
  refine zr_iushr C d_J6_bitCount_0f7a4_27 ?_
  refine zr_iadd C d_J6_bitCount_0f7a4_28 ?_
  refine zr_ldcw C (v := 252645135) m353 d_J6_bitCount_0f7a4_29 ?_
  refine zr_iand C d_J6_bitCount_0f7a4_32 ?_
  refine zr_istore_n C [zI (((((x - ((zshr x 1) &&& 1431655765)) &&& 858993459) + ((zshr (x - ((zshr x 1) &&& 1431655765)) 2) &&& 858993459)) + (zshr (((x - ((zshr x 1) &&& 1431655765)) &&& 858993459) + ((zshr (x - ((zshr x 1) &&& 1431655765)) 2) &&& 858993459)) 4)) &&& 252645135)] d_J6_bitCount_0f7a4_33 (Nat.le_of_ble_eq_true rfl) rfl rfl ?_
  refine zr_iload_n C d_J6_bitCount_0f7a4_34 rfl ?_
  refine zr_iload_n C d_J6_bitCount_0f7a4_35 rfl ?_
  refine zr_bipush C (v := 8) d_J6_bitCount_0f7a4_36 (by decide) ?_
  refine zr_iushr C d_J6_bitCount_0f7a4_38 ?_
  refine zr_iadd C d_J6_bitCount_0f7a4_39 ?_
  refine zr_istore_n C [zI ((((((x - ((zshr x 1) &&& 1431655765)) &&& 858993459) + ((zshr (x - ((zshr x 1) &&& 1431655765)) 2) &&& 858993459)) + (zshr (((x - ((zshr x 1) &&& 1431655765)) &&& 858993459) + ((zshr (x - ((zshr x 1) &&& 1431655765)) 2) &&& 858993459)) 4)) &&& 252645135) + (zshr (((((x - ((zshr x 1) &&& 1431655765)) &&& 858993459) + ((zshr (x - ((zshr x 1) &&& 1431655765)) 2) &&& 858993459)) + (zshr (((x - ((zshr x 1) &&& 1431655765)) &&& 858993459) + ((zshr (x - ((zshr x 1) &&& 1431655765)) 2) &&& 858993459)) 4)) &&& 252645135) 8))] d_J6_bitCount_0f7a4_40 (Nat.le_of_ble_eq_true rfl) rfl rfl ?_
  refine zr_iload_n C d_J6_bitCount_0f7a4_41 rfl ?_
  refine zr_iload_n C d_J6_bitCount_0f7a4_42 rfl ?_
  refine zr_bipush C (v := 16) d_J6_bitCount_0f7a4_43 (by decide) ?_
  refine zr_iushr C d_J6_bitCount_0f7a4_45 ?_
  refine zr_iadd C d_J6_bitCount_0f7a4_46 ?_
  refine zr_istore_n C [zI (((((((x - ((zshr x 1) &&& 1431655765)) &&& 858993459) + ((zshr (x - ((zshr x 1) &&& 1431655765)) 2) &&& 858993459)) + (zshr (((x - ((zshr x 1) &&& 1431655765)) &&& 858993459) + ((zshr (x - ((zshr x 1) &&& 1431655765)) 2) &&& 858993459)) 4)) &&& 252645135) + (zshr (((((x - ((zshr x 1) &&& 1431655765)) &&& 858993459) + ((zshr (x - ((zshr x 1) &&& 1431655765)) 2) &&& 858993459)) + (zshr (((x - ((zshr x 1) &&& 1431655765)) &&& 858993459) + ((zshr (x - ((zshr x 1) &&& 1431655765)) 2) &&& 858993459)) 4)) &&& 252645135) 8)) + (zshr ((((((x - ((zshr x 1) &&& 1431655765)) &&& 858993459) + ((zshr (x - ((zshr x 1) &&& 1431655765)) 2) &&& 858993459)) + (zshr (((x - ((zshr x 1) &&& 1431655765)) &&& 858993459) + ((zshr (x - ((zshr x 1) &&& 1431655765)) 2) &&& 858993459)) 4)) &&& 252645135) + (zshr (((((x - ((zshr x 1) &&& 1431655765)) &&& 858993459) + ((zshr (x - ((zshr x 1) &&& 1431655765)) 2) &&& 858993459)) + (zshr (((x - ((zshr x 1) &&& 1431655765)) &&& 858993459) + ((zshr (x - ((zshr x 1) &&& 1431655765)) 2) &&& 858993459)) 4)) &&& 252645135) 8)) 16))] d_J6_bitCount_0f7a4_47 (Nat.le_of_ble_eq_true rfl) rfl rfl ?_
  refine zr_iload_n C d_J6_bitCount_0f7a4_48 rfl ?_
  refine zr_bipush C (v := 63) d_J6_bitCount_0f7a4_49 (by decide) ?_
  refine zr_iand C d_J6_bitCount_0f7a4_51 ?_
  have eR : o_Int_bitCount x = ((((((((x - ((zshr x 1) &&& 1431655765)) &&& 858993459) + ((zshr (x - ((zshr x 1) &&& 1431655765)) 2) &&& 858993459)) + (zshr (((x - ((zshr x 1) &&& 1431655765)) &&& 858993459) + ((zshr (x - ((zshr x 1) &&& 1431655765)) 2) &&& 858993459)) 4)) &&& 252645135) + (zshr (((((x - ((zshr x 1) &&& 1431655765)) &&& 858993459) + ((zshr (x - ((zshr x 1) &&& 1431655765)) 2) &&& 858993459)) + (zshr (((x - ((zshr x 1) &&& 1431655765)) &&& 858993459) + ((zshr (x - ((zshr x 1) &&& 1431655765)) 2) &&& 858993459)) 4)) &&& 252645135) 8)) + (zshr ((((((x - ((zshr x 1) &&& 1431655765)) &&& 858993459) + ((zshr (x - ((zshr x 1) &&& 1431655765)) 2) &&& 858993459)) + (zshr (((x - ((zshr x 1) &&& 1431655765)) &&& 858993459) + ((zshr (x - ((zshr x 1) &&& 1431655765)) 2) &&& 858993459)) 4)) &&& 252645135) + (zshr (((((x - ((zshr x 1) &&& 1431655765)) &&& 858993459) + ((zshr (x - ((zshr x 1) &&& 1431655765)) 2) &&& 858993459)) + (zshr (((x - ((zshr x 1) &&& 1431655765)) &&& 858993459) + ((zshr (x - ((zshr x 1) &&& 1431655765)) 2) &&& 858993459)) 4)) &&& 252645135) 8)) 16)) &&& 63) := (by unfold o_Int_bitCount; exact rfl)
  subst hQ
  rw [eR]
  exact zr_ireti C d_J6_bitCount_0f7a4_52
theorem d_J6_lowestOneBit_0f7a4_0 : decode prog_10_method_46_code 0 = .ok (.iload_n 0, 1) := by decide +kernel
theorem d_J6_lowestOneBit_0f7a4_1 : decode prog_10_method_46_code 1 = .ok (.iload_n 0, 1) := by decide +kernel
theorem d_J6_lowestOneBit_0f7a4_2 : decode prog_10_method_46_code 2 = .ok (.ineg, 1) := by decide +kernel
theorem d_J6_lowestOneBit_0f7a4_3 : decode prog_10_method_46_code 3 = .ok (.iand, 1) := by decide +kernel
theorem d_J6_lowestOneBit_0f7a4_4 : decode prog_10_method_46_code 4 = .ok (.ireturn, 1) := by decide +kernel
abbrev M_Int_lowestOneBit : zMT := (⟨"java/lang/Integer", "lowestOneBit", "(I)I"⟩, prog_10_method_46_code, 1, (some .int))
theorem k_Int_lowestOneBit : zcall M_Int_lowestOneBit 1 := ⟨zU_in (i := 441) (by decide +kernel) rfl, m64, ⟨by decide, by decide, by decide +kernel⟩, by decide⟩
def o_Int_lowestOneBit (x : Int32) : Int32 :=
  (x &&& (0 - x))
set_option maxHeartbeats 400000 in
set_option maxRecDepth 20000 in
theorem c_Int_lowestOneBit (X : zXT) (h : zHp) (g : zLg) (x : Int32) : zDi X M_Int_lowestOneBit 0 [.int x] h g (zI (o_Int_lowestOneBit x)) h g := by
  refine zDi_of "java/lang/Integer" prog_10_method_46_code 1 (some .int) rfl (by decide) [zI x] rfl (fun _ q => q) (Nat.le_of_ble_eq_true rfl) ?_
  intro Γ Q C hQ
  refine zr_iload_n C d_J6_lowestOneBit_0f7a4_0 rfl ?_
  refine zr_iload_n C d_J6_lowestOneBit_0f7a4_1 rfl ?_
  refine zr_ineg C d_J6_lowestOneBit_0f7a4_2 ?_
  refine zr_iand C d_J6_lowestOneBit_0f7a4_3 ?_
  have eR : o_Int_lowestOneBit x = (x &&& (0 - x)) := (by unfold o_Int_lowestOneBit; exact rfl)
  subst hQ
  rw [eR]
  exact zr_ireti C d_J6_lowestOneBit_0f7a4_4
theorem d_J6_numberOfTrailingZeros_0f7a4_0 : decode prog_10_method_48_code 0 = .ok (.iload_n 0, 1) := by decide +kernel
theorem d_J6_numberOfTrailingZeros_0f7a4_1 : decode prog_10_method_48_code 1 = .ok (.iconst (-1), 1) := by decide +kernel
theorem d_J6_numberOfTrailingZeros_0f7a4_2 : decode prog_10_method_48_code 2 = .ok (.ixor, 1) := by decide +kernel
theorem d_J6_numberOfTrailingZeros_0f7a4_3 : decode prog_10_method_48_code 3 = .ok (.iload_n 0, 1) := by decide +kernel
theorem d_J6_numberOfTrailingZeros_0f7a4_4 : decode prog_10_method_48_code 4 = .ok (.iconst 1, 1) := by decide +kernel
theorem d_J6_numberOfTrailingZeros_0f7a4_5 : decode prog_10_method_48_code 5 = .ok (.isub, 1) := by decide +kernel
theorem d_J6_numberOfTrailingZeros_0f7a4_6 : decode prog_10_method_48_code 6 = .ok (.iand, 1) := by decide +kernel
theorem d_J6_numberOfTrailingZeros_0f7a4_7 : decode prog_10_method_48_code 7 = .ok (.istore_n 0, 1) := by decide +kernel
theorem d_J6_numberOfTrailingZeros_0f7a4_8 : decode prog_10_method_48_code 8 = .ok (.iload_n 0, 1) := by decide +kernel
theorem d_J6_numberOfTrailingZeros_0f7a4_9 : decode prog_10_method_48_code 9 = .ok (.ifCond .gt 8, 3) := by decide +kernel
theorem d_J6_numberOfTrailingZeros_0f7a4_12 : decode prog_10_method_48_code 12 = .ok (.iload_n 0, 1) := by decide +kernel
theorem d_J6_numberOfTrailingZeros_0f7a4_13 : decode prog_10_method_48_code 13 = .ok (.bipush 32, 2) := by decide +kernel
theorem d_J6_numberOfTrailingZeros_0f7a4_15 : decode prog_10_method_48_code 15 = .ok (.iand, 1) := by decide +kernel
theorem d_J6_numberOfTrailingZeros_0f7a4_16 : decode prog_10_method_48_code 16 = .ok (.ireturn, 1) := by decide +kernel
theorem d_J6_numberOfTrailingZeros_0f7a4_17 : decode prog_10_method_48_code 17 = .ok (.iconst 1, 1) := by decide +kernel
theorem d_J6_numberOfTrailingZeros_0f7a4_18 : decode prog_10_method_48_code 18 = .ok (.istore_n 1, 1) := by decide +kernel
theorem d_J6_numberOfTrailingZeros_0f7a4_19 : decode prog_10_method_48_code 19 = .ok (.iload_n 0, 1) := by decide +kernel
theorem d_J6_numberOfTrailingZeros_0f7a4_20 : decode prog_10_method_48_code 20 = .ok (.ldc_w 264, 3) := by decide +kernel
theorem d_J6_numberOfTrailingZeros_0f7a4_23 : decode prog_10_method_48_code 23 = .ok (.if_icmp .le 11, 3) := by decide +kernel
theorem d_J6_numberOfTrailingZeros_0f7a4_26 : decode prog_10_method_48_code 26 = .ok (.iinc 1 16, 3) := by decide +kernel
theorem d_J6_numberOfTrailingZeros_0f7a4_29 : decode prog_10_method_48_code 29 = .ok (.iload_n 0, 1) := by decide +kernel
theorem d_J6_numberOfTrailingZeros_0f7a4_30 : decode prog_10_method_48_code 30 = .ok (.bipush 16, 2) := by decide +kernel
theorem d_J6_numberOfTrailingZeros_0f7a4_32 : decode prog_10_method_48_code 32 = .ok (.iushr, 1) := by decide +kernel
theorem d_J6_numberOfTrailingZeros_0f7a4_33 : decode prog_10_method_48_code 33 = .ok (.istore_n 0, 1) := by decide +kernel
theorem d_J6_numberOfTrailingZeros_0f7a4_34 : decode prog_10_method_48_code 34 = .ok (.iload_n 0, 1) := by decide +kernel
theorem d_J6_numberOfTrailingZeros_0f7a4_35 : decode prog_10_method_48_code 35 = .ok (.sipush 256, 3) := by decide +kernel
theorem d_J6_numberOfTrailingZeros_0f7a4_38 : decode prog_10_method_48_code 38 = .ok (.if_icmp .le 11, 3) := by decide +kernel
theorem d_J6_numberOfTrailingZeros_0f7a4_41 : decode prog_10_method_48_code 41 = .ok (.iinc 1 8, 3) := by decide +kernel
theorem d_J6_numberOfTrailingZeros_0f7a4_44 : decode prog_10_method_48_code 44 = .ok (.iload_n 0, 1) := by decide +kernel
theorem d_J6_numberOfTrailingZeros_0f7a4_45 : decode prog_10_method_48_code 45 = .ok (.bipush 8, 2) := by decide +kernel
theorem d_J6_numberOfTrailingZeros_0f7a4_47 : decode prog_10_method_48_code 47 = .ok (.iushr, 1) := by decide +kernel
theorem d_J6_numberOfTrailingZeros_0f7a4_48 : decode prog_10_method_48_code 48 = .ok (.istore_n 0, 1) := by decide +kernel
theorem d_J6_numberOfTrailingZeros_0f7a4_49 : decode prog_10_method_48_code 49 = .ok (.iload_n 0, 1) := by decide +kernel
theorem d_J6_numberOfTrailingZeros_0f7a4_50 : decode prog_10_method_48_code 50 = .ok (.bipush 16, 2) := by decide +kernel
theorem d_J6_numberOfTrailingZeros_0f7a4_52 : decode prog_10_method_48_code 52 = .ok (.if_icmp .le 10, 3) := by decide +kernel
theorem d_J6_numberOfTrailingZeros_0f7a4_55 : decode prog_10_method_48_code 55 = .ok (.iinc 1 4, 3) := by decide +kernel
theorem d_J6_numberOfTrailingZeros_0f7a4_58 : decode prog_10_method_48_code 58 = .ok (.iload_n 0, 1) := by decide +kernel
theorem d_J6_numberOfTrailingZeros_0f7a4_59 : decode prog_10_method_48_code 59 = .ok (.iconst 4, 1) := by decide +kernel
theorem d_J6_numberOfTrailingZeros_0f7a4_60 : decode prog_10_method_48_code 60 = .ok (.iushr, 1) := by decide +kernel
theorem d_J6_numberOfTrailingZeros_0f7a4_61 : decode prog_10_method_48_code 61 = .ok (.istore_n 0, 1) := by decide +kernel
theorem d_J6_numberOfTrailingZeros_0f7a4_62 : decode prog_10_method_48_code 62 = .ok (.iload_n 0, 1) := by decide +kernel
theorem d_J6_numberOfTrailingZeros_0f7a4_63 : decode prog_10_method_48_code 63 = .ok (.iconst 4, 1) := by decide +kernel
theorem d_J6_numberOfTrailingZeros_0f7a4_64 : decode prog_10_method_48_code 64 = .ok (.if_icmp .le 10, 3) := by decide +kernel
theorem d_J6_numberOfTrailingZeros_0f7a4_67 : decode prog_10_method_48_code 67 = .ok (.iinc 1 2, 3) := by decide +kernel
theorem d_J6_numberOfTrailingZeros_0f7a4_70 : decode prog_10_method_48_code 70 = .ok (.iload_n 0, 1) := by decide +kernel
theorem d_J6_numberOfTrailingZeros_0f7a4_71 : decode prog_10_method_48_code 71 = .ok (.iconst 2, 1) := by decide +kernel
theorem d_J6_numberOfTrailingZeros_0f7a4_72 : decode prog_10_method_48_code 72 = .ok (.iushr, 1) := by decide +kernel
theorem d_J6_numberOfTrailingZeros_0f7a4_73 : decode prog_10_method_48_code 73 = .ok (.istore_n 0, 1) := by decide +kernel
theorem d_J6_numberOfTrailingZeros_0f7a4_74 : decode prog_10_method_48_code 74 = .ok (.iload_n 1, 1) := by decide +kernel
theorem d_J6_numberOfTrailingZeros_0f7a4_75 : decode prog_10_method_48_code 75 = .ok (.iload_n 0, 1) := by decide +kernel
theorem d_J6_numberOfTrailingZeros_0f7a4_76 : decode prog_10_method_48_code 76 = .ok (.iconst 1, 1) := by decide +kernel
theorem d_J6_numberOfTrailingZeros_0f7a4_77 : decode prog_10_method_48_code 77 = .ok (.iushr, 1) := by decide +kernel
theorem d_J6_numberOfTrailingZeros_0f7a4_78 : decode prog_10_method_48_code 78 = .ok (.iadd, 1) := by decide +kernel
theorem d_J6_numberOfTrailingZeros_0f7a4_79 : decode prog_10_method_48_code 79 = .ok (.ireturn, 1) := by decide +kernel
abbrev M_Int_numberOfTrailingZeros : zMT := (⟨"java/lang/Integer", "numberOfTrailingZeros", "(I)I"⟩, prog_10_method_48_code, 2, (some .int))
theorem k_Int_numberOfTrailingZeros : zcall M_Int_numberOfTrailingZeros 1 := ⟨zU_in (i := 474) (by decide +kernel) rfl, m64, ⟨by decide, by decide, by decide +kernel⟩, by decide⟩
def o_Int_numberOfTrailingZeros (x : Int32) : Int32 :=
  (if 0 < ((x ^^^ (-1)) &&& (x - 1)) then ((if (if (if (if ((x ^^^ (-1)) &&& (x - 1)) ≤ 65536 then ((x ^^^ (-1)) &&& (x - 1)) else (zshr ((x ^^^ (-1)) &&& (x - 1)) 16)) ≤ 256 then (if ((x ^^^ (-1)) &&& (x - 1)) ≤ 65536 then ((x ^^^ (-1)) &&& (x - 1)) else (zshr ((x ^^^ (-1)) &&& (x - 1)) 16)) else (zshr (if ((x ^^^ (-1)) &&& (x - 1)) ≤ 65536 then ((x ^^^ (-1)) &&& (x - 1)) else (zshr ((x ^^^ (-1)) &&& (x - 1)) 16)) 8)) ≤ 16 then (if (if ((x ^^^ (-1)) &&& (x - 1)) ≤ 65536 then ((x ^^^ (-1)) &&& (x - 1)) else (zshr ((x ^^^ (-1)) &&& (x - 1)) 16)) ≤ 256 then (if ((x ^^^ (-1)) &&& (x - 1)) ≤ 65536 then ((x ^^^ (-1)) &&& (x - 1)) else (zshr ((x ^^^ (-1)) &&& (x - 1)) 16)) else (zshr (if ((x ^^^ (-1)) &&& (x - 1)) ≤ 65536 then ((x ^^^ (-1)) &&& (x - 1)) else (zshr ((x ^^^ (-1)) &&& (x - 1)) 16)) 8)) else (zshr (if (if ((x ^^^ (-1)) &&& (x - 1)) ≤ 65536 then ((x ^^^ (-1)) &&& (x - 1)) else (zshr ((x ^^^ (-1)) &&& (x - 1)) 16)) ≤ 256 then (if ((x ^^^ (-1)) &&& (x - 1)) ≤ 65536 then ((x ^^^ (-1)) &&& (x - 1)) else (zshr ((x ^^^ (-1)) &&& (x - 1)) 16)) else (zshr (if ((x ^^^ (-1)) &&& (x - 1)) ≤ 65536 then ((x ^^^ (-1)) &&& (x - 1)) else (zshr ((x ^^^ (-1)) &&& (x - 1)) 16)) 8)) 4)) ≤ 4 then (if (if (if ((x ^^^ (-1)) &&& (x - 1)) ≤ 65536 then ((x ^^^ (-1)) &&& (x - 1)) else (zshr ((x ^^^ (-1)) &&& (x - 1)) 16)) ≤ 256 then (if ((x ^^^ (-1)) &&& (x - 1)) ≤ 65536 then ((x ^^^ (-1)) &&& (x - 1)) else (zshr ((x ^^^ (-1)) &&& (x - 1)) 16)) else (zshr (if ((x ^^^ (-1)) &&& (x - 1)) ≤ 65536 then ((x ^^^ (-1)) &&& (x - 1)) else (zshr ((x ^^^ (-1)) &&& (x - 1)) 16)) 8)) ≤ 16 then (if (if ((x ^^^ (-1)) &&& (x - 1)) ≤ 65536 then ((x ^^^ (-1)) &&& (x - 1)) else (zshr ((x ^^^ (-1)) &&& (x - 1)) 16)) ≤ 256 then (if ((x ^^^ (-1)) &&& (x - 1)) ≤ 65536 then 1 else (nI (17))) else ((if ((x ^^^ (-1)) &&& (x - 1)) ≤ 65536 then 1 else (nI (17))) + 8)) else ((if (if ((x ^^^ (-1)) &&& (x - 1)) ≤ 65536 then ((x ^^^ (-1)) &&& (x - 1)) else (zshr ((x ^^^ (-1)) &&& (x - 1)) 16)) ≤ 256 then (if ((x ^^^ (-1)) &&& (x - 1)) ≤ 65536 then 1 else (nI (17))) else ((if ((x ^^^ (-1)) &&& (x - 1)) ≤ 65536 then 1 else (nI (17))) + 8)) + 4)) else ((if (if (if ((x ^^^ (-1)) &&& (x - 1)) ≤ 65536 then ((x ^^^ (-1)) &&& (x - 1)) else (zshr ((x ^^^ (-1)) &&& (x - 1)) 16)) ≤ 256 then (if ((x ^^^ (-1)) &&& (x - 1)) ≤ 65536 then ((x ^^^ (-1)) &&& (x - 1)) else (zshr ((x ^^^ (-1)) &&& (x - 1)) 16)) else (zshr (if ((x ^^^ (-1)) &&& (x - 1)) ≤ 65536 then ((x ^^^ (-1)) &&& (x - 1)) else (zshr ((x ^^^ (-1)) &&& (x - 1)) 16)) 8)) ≤ 16 then (if (if ((x ^^^ (-1)) &&& (x - 1)) ≤ 65536 then ((x ^^^ (-1)) &&& (x - 1)) else (zshr ((x ^^^ (-1)) &&& (x - 1)) 16)) ≤ 256 then (if ((x ^^^ (-1)) &&& (x - 1)) ≤ 65536 then 1 else (nI (17))) else ((if ((x ^^^ (-1)) &&& (x - 1)) ≤ 65536 then 1 else (nI (17))) + 8)) else ((if (if ((x ^^^ (-1)) &&& (x - 1)) ≤ 65536 then ((x ^^^ (-1)) &&& (x - 1)) else (zshr ((x ^^^ (-1)) &&& (x - 1)) 16)) ≤ 256 then (if ((x ^^^ (-1)) &&& (x - 1)) ≤ 65536 then 1 else (nI (17))) else ((if ((x ^^^ (-1)) &&& (x - 1)) ≤ 65536 then 1 else (nI (17))) + 8)) + 4)) + 2)) + (zshr (if (if (if (if ((x ^^^ (-1)) &&& (x - 1)) ≤ 65536 then ((x ^^^ (-1)) &&& (x - 1)) else (zshr ((x ^^^ (-1)) &&& (x - 1)) 16)) ≤ 256 then (if ((x ^^^ (-1)) &&& (x - 1)) ≤ 65536 then ((x ^^^ (-1)) &&& (x - 1)) else (zshr ((x ^^^ (-1)) &&& (x - 1)) 16)) else (zshr (if ((x ^^^ (-1)) &&& (x - 1)) ≤ 65536 then ((x ^^^ (-1)) &&& (x - 1)) else (zshr ((x ^^^ (-1)) &&& (x - 1)) 16)) 8)) ≤ 16 then (if (if ((x ^^^ (-1)) &&& (x - 1)) ≤ 65536 then ((x ^^^ (-1)) &&& (x - 1)) else (zshr ((x ^^^ (-1)) &&& (x - 1)) 16)) ≤ 256 then (if ((x ^^^ (-1)) &&& (x - 1)) ≤ 65536 then ((x ^^^ (-1)) &&& (x - 1)) else (zshr ((x ^^^ (-1)) &&& (x - 1)) 16)) else (zshr (if ((x ^^^ (-1)) &&& (x - 1)) ≤ 65536 then ((x ^^^ (-1)) &&& (x - 1)) else (zshr ((x ^^^ (-1)) &&& (x - 1)) 16)) 8)) else (zshr (if (if ((x ^^^ (-1)) &&& (x - 1)) ≤ 65536 then ((x ^^^ (-1)) &&& (x - 1)) else (zshr ((x ^^^ (-1)) &&& (x - 1)) 16)) ≤ 256 then (if ((x ^^^ (-1)) &&& (x - 1)) ≤ 65536 then ((x ^^^ (-1)) &&& (x - 1)) else (zshr ((x ^^^ (-1)) &&& (x - 1)) 16)) else (zshr (if ((x ^^^ (-1)) &&& (x - 1)) ≤ 65536 then ((x ^^^ (-1)) &&& (x - 1)) else (zshr ((x ^^^ (-1)) &&& (x - 1)) 16)) 8)) 4)) ≤ 4 then (if (if (if ((x ^^^ (-1)) &&& (x - 1)) ≤ 65536 then ((x ^^^ (-1)) &&& (x - 1)) else (zshr ((x ^^^ (-1)) &&& (x - 1)) 16)) ≤ 256 then (if ((x ^^^ (-1)) &&& (x - 1)) ≤ 65536 then ((x ^^^ (-1)) &&& (x - 1)) else (zshr ((x ^^^ (-1)) &&& (x - 1)) 16)) else (zshr (if ((x ^^^ (-1)) &&& (x - 1)) ≤ 65536 then ((x ^^^ (-1)) &&& (x - 1)) else (zshr ((x ^^^ (-1)) &&& (x - 1)) 16)) 8)) ≤ 16 then (if (if ((x ^^^ (-1)) &&& (x - 1)) ≤ 65536 then ((x ^^^ (-1)) &&& (x - 1)) else (zshr ((x ^^^ (-1)) &&& (x - 1)) 16)) ≤ 256 then (if ((x ^^^ (-1)) &&& (x - 1)) ≤ 65536 then ((x ^^^ (-1)) &&& (x - 1)) else (zshr ((x ^^^ (-1)) &&& (x - 1)) 16)) else (zshr (if ((x ^^^ (-1)) &&& (x - 1)) ≤ 65536 then ((x ^^^ (-1)) &&& (x - 1)) else (zshr ((x ^^^ (-1)) &&& (x - 1)) 16)) 8)) else (zshr (if (if ((x ^^^ (-1)) &&& (x - 1)) ≤ 65536 then ((x ^^^ (-1)) &&& (x - 1)) else (zshr ((x ^^^ (-1)) &&& (x - 1)) 16)) ≤ 256 then (if ((x ^^^ (-1)) &&& (x - 1)) ≤ 65536 then ((x ^^^ (-1)) &&& (x - 1)) else (zshr ((x ^^^ (-1)) &&& (x - 1)) 16)) else (zshr (if ((x ^^^ (-1)) &&& (x - 1)) ≤ 65536 then ((x ^^^ (-1)) &&& (x - 1)) else (zshr ((x ^^^ (-1)) &&& (x - 1)) 16)) 8)) 4)) else (zshr (if (if (if ((x ^^^ (-1)) &&& (x - 1)) ≤ 65536 then ((x ^^^ (-1)) &&& (x - 1)) else (zshr ((x ^^^ (-1)) &&& (x - 1)) 16)) ≤ 256 then (if ((x ^^^ (-1)) &&& (x - 1)) ≤ 65536 then ((x ^^^ (-1)) &&& (x - 1)) else (zshr ((x ^^^ (-1)) &&& (x - 1)) 16)) else (zshr (if ((x ^^^ (-1)) &&& (x - 1)) ≤ 65536 then ((x ^^^ (-1)) &&& (x - 1)) else (zshr ((x ^^^ (-1)) &&& (x - 1)) 16)) 8)) ≤ 16 then (if (if ((x ^^^ (-1)) &&& (x - 1)) ≤ 65536 then ((x ^^^ (-1)) &&& (x - 1)) else (zshr ((x ^^^ (-1)) &&& (x - 1)) 16)) ≤ 256 then (if ((x ^^^ (-1)) &&& (x - 1)) ≤ 65536 then ((x ^^^ (-1)) &&& (x - 1)) else (zshr ((x ^^^ (-1)) &&& (x - 1)) 16)) else (zshr (if ((x ^^^ (-1)) &&& (x - 1)) ≤ 65536 then ((x ^^^ (-1)) &&& (x - 1)) else (zshr ((x ^^^ (-1)) &&& (x - 1)) 16)) 8)) else (zshr (if (if ((x ^^^ (-1)) &&& (x - 1)) ≤ 65536 then ((x ^^^ (-1)) &&& (x - 1)) else (zshr ((x ^^^ (-1)) &&& (x - 1)) 16)) ≤ 256 then (if ((x ^^^ (-1)) &&& (x - 1)) ≤ 65536 then ((x ^^^ (-1)) &&& (x - 1)) else (zshr ((x ^^^ (-1)) &&& (x - 1)) 16)) else (zshr (if ((x ^^^ (-1)) &&& (x - 1)) ≤ 65536 then ((x ^^^ (-1)) &&& (x - 1)) else (zshr ((x ^^^ (-1)) &&& (x - 1)) 16)) 8)) 4)) 2)) 1)) else (((x ^^^ (-1)) &&& (x - 1)) &&& 32))
set_option maxHeartbeats 400000 in
set_option maxRecDepth 20000 in
theorem c_Int_numberOfTrailingZeros (X : zXT) (h : zHp) (g : zLg) (x : Int32) : zDi X M_Int_numberOfTrailingZeros 0 [.int x] h g (zI (o_Int_numberOfTrailingZeros x)) h g := by
  refine zDi_of "java/lang/Integer" prog_10_method_48_code 2 (some .int) rfl (by decide) [zI x, none] rfl (fun _ q => q) (Nat.le_of_ble_eq_true rfl) ?_
  intro Γ Q C hQ
  refine zr_iload_n C d_J6_numberOfTrailingZeros_0f7a4_0 rfl ?_
  refine zr_iconst C (v := (-1)) d_J6_numberOfTrailingZeros_0f7a4_1 (by decide) ?_
  refine zr_ixor C d_J6_numberOfTrailingZeros_0f7a4_2 ?_
  refine zr_iload_n C d_J6_numberOfTrailingZeros_0f7a4_3 rfl ?_
  refine zr_iconst C (v := 1) d_J6_numberOfTrailingZeros_0f7a4_4 (by decide) ?_
  refine zr_isub C d_J6_numberOfTrailingZeros_0f7a4_5 ?_
  refine zr_iand C d_J6_numberOfTrailingZeros_0f7a4_6 ?_
  refine zr_istore_n C [zI ((x ^^^ (-1)) &&& (x - 1)), none] d_J6_numberOfTrailingZeros_0f7a4_7 (Nat.le_of_ble_eq_true rfl) rfl rfl ?_
  refine zr_iload_n C d_J6_numberOfTrailingZeros_0f7a4_8 rfl ?_
  refine zr_if_gt C 17 d_J6_numberOfTrailingZeros_0f7a4_9 (by decide) (fun c9 => ?_) (fun c9 => ?_)
  · refine zr_iconst C (v := 1) d_J6_numberOfTrailingZeros_0f7a4_17 (by decide) ?_
    refine zr_istore_n C [zI ((x ^^^ (-1)) &&& (x - 1)), zI 1] d_J6_numberOfTrailingZeros_0f7a4_18 (Nat.le_of_ble_eq_true rfl) rfl rfl ?_
    refine zr_iload_n C d_J6_numberOfTrailingZeros_0f7a4_19 rfl ?_
    refine zr_ldcw C (v := 65536) m475 d_J6_numberOfTrailingZeros_0f7a4_20 ?_
    suffices hJ23 : ∀ (y1 : Int32) (y2 : Int32), (if ((x ^^^ (-1)) &&& (x - 1)) ≤ 65536 then ((x ^^^ (-1)) &&& (x - 1)) else (zshr ((x ^^^ (-1)) &&& (x - 1)) 16)) = y1 → (if ((x ^^^ (-1)) &&& (x - 1)) ≤ 65536 then 1 else (nI (17))) = y2 → zV X Γ Q 34 [zI y1, zI y2] [] h g by
      refine zr_icmp_le C 34 d_J6_numberOfTrailingZeros_0f7a4_23 (by decide) (fun c23 => ?_) (fun c23 => ?_)
      · exact hJ23 ((x ^^^ (-1)) &&& (x - 1)) 1 (((if_pos c23))) (((if_pos c23)))
      · refine zr_iinc C [zI ((x ^^^ (-1)) &&& (x - 1)), zI (nI (17))] (v := (nI (17))) d_J6_numberOfTrailingZeros_0f7a4_26 rfl (zn_add rfl rfl) (Nat.le_of_ble_eq_true rfl) rfl rfl ?_
        refine zr_iload_n C d_J6_numberOfTrailingZeros_0f7a4_29 rfl ?_
        refine zr_bipush C (v := 16) d_J6_numberOfTrailingZeros_0f7a4_30 (by decide) ?_
        refine zr_iushr C d_J6_numberOfTrailingZeros_0f7a4_32 ?_
        refine zr_istore_n C [zI (zshr ((x ^^^ (-1)) &&& (x - 1)) 16), zI (nI (17))] d_J6_numberOfTrailingZeros_0f7a4_33 (Nat.le_of_ble_eq_true rfl) rfl rfl ?_
        exact hJ23 (zshr ((x ^^^ (-1)) &&& (x - 1)) 16) (nI (17)) (((if_neg c23))) (((if_neg c23)))
    intro y1 y2 ey1 ey2
    refine zr_iload_n C d_J6_numberOfTrailingZeros_0f7a4_34 rfl ?_
    refine zr_sipush C (v := 256) d_J6_numberOfTrailingZeros_0f7a4_35 (by decide) ?_
    suffices hJ38 : ∀ (y3 : Int32) (y4 : Int32), (if y1 ≤ 256 then y1 else (zshr y1 8)) = y3 → (if y1 ≤ 256 then y2 else (y2 + 8)) = y4 → zV X Γ Q 49 [zI y3, zI y4] [] h g by
      refine zr_icmp_le C 49 d_J6_numberOfTrailingZeros_0f7a4_38 (by decide) (fun c38 => ?_) (fun c38 => ?_)
      · exact hJ38 y1 y2 (((if_pos c38))) (((if_pos c38)))
      · refine zr_iinc C [zI y1, zI (y2 + 8)] (v := (y2 + 8)) d_J6_numberOfTrailingZeros_0f7a4_41 rfl rfl (Nat.le_of_ble_eq_true rfl) rfl rfl ?_
        refine zr_iload_n C d_J6_numberOfTrailingZeros_0f7a4_44 rfl ?_
        refine zr_bipush C (v := 8) d_J6_numberOfTrailingZeros_0f7a4_45 (by decide) ?_
        refine zr_iushr C d_J6_numberOfTrailingZeros_0f7a4_47 ?_
        refine zr_istore_n C [zI (zshr y1 8), zI (y2 + 8)] d_J6_numberOfTrailingZeros_0f7a4_48 (Nat.le_of_ble_eq_true rfl) rfl rfl ?_
        exact hJ38 (zshr y1 8) (y2 + 8) (((if_neg c38))) (((if_neg c38)))
    intro y3 y4 ey3 ey4
    refine zr_iload_n C d_J6_numberOfTrailingZeros_0f7a4_49 rfl ?_
    refine zr_bipush C (v := 16) d_J6_numberOfTrailingZeros_0f7a4_50 (by decide) ?_
    suffices hJ52 : ∀ (y5 : Int32) (y6 : Int32), (if y3 ≤ 16 then y3 else (zshr y3 4)) = y5 → (if y3 ≤ 16 then y4 else (y4 + 4)) = y6 → zV X Γ Q 62 [zI y5, zI y6] [] h g by
      refine zr_icmp_le C 62 d_J6_numberOfTrailingZeros_0f7a4_52 (by decide) (fun c52 => ?_) (fun c52 => ?_)
      · exact hJ52 y3 y4 (((if_pos c52))) (((if_pos c52)))
      · refine zr_iinc C [zI y3, zI (y4 + 4)] (v := (y4 + 4)) d_J6_numberOfTrailingZeros_0f7a4_55 rfl rfl (Nat.le_of_ble_eq_true rfl) rfl rfl ?_
        refine zr_iload_n C d_J6_numberOfTrailingZeros_0f7a4_58 rfl ?_
        refine zr_iconst C (v := 4) d_J6_numberOfTrailingZeros_0f7a4_59 (by decide) ?_
        refine zr_iushr C d_J6_numberOfTrailingZeros_0f7a4_60 ?_
        refine zr_istore_n C [zI (zshr y3 4), zI (y4 + 4)] d_J6_numberOfTrailingZeros_0f7a4_61 (Nat.le_of_ble_eq_true rfl) rfl rfl ?_
        exact hJ52 (zshr y3 4) (y4 + 4) (((if_neg c52))) (((if_neg c52)))
    intro y5 y6 ey5 ey6
    refine zr_iload_n C d_J6_numberOfTrailingZeros_0f7a4_62 rfl ?_
    refine zr_iconst C (v := 4) d_J6_numberOfTrailingZeros_0f7a4_63 (by decide) ?_
    suffices hJ64 : ∀ (y7 : Int32) (y8 : Int32), (if y5 ≤ 4 then y5 else (zshr y5 2)) = y7 → (if y5 ≤ 4 then y6 else (y6 + 2)) = y8 → zV X Γ Q 74 [zI y7, zI y8] [] h g by
      refine zr_icmp_le C 74 d_J6_numberOfTrailingZeros_0f7a4_64 (by decide) (fun c64 => ?_) (fun c64 => ?_)
      · exact hJ64 y5 y6 (((if_pos c64))) (((if_pos c64)))
      · refine zr_iinc C [zI y5, zI (y6 + 2)] (v := (y6 + 2)) d_J6_numberOfTrailingZeros_0f7a4_67 rfl rfl (Nat.le_of_ble_eq_true rfl) rfl rfl ?_
        refine zr_iload_n C d_J6_numberOfTrailingZeros_0f7a4_70 rfl ?_
        refine zr_iconst C (v := 2) d_J6_numberOfTrailingZeros_0f7a4_71 (by decide) ?_
        refine zr_iushr C d_J6_numberOfTrailingZeros_0f7a4_72 ?_
        refine zr_istore_n C [zI (zshr y5 2), zI (y6 + 2)] d_J6_numberOfTrailingZeros_0f7a4_73 (Nat.le_of_ble_eq_true rfl) rfl rfl ?_
        exact hJ64 (zshr y5 2) (y6 + 2) (((if_neg c64))) (((if_neg c64)))
    intro y7 y8 ey7 ey8
    refine zr_iload_n C d_J6_numberOfTrailingZeros_0f7a4_74 rfl ?_
    refine zr_iload_n C d_J6_numberOfTrailingZeros_0f7a4_75 rfl ?_
    refine zr_iconst C (v := 1) d_J6_numberOfTrailingZeros_0f7a4_76 (by decide) ?_
    refine zr_iushr C d_J6_numberOfTrailingZeros_0f7a4_77 ?_
    refine zr_iadd C d_J6_numberOfTrailingZeros_0f7a4_78 ?_
    have eR : o_Int_numberOfTrailingZeros x = (y8 + (zshr y7 1)) := (by subst ey8 ey7 ey6 ey5 ey4 ey3 ey2 ey1; unfold o_Int_numberOfTrailingZeros; rw [if_pos c9])
    subst hQ
    rw [eR]
    exact zr_ireti C d_J6_numberOfTrailingZeros_0f7a4_79
  · refine zr_iload_n C d_J6_numberOfTrailingZeros_0f7a4_12 rfl ?_
    refine zr_bipush C (v := 32) d_J6_numberOfTrailingZeros_0f7a4_13 (by decide) ?_
    refine zr_iand C d_J6_numberOfTrailingZeros_0f7a4_15 ?_
    have eR : o_Int_numberOfTrailingZeros x = (((x ^^^ (-1)) &&& (x - 1)) &&& 32) := (by unfold o_Int_numberOfTrailingZeros; rw [if_neg c9])
    subst hQ
    rw [eR]
    exact zr_ireti C d_J6_numberOfTrailingZeros_0f7a4_16
theorem d_J7_fill_53178_0 : decode prog_13_method_103_code 0 = .ok (.iconst 0, 1) := by decide +kernel
theorem d_J7_fill_53178_1 : decode prog_13_method_103_code 1 = .ok (.istore_n 2, 1) := by decide +kernel
theorem d_J7_fill_53178_2 : decode prog_13_method_103_code 2 = .ok (.aload_n 0, 1) := by decide +kernel
theorem d_J7_fill_53178_3 : decode prog_13_method_103_code 3 = .ok (.arraylength, 1) := by decide +kernel
theorem d_J7_fill_53178_4 : decode prog_13_method_103_code 4 = .ok (.istore_n 3, 1) := by decide +kernel
theorem d_J7_fill_53178_5 : decode prog_13_method_103_code 5 = .ok (.iload_n 2, 1) := by decide +kernel
theorem d_J7_fill_53178_6 : decode prog_13_method_103_code 6 = .ok (.iload_n 3, 1) := by decide +kernel
theorem d_J7_fill_53178_7 : decode prog_13_method_103_code 7 = .ok (.if_icmp .ge 13, 3) := by decide +kernel
theorem d_J7_fill_53178_10 : decode prog_13_method_103_code 10 = .ok (.aload_n 0, 1) := by decide +kernel
theorem d_J7_fill_53178_11 : decode prog_13_method_103_code 11 = .ok (.iload_n 2, 1) := by decide +kernel
theorem d_J7_fill_53178_12 : decode prog_13_method_103_code 12 = .ok (.iload_n 1, 1) := by decide +kernel
theorem d_J7_fill_53178_13 : decode prog_13_method_103_code 13 = .ok (.iastore, 1) := by decide +kernel
theorem d_J7_fill_53178_14 : decode prog_13_method_103_code 14 = .ok (.iinc 2 1, 3) := by decide +kernel
theorem d_J7_fill_53178_17 : decode prog_13_method_103_code 17 = .ok (.goto (-12), 3) := by decide +kernel
theorem d_J7_fill_53178_20 : decode prog_13_method_103_code 20 = .ok (.return_, 1) := by decide +kernel
abbrev M_Arr_fill : zMT := (⟨"java/util/Arrays", "fill", "([II)V"⟩, prog_13_method_103_code, 4, none)
theorem k_Arr_fill : zcall M_Arr_fill 2 := ⟨zU_in (i := 304) (by decide +kernel) rfl, m63, ⟨by decide, by decide, by decide +kernel⟩, by decide⟩
def o_Arr_fill (h : zHp) (a : Nat) (x : Int32) : zHp :=
  (zrep (fun (i5_1 : Nat) (s5_1 : zHp) => (zup s5_1 a i5_1 x)) h 8)
theorem fr_Arr_fill {h : zHp} {a : Nat} {x : Int32} (c k : Nat) (q0 : c ≠ a) : (o_Arr_fill h a x) c k = h c k := by
  unfold o_Arr_fill
  have hI5_1 := zrep_inv (f := (fun (i5_1 : Nat) (s5_1 : zHp) => (zup s5_1 a i5_1 x))) (a := h) (fun _ s5_1 => ∀ c k : Nat, c ≠ a → s5_1 c k = h c k) (8) (fun _ _ _ => rfl) (fun i5_1 s5_1 hi5_1 hI5_1 => (fun c k q0 => (by (try dsimp only); exact ((zup_fr (Or.inl (by assumption))).trans (hI5_1 _ _ (by assumption))))))
  first | done | exact (hI5_1 _ _ (by assumption))
set_option maxHeartbeats 400000 in
set_option maxRecDepth 20000 in
theorem c_Arr_fill (X : zXT) (h : zHp) (g : zLg) (a : Nat) (x : Int32) (ha : zar a 8) : zDi X M_Arr_fill 0 [zR X a, .int x] h g none (o_Arr_fill h a x) g := by
  refine zDi_of "java/util/Arrays" prog_13_method_103_code 4 none rfl (by decide) [zO X a, zI x, none, none] rfl (fun _ q => q) (Nat.le_of_ble_eq_true rfl) ?_
  intro Γ Q C hQ
  refine zr_iconst C (v := 0) d_J7_fill_53178_0 (by decide) ?_
  refine zr_istore_n C [zO X a, zI x, zI 0, none] d_J7_fill_53178_1 (Nat.le_of_ble_eq_true rfl) rfl rfl ?_
  refine zr_aload_n C d_J7_fill_53178_2 rfl ?_
  refine zr_alen C ha d_J7_fill_53178_3 ?_
  refine zr_istore_n C [zO X a, zI x, zI 0, zI (nI 8)] d_J7_fill_53178_4 (Nat.le_of_ble_eq_true rfl) rfl rfl ?_
  refine zfor (f := (fun (i5_1 : Nat) (s5_1 : zHp) => (zup s5_1 a i5_1 x))) (a := h) (fun i5_1 s5_1 => zV X Γ Q 5 [zO X a, zI x, zI (nI i5_1), zI (nI 8)] [] s5_1 g) (fun _ s5_1 => ∀ c k : Nat, c ≠ a → s5_1 c k = h c k) (8) (fun _ _ _ => rfl) (fun i5_1 s5_1 hi5_1 hI5_1 => ⟨(fun c k q0 => (by (try dsimp only); exact ((zup_fr (Or.inl (by assumption))).trans (hI5_1 _ _ (by assumption))))), fun hk5_1 => ?_⟩) (fun r5_1 er5_1 hI5_1 => ?_)
  · refine zr_iload_n C d_J7_fill_53178_5 rfl ?_
    refine zr_iload_n C d_J7_fill_53178_6 rfl ?_
    refine zr_icmp_ge C 20 d_J7_fill_53178_7 (by decide) (fun c => absurd c (zge_noN (B := 8) rfl (by omega) (by omega))) (fun _ => ?_)
    refine zr_aload_n C d_J7_fill_53178_10 rfl ?_
    refine zr_iload_n C d_J7_fill_53178_11 rfl ?_
    refine zr_iload_n C d_J7_fill_53178_12 rfl ?_
    refine zr_iast C ha (i5_1) rfl (by omega) (by decide) d_J7_fill_53178_13 ?_
    refine zr_h (fun h2 eh2 => ?_)
    refine zr_iinc C [zO X a, zI x, zI (nI (i5_1 + 1)), zI (nI 8)] (v := (nI (i5_1 + 1))) d_J7_fill_53178_14 rfl (zn_add rfl rfl) (Nat.le_of_ble_eq_true rfl) rfl rfl ?_
    refine zr_goto C 5 d_J7_fill_53178_17 (by decide) ?_
    exact hk5_1 h2 (by subst eh2; exact rfl)
  refine zr_iload_n C d_J7_fill_53178_5 rfl ?_
  refine zr_iload_n C d_J7_fill_53178_6 rfl ?_
  refine zr_icmp_ge C 20 d_J7_fill_53178_7 (by decide) (fun _ => ?_) (fun c => absurd (zge_yesN (B := 8) rfl (by omega) (by omega)) c)
  have eR : o_Arr_fill h a x = r5_1 := (by subst er5_1; unfold o_Arr_fill; exact rfl)
  subst hQ
  rw [eR]
  exact zr_vret C d_J7_fill_53178_20
theorem d_X6_has_0 : decode prog_1_method_42_code 0 = .ok (.iload_n 0, 1) := by decide +kernel
theorem d_X6_has_1 : decode prog_1_method_42_code 1 = .ok (.iload_n 1, 1) := by decide +kernel
theorem d_X6_has_2 : decode prog_1_method_42_code 2 = .ok (.ishr, 1) := by decide +kernel
theorem d_X6_has_3 : decode prog_1_method_42_code 3 = .ok (.iconst 1, 1) := by decide +kernel
theorem d_X6_has_4 : decode prog_1_method_42_code 4 = .ok (.iand, 1) := by decide +kernel
theorem d_X6_has_5 : decode prog_1_method_42_code 5 = .ok (.ifCond .eq 7, 3) := by decide +kernel
theorem d_X6_has_8 : decode prog_1_method_42_code 8 = .ok (.iconst 1, 1) := by decide +kernel
theorem d_X6_has_9 : decode prog_1_method_42_code 9 = .ok (.goto 4, 3) := by decide +kernel
theorem d_X6_has_12 : decode prog_1_method_42_code 12 = .ok (.iconst 0, 1) := by decide +kernel
theorem d_X6_has_13 : decode prog_1_method_42_code 13 = .ok (.ireturn, 1) := by decide +kernel
abbrev M_Slots_has : zMT := (⟨"PeriodSlots", "has", "(II)Z"⟩, prog_1_method_42_code, 2, (some .boolean))
theorem k_Slots_has : zcall M_Slots_has 2 := ⟨zU_in (i := 323) (by decide +kernel) rfl, m54, ⟨by decide, by decide, by decide +kernel⟩, by decide⟩
def o_Slots_has (set : Int32) (k : Int32) : Bool :=
  (!(decide (((zsar set k) &&& 1) = 0)))
set_option maxHeartbeats 400000 in
set_option maxRecDepth 20000 in
theorem c_Slots_has (X : zXT) (h : zHp) (g : zLg) (set : Int32) (k : Int32) : zDi X M_Slots_has 0 [.int set, .int k] h g (zI (zb (o_Slots_has set k))) h g := by
  refine zDi_of "PeriodSlots" prog_1_method_42_code 2 (some .boolean) rfl (by decide) [zI set, zI k] rfl (fun _ q => q) (Nat.le_of_ble_eq_true rfl) ?_
  intro Γ Q C hQ
  refine zr_iload_n C d_X6_has_0 rfl ?_
  refine zr_iload_n C d_X6_has_1 rfl ?_
  refine zr_ishr C d_X6_has_2 ?_
  refine zr_iconst C (v := 1) d_X6_has_3 (by decide) ?_
  refine zr_iand C d_X6_has_4 ?_
  suffices hJ5 : ∀ (y1 : Bool), (!(decide (((zsar set k) &&& 1) = 0))) = y1 → zV X Γ Q 13 [none, none] [.int (zb y1)] h g by
    refine zr_if_eq C 12 d_X6_has_5 (by decide) (fun c5 => ?_) (fun c5 => ?_)
    · refine zr_iconst C (v := 0) d_X6_has_12 (by decide) ?_
      refine zr_lv [none, none] (by simp [zle]) ?_
      exact hJ5 false (by simp [c5])
    · refine zr_iconst C (v := 1) d_X6_has_8 (by decide) ?_
      refine zr_goto C 13 d_X6_has_9 (by decide) ?_
      refine zr_lv [none, none] (by simp [zle]) ?_
      exact hJ5 true (by simp [c5])
  intro y1 ey1
  have eR : o_Slots_has set k = y1 := (by subst ey1; unfold o_Slots_has; exact rfl)
  subst hQ
  rw [eR]
  exact zr_iretz C (zb_01 _) d_X6_has_13
theorem d_X6_lowestOrNone_0 : decode prog_1_method_43_code 0 = .ok (.iload_n 0, 1) := by decide +kernel
theorem d_X6_lowestOrNone_1 : decode prog_1_method_43_code 1 = .ok (.ifCond .ne 8, 3) := by decide +kernel
theorem d_X6_lowestOrNone_4 : decode prog_1_method_43_code 4 = .ok (.bipush (-9), 2) := by decide +kernel
theorem d_X6_lowestOrNone_6 : decode prog_1_method_43_code 6 = .ok (.goto 7, 3) := by decide +kernel
theorem d_X6_lowestOrNone_9 : decode prog_1_method_43_code 9 = .ok (.iload_n 0, 1) := by decide +kernel
theorem d_X6_lowestOrNone_10 : decode prog_1_method_43_code 10 = .ok (.invokestatic 295, 3) := by decide +kernel
theorem d_X6_lowestOrNone_13 : decode prog_1_method_43_code 13 = .ok (.ireturn, 1) := by decide +kernel
abbrev M_Slots_lowestOrNone : zMT := (⟨"PeriodSlots", "lowestOrNone", "(I)I"⟩, prog_1_method_43_code, 1, (some .int))
theorem k_Slots_lowestOrNone : zcall M_Slots_lowestOrNone 1 := ⟨zU_in (i := 471) (by decide +kernel) rfl, m54, ⟨by decide, by decide, by decide +kernel⟩, by decide⟩
def o_Slots_lowestOrNone (set : Int32) : Int32 :=
  (if set = 0 then (-9) else (o_Int_numberOfTrailingZeros set))
set_option maxHeartbeats 400000 in
set_option maxRecDepth 20000 in
theorem c_Slots_lowestOrNone (X : zXT) (h : zHp) (g : zLg) (set : Int32) : zDi X M_Slots_lowestOrNone 1 [.int set] h g (zI (o_Slots_lowestOrNone set)) h g := by
  refine zDi_of "PeriodSlots" prog_1_method_43_code 1 (some .int) rfl (by decide) [zI set] rfl (fun _ q => q) (Nat.le_of_ble_eq_true rfl) ?_
  intro Γ Q C hQ
  refine zr_iload_n C d_X6_lowestOrNone_0 rfl ?_
  suffices hJ1 : ∀ (y1 : Int32), (if set = 0 then (-9) else (o_Int_numberOfTrailingZeros set)) = y1 → zV X Γ Q 13 [none] [.int y1] h g by
    refine zr_if_ne C 9 d_X6_lowestOrNone_1 (by decide) (fun c1 => ?_) (fun c1 => ?_)
    · refine zr_iload_n C d_X6_lowestOrNone_9 rfl ?_
      refine zr_callSi (As := [.int set]) (st := []) C (c_Int_numberOfTrailingZeros X h g set) k_Int_numberOfTrailingZeros m472 m473 rfl (by decide) rfl (Nat.le_of_ble_eq_true rfl) d_X6_lowestOrNone_10 ?_
      refine zr_lv [none] (by simp [zle]) ?_
      exact hJ1 (o_Int_numberOfTrailingZeros set) (((if_neg c1)))
    · refine zr_bipush C (v := (-9)) d_X6_lowestOrNone_4 (by decide) ?_
      refine zr_goto C 13 d_X6_lowestOrNone_6 (by decide) ?_
      refine zr_lv [none] (by simp [zle]) ?_
      exact hJ1 (-9) (((if_pos c1)))
  intro y1 ey1
  have eR : o_Slots_lowestOrNone set = y1 := (by subst ey1; unfold o_Slots_lowestOrNone; exact rfl)
  subst hQ
  rw [eR]
  exact zr_ireti C d_X6_lowestOrNone_13
theorem d_X6_factorial_0 : decode prog_1_method_44_code 0 = .ok (.iconst 1, 1) := by decide +kernel
theorem d_X6_factorial_1 : decode prog_1_method_44_code 1 = .ok (.istore_n 1, 1) := by decide +kernel
theorem d_X6_factorial_2 : decode prog_1_method_44_code 2 = .ok (.iconst 2, 1) := by decide +kernel
theorem d_X6_factorial_3 : decode prog_1_method_44_code 3 = .ok (.istore_n 2, 1) := by decide +kernel
theorem d_X6_factorial_4 : decode prog_1_method_44_code 4 = .ok (.iload_n 2, 1) := by decide +kernel
theorem d_X6_factorial_5 : decode prog_1_method_44_code 5 = .ok (.iload_n 0, 1) := by decide +kernel
theorem d_X6_factorial_6 : decode prog_1_method_44_code 6 = .ok (.if_icmp .gt 13, 3) := by decide +kernel
theorem d_X6_factorial_9 : decode prog_1_method_44_code 9 = .ok (.iload_n 1, 1) := by decide +kernel
theorem d_X6_factorial_10 : decode prog_1_method_44_code 10 = .ok (.iload_n 2, 1) := by decide +kernel
theorem d_X6_factorial_11 : decode prog_1_method_44_code 11 = .ok (.imul, 1) := by decide +kernel
theorem d_X6_factorial_12 : decode prog_1_method_44_code 12 = .ok (.istore_n 1, 1) := by decide +kernel
theorem d_X6_factorial_13 : decode prog_1_method_44_code 13 = .ok (.iinc 2 1, 3) := by decide +kernel
theorem d_X6_factorial_16 : decode prog_1_method_44_code 16 = .ok (.goto (-12), 3) := by decide +kernel
theorem d_X6_factorial_19 : decode prog_1_method_44_code 19 = .ok (.iload_n 1, 1) := by decide +kernel
theorem d_X6_factorial_20 : decode prog_1_method_44_code 20 = .ok (.ireturn, 1) := by decide +kernel
abbrev M_Slots_factorial : zMT := (⟨"PeriodSlots", "factorial", "(I)I"⟩, prog_1_method_44_code, 3, (some .int))
theorem k_Slots_factorial : zcall M_Slots_factorial 1 := ⟨zU_in (i := 693) (by decide +kernel) rfl, m54, ⟨by decide, by decide, by decide +kernel⟩, by decide⟩
def o_Slots_factorial (k : Int32) : Int32 :=
  (zrep (fun (i4_1 : Nat) (s4_1 : Int32) => (s4_1 * (nI (2 + i4_1)))) 1 (zcn k + 1 - 2))
set_option maxHeartbeats 400000 in
set_option maxRecDepth 20000 in
theorem c_Slots_factorial (X : zXT) (h : zHp) (g : zLg) (k : Int32) (hk : zcn k < 2147483646) : zDi X M_Slots_factorial 0 [.int k] h g (zI (o_Slots_factorial k)) h g := by
  refine zDi_of "PeriodSlots" prog_1_method_44_code 3 (some .int) rfl (by decide) [zI k, none, none] rfl (fun _ q => q) (Nat.le_of_ble_eq_true rfl) ?_
  intro Γ Q C hQ
  refine zr_iconst C (v := 1) d_X6_factorial_0 (by decide) ?_
  refine zr_istore_n C [zI k, zI 1, none] d_X6_factorial_1 (Nat.le_of_ble_eq_true rfl) rfl rfl ?_
  refine zr_iconst C (v := 2) d_X6_factorial_2 (by decide) ?_
  refine zr_istore_n C [zI k, zI 1, zI 2] d_X6_factorial_3 (Nat.le_of_ble_eq_true rfl) rfl rfl ?_
  refine zfor (f := (fun (i4_1 : Nat) (s4_1 : Int32) => (s4_1 * (nI (2 + i4_1))))) (a := 1) (fun i4_1 s4_1 => zV X Γ Q 4 [zI k, zI s4_1, zI (nI (2 + i4_1))] [] h g) (fun _ _ => True) (zcn k + 1 - 2) trivial (fun i4_1 s4_1 hi4_1 hI4_1 => ⟨trivial, fun hk4_1 => ?_⟩) (fun r4_1 er4_1 hI4_1 => ?_)
  · refine zr_iload_n C d_X6_factorial_4 rfl ?_
    refine zr_iload_n C d_X6_factorial_5 rfl ?_
    refine zr_icmp_gt C 19 d_X6_factorial_6 (by decide) (fun c => absurd c (zgt_no rfl (by omega) (by omega))) (fun _ => ?_)
    refine zr_iload_n C d_X6_factorial_9 rfl ?_
    refine zr_iload_n C d_X6_factorial_10 rfl ?_
    refine zr_imul C d_X6_factorial_11 ?_
    refine zr_istore_n C [zI k, zI (s4_1 * (nI (2 + i4_1))), zI (nI (2 + i4_1))] d_X6_factorial_12 (Nat.le_of_ble_eq_true rfl) rfl rfl ?_
    refine zr_iinc C [zI k, zI (s4_1 * (nI (2 + i4_1))), zI (nI ((2 + i4_1) + 1))] (v := (nI ((2 + i4_1) + 1))) d_X6_factorial_13 rfl (zn_add rfl rfl) (Nat.le_of_ble_eq_true rfl) rfl rfl ?_
    refine zr_goto C 4 d_X6_factorial_16 (by decide) ?_
    exact hk4_1 (s4_1 * (nI (2 + i4_1))) rfl
  refine zr_iload_n C d_X6_factorial_4 rfl ?_
  refine zr_iload_n C d_X6_factorial_5 rfl ?_
  refine zr_icmp_gt C 19 d_X6_factorial_6 (by decide) (fun _ => ?_) (fun c => absurd (zgt_yes rfl (by omega) (by have := zcn_small k; omega)) c)
  refine zr_iload_n C d_X6_factorial_19 rfl ?_
  have eR : o_Slots_factorial k = r4_1 := (by subst er4_1; unfold o_Slots_factorial; exact rfl)
  subst hQ
  rw [eR]
  exact zr_ireti C d_X6_factorial_20
theorem d_X6_power_0 : decode prog_1_method_45_code 0 = .ok (.iconst 1, 1) := by decide +kernel
theorem d_X6_power_1 : decode prog_1_method_45_code 1 = .ok (.istore_n 2, 1) := by decide +kernel
theorem d_X6_power_2 : decode prog_1_method_45_code 2 = .ok (.iconst 0, 1) := by decide +kernel
theorem d_X6_power_3 : decode prog_1_method_45_code 3 = .ok (.istore_n 3, 1) := by decide +kernel
theorem d_X6_power_4 : decode prog_1_method_45_code 4 = .ok (.iload_n 3, 1) := by decide +kernel
theorem d_X6_power_5 : decode prog_1_method_45_code 5 = .ok (.iload_n 1, 1) := by decide +kernel
theorem d_X6_power_6 : decode prog_1_method_45_code 6 = .ok (.if_icmp .ge 13, 3) := by decide +kernel
theorem d_X6_power_9 : decode prog_1_method_45_code 9 = .ok (.iload_n 2, 1) := by decide +kernel
theorem d_X6_power_10 : decode prog_1_method_45_code 10 = .ok (.iload_n 0, 1) := by decide +kernel
theorem d_X6_power_11 : decode prog_1_method_45_code 11 = .ok (.imul, 1) := by decide +kernel
theorem d_X6_power_12 : decode prog_1_method_45_code 12 = .ok (.istore_n 2, 1) := by decide +kernel
theorem d_X6_power_13 : decode prog_1_method_45_code 13 = .ok (.iinc 3 1, 3) := by decide +kernel
theorem d_X6_power_16 : decode prog_1_method_45_code 16 = .ok (.goto (-12), 3) := by decide +kernel
theorem d_X6_power_19 : decode prog_1_method_45_code 19 = .ok (.iload_n 2, 1) := by decide +kernel
theorem d_X6_power_20 : decode prog_1_method_45_code 20 = .ok (.ireturn, 1) := by decide +kernel
abbrev M_Slots_power : zMT := (⟨"PeriodSlots", "power", "(II)I"⟩, prog_1_method_45_code, 4, (some .int))
theorem k_Slots_power : zcall M_Slots_power 2 := ⟨zU_in (i := 717) (by decide +kernel) rfl, m54, ⟨by decide, by decide, by decide +kernel⟩, by decide⟩
def o_Slots_power (base : Int32) (exponent : Int32) : Int32 :=
  (zrep (fun (i4_1 : Nat) (s4_1 : Int32) => (s4_1 * base)) 1 (zcn exponent))
set_option maxHeartbeats 400000 in
set_option maxRecDepth 20000 in
theorem c_Slots_power (X : zXT) (h : zHp) (g : zLg) (base : Int32) (exponent : Int32) : zDi X M_Slots_power 0 [.int base, .int exponent] h g (zI (o_Slots_power base exponent)) h g := by
  refine zDi_of "PeriodSlots" prog_1_method_45_code 4 (some .int) rfl (by decide) [zI base, zI exponent, none, none] rfl (fun _ q => q) (Nat.le_of_ble_eq_true rfl) ?_
  intro Γ Q C hQ
  refine zr_iconst C (v := 1) d_X6_power_0 (by decide) ?_
  refine zr_istore_n C [zI base, zI exponent, zI 1, none] d_X6_power_1 (Nat.le_of_ble_eq_true rfl) rfl rfl ?_
  refine zr_iconst C (v := 0) d_X6_power_2 (by decide) ?_
  refine zr_istore_n C [zI base, zI exponent, zI 1, zI 0] d_X6_power_3 (Nat.le_of_ble_eq_true rfl) rfl rfl ?_
  refine zfor (f := (fun (i4_1 : Nat) (s4_1 : Int32) => (s4_1 * base))) (a := 1) (fun i4_1 s4_1 => zV X Γ Q 4 [zI base, zI exponent, zI s4_1, zI (nI i4_1)] [] h g) (fun _ _ => True) (zcn exponent) trivial (fun i4_1 s4_1 hi4_1 hI4_1 => ⟨trivial, fun hk4_1 => ?_⟩) (fun r4_1 er4_1 hI4_1 => ?_)
  · refine zr_iload_n C d_X6_power_4 rfl ?_
    refine zr_iload_n C d_X6_power_5 rfl ?_
    refine zr_icmp_ge C 19 d_X6_power_6 (by decide) (fun c => absurd c (zge_no rfl (by omega))) (fun _ => ?_)
    refine zr_iload_n C d_X6_power_9 rfl ?_
    refine zr_iload_n C d_X6_power_10 rfl ?_
    refine zr_imul C d_X6_power_11 ?_
    refine zr_istore_n C [zI base, zI exponent, zI (s4_1 * base), zI (nI i4_1)] d_X6_power_12 (Nat.le_of_ble_eq_true rfl) rfl rfl ?_
    refine zr_iinc C [zI base, zI exponent, zI (s4_1 * base), zI (nI (i4_1 + 1))] (v := (nI (i4_1 + 1))) d_X6_power_13 rfl (zn_add rfl rfl) (Nat.le_of_ble_eq_true rfl) rfl rfl ?_
    refine zr_goto C 4 d_X6_power_16 (by decide) ?_
    exact hk4_1 (s4_1 * base) rfl
  refine zr_iload_n C d_X6_power_4 rfl ?_
  refine zr_iload_n C d_X6_power_5 rfl ?_
  refine zr_icmp_ge C 19 d_X6_power_6 (by decide) (fun _ => ?_) (fun c => absurd (zge_yes rfl (by omega) (by have := zcn_small exponent; omega)) c)
  refine zr_iload_n C d_X6_power_19 rfl ?_
  have eR : o_Slots_power base exponent = r4_1 := (by subst er4_1; unfold o_Slots_power; exact rfl)
  subst hQ
  rw [eR]
  exact zr_ireti C d_X6_power_20
theorem d_X6_commonDivisor_0 : decode prog_1_method_47_code 0 = .ok (.iload_n 0, 1) := by decide +kernel
theorem d_X6_commonDivisor_1 : decode prog_1_method_47_code 1 = .ok (.istore_n 2, 1) := by decide +kernel
theorem d_X6_commonDivisor_2 : decode prog_1_method_47_code 2 = .ok (.iload_n 1, 1) := by decide +kernel
theorem d_X6_commonDivisor_3 : decode prog_1_method_47_code 3 = .ok (.istore_n 3, 1) := by decide +kernel
theorem d_X6_commonDivisor_4 : decode prog_1_method_47_code 4 = .ok (.iconst 0, 1) := by decide +kernel
theorem d_X6_commonDivisor_5 : decode prog_1_method_47_code 5 = .ok (.istore 4, 2) := by decide +kernel
theorem d_X6_commonDivisor_7 : decode prog_1_method_47_code 7 = .ok (.iload 4, 2) := by decide +kernel
theorem d_X6_commonDivisor_9 : decode prog_1_method_47_code 9 = .ok (.bipush 64, 2) := by decide +kernel
theorem d_X6_commonDivisor_11 : decode prog_1_method_47_code 11 = .ok (.if_icmp .ge 23, 3) := by decide +kernel
theorem d_X6_commonDivisor_14 : decode prog_1_method_47_code 14 = .ok (.iload_n 3, 1) := by decide +kernel
theorem d_X6_commonDivisor_15 : decode prog_1_method_47_code 15 = .ok (.ifCond .eq 19, 3) := by decide +kernel
theorem d_X6_commonDivisor_18 : decode prog_1_method_47_code 18 = .ok (.iload_n 2, 1) := by decide +kernel
theorem d_X6_commonDivisor_19 : decode prog_1_method_47_code 19 = .ok (.iload_n 3, 1) := by decide +kernel
theorem d_X6_commonDivisor_20 : decode prog_1_method_47_code 20 = .ok (.irem, 1) := by decide +kernel
theorem d_X6_commonDivisor_21 : decode prog_1_method_47_code 21 = .ok (.istore 5, 2) := by decide +kernel
theorem d_X6_commonDivisor_23 : decode prog_1_method_47_code 23 = .ok (.iload_n 3, 1) := by decide +kernel
theorem d_X6_commonDivisor_24 : decode prog_1_method_47_code 24 = .ok (.istore_n 2, 1) := by decide +kernel
theorem d_X6_commonDivisor_25 : decode prog_1_method_47_code 25 = .ok (.iload 5, 2) := by decide +kernel
theorem d_X6_commonDivisor_27 : decode prog_1_method_47_code 27 = .ok (.istore_n 3, 1) := by decide +kernel
theorem d_X6_commonDivisor_28 : decode prog_1_method_47_code 28 = .ok (.iinc 4 1, 3) := by decide +kernel
theorem d_X6_commonDivisor_31 : decode prog_1_method_47_code 31 = .ok (.goto (-24), 3) := by decide +kernel
theorem d_X6_commonDivisor_34 : decode prog_1_method_47_code 34 = .ok (.iload_n 2, 1) := by decide +kernel
theorem d_X6_commonDivisor_35 : decode prog_1_method_47_code 35 = .ok (.ireturn, 1) := by decide +kernel
abbrev M_Slots_commonDivisor : zMT := (⟨"PeriodSlots", "commonDivisor", "(II)I"⟩, prog_1_method_47_code, 6, (some .int))
theorem k_Slots_commonDivisor : zcall M_Slots_commonDivisor 2 := ⟨zU_in (i := 710) (by decide +kernel) rfl, m54, ⟨by decide, by decide, by decide +kernel⟩, by decide⟩
def o_Slots_commonDivisor (a : Int32) (b : Int32) : Int32 :=
  (Sum.elim (fun r7_1 => r7_1.1) (fun q7_1 => q7_1) (zrex (fun (i7_1 : Nat) (s7_1 : Int32 × Int32) => ((if s7_1.2 = 0 then .inr s7_1.1 else .inl (s7_1.2, (zrem s7_1.1 s7_1.2))) : (Int32 × Int32) ⊕ (Int32))) (a, b) 64))
set_option maxHeartbeats 400000 in
set_option maxRecDepth 20000 in
theorem c_Slots_commonDivisor (X : zXT) (h : zHp) (g : zLg) (a : Int32) (b : Int32) : zDi X M_Slots_commonDivisor 0 [.int a, .int b] h g (zI (o_Slots_commonDivisor a b)) h g := by
  refine zDi_of "PeriodSlots" prog_1_method_47_code 6 (some .int) rfl (by decide) [zI a, zI b, none, none, none, none] rfl (fun _ q => q) (Nat.le_of_ble_eq_true rfl) ?_
  intro Γ Q C hQ
  refine zr_iload_n C d_X6_commonDivisor_0 rfl ?_
  refine zr_istore_n C [zI a, zI b, zI a, none, none, none] d_X6_commonDivisor_1 (Nat.le_of_ble_eq_true rfl) rfl rfl ?_
  refine zr_iload_n C d_X6_commonDivisor_2 rfl ?_
  refine zr_istore_n C [zI a, zI b, zI a, zI b, none, none] d_X6_commonDivisor_3 (Nat.le_of_ble_eq_true rfl) rfl rfl ?_
  refine zr_iconst C (v := 0) d_X6_commonDivisor_4 (by decide) ?_
  refine zr_istore C [zI a, zI b, zI a, zI b, zI 0, none] d_X6_commonDivisor_5 (Nat.le_of_ble_eq_true rfl) rfl rfl ?_
  refine zr_lv [none, none, zI a, zI b, zI 0, none] (by simp [zle]) ?_
  refine zforx (f := (fun (i7_1 : Nat) (s7_1 : Int32 × Int32) => ((if s7_1.2 = 0 then .inr s7_1.1 else .inl (s7_1.2, (zrem s7_1.1 s7_1.2))) : (Int32 × Int32) ⊕ (Int32)))) (a := (a, b)) (fun i7_1 s7_1 => zV X Γ Q 7 [none, none, zI s7_1.1, zI s7_1.2, zI (nI i7_1), none] [] h g) (fun _ _ => True) (64) trivial (fun i7_1 s7_1 hi7_1 hI7_1 => ⟨(fun _ _ => trivial), fun hk7_1 hx7_1 => ?_⟩) (fun r7_1 er7_1 hI7_1 => ?_)
  · refine zr_iload C d_X6_commonDivisor_7 rfl ?_
    refine zr_bipush C (v := 64) d_X6_commonDivisor_9 (by decide) ?_
    refine zr_icmp_ge C 34 d_X6_commonDivisor_11 (by decide) (fun c => absurd c (zge_noN (B := 64) rfl (by omega) (by omega))) (fun _ => ?_)
    refine zr_iload_n C d_X6_commonDivisor_14 rfl ?_
    refine zr_if_eq C 34 d_X6_commonDivisor_15 (by decide) (fun c15 => ?_) (fun c15 => ?_)
    · have hr7_1 := hx7_1 s7_1.1 ((if_pos c15))
      refine zr_iload_n C d_X6_commonDivisor_34 rfl ?_
      have eR : o_Slots_commonDivisor a b = s7_1.1 := (by unfold o_Slots_commonDivisor; exact ((congrArg (Sum.elim _ _) hr7_1)))
      subst hQ
      rw [eR]
      exact zr_ireti C d_X6_commonDivisor_35
    · refine zr_iload_n C d_X6_commonDivisor_18 rfl ?_
      refine zr_iload_n C d_X6_commonDivisor_19 rfl ?_
      refine zr_irem C d_X6_commonDivisor_20 c15 ?_
      refine zr_istore C [none, none, zI s7_1.1, zI s7_1.2, zI (nI i7_1), zI (zrem s7_1.1 s7_1.2)] d_X6_commonDivisor_21 (Nat.le_of_ble_eq_true rfl) rfl rfl ?_
      refine zr_iload_n C d_X6_commonDivisor_23 rfl ?_
      refine zr_istore_n C [none, none, zI s7_1.2, zI s7_1.2, zI (nI i7_1), zI (zrem s7_1.1 s7_1.2)] d_X6_commonDivisor_24 (Nat.le_of_ble_eq_true rfl) rfl rfl ?_
      refine zr_iload C d_X6_commonDivisor_25 rfl ?_
      refine zr_istore_n C [none, none, zI s7_1.2, zI (zrem s7_1.1 s7_1.2), zI (nI i7_1), zI (zrem s7_1.1 s7_1.2)] d_X6_commonDivisor_27 (Nat.le_of_ble_eq_true rfl) rfl rfl ?_
      refine zr_iinc C [none, none, zI s7_1.2, zI (zrem s7_1.1 s7_1.2), zI (nI (i7_1 + 1)), zI (zrem s7_1.1 s7_1.2)] (v := (nI (i7_1 + 1))) d_X6_commonDivisor_28 rfl (zn_add rfl rfl) (Nat.le_of_ble_eq_true rfl) rfl rfl ?_
      refine zr_goto C 7 d_X6_commonDivisor_31 (by decide) ?_
      refine zr_lv [none, none, zI s7_1.2, zI (zrem s7_1.1 s7_1.2), zI (nI (i7_1 + 1)), none] (by simp [zle]) ?_
      exact hk7_1 (s7_1.2, (zrem s7_1.1 s7_1.2)) ((if_neg c15))
  refine zr_iload C d_X6_commonDivisor_7 rfl ?_
  refine zr_bipush C (v := 64) d_X6_commonDivisor_9 (by decide) ?_
  refine zr_icmp_ge C 34 d_X6_commonDivisor_11 (by decide) (fun _ => ?_) (fun c => absurd (zge_yesN (B := 64) rfl (by omega) (by omega)) c)
  refine zr_iload_n C d_X6_commonDivisor_34 rfl ?_
  have eR : o_Slots_commonDivisor a b = r7_1.1 := (by unfold o_Slots_commonDivisor; exact ((congrArg (Sum.elim _ _) er7_1)))
  subst hQ
  rw [eR]
  exact zr_ireti C d_X6_commonDivisor_35
theorem d_X6_partOfFraction_0 : decode prog_1_method_46_code 0 = .ok (.iload_n 0, 1) := by decide +kernel
theorem d_X6_partOfFraction_1 : decode prog_1_method_46_code 1 = .ok (.invokestatic 298, 3) := by decide +kernel
theorem d_X6_partOfFraction_4 : decode prog_1_method_46_code 4 = .ok (.iload_n 1, 1) := by decide +kernel
theorem d_X6_partOfFraction_5 : decode prog_1_method_46_code 5 = .ok (.invokestatic 303, 3) := by decide +kernel
theorem d_X6_partOfFraction_8 : decode prog_1_method_46_code 8 = .ok (.istore_n 3, 1) := by decide +kernel
theorem d_X6_partOfFraction_9 : decode prog_1_method_46_code 9 = .ok (.iload_n 3, 1) := by decide +kernel
theorem d_X6_partOfFraction_10 : decode prog_1_method_46_code 10 = .ok (.iconst 1, 1) := by decide +kernel
theorem d_X6_partOfFraction_11 : decode prog_1_method_46_code 11 = .ok (.if_icmp .ge 5, 3) := by decide +kernel
theorem d_X6_partOfFraction_14 : decode prog_1_method_46_code 14 = .ok (.iconst 0, 1) := by decide +kernel
theorem d_X6_partOfFraction_15 : decode prog_1_method_46_code 15 = .ok (.ireturn, 1) := by decide +kernel
theorem d_X6_partOfFraction_16 : decode prog_1_method_46_code 16 = .ok (.iload_n 2, 1) := by decide +kernel
theorem d_X6_partOfFraction_17 : decode prog_1_method_46_code 17 = .ok (.ifCond .eq 9, 3) := by decide +kernel
theorem d_X6_partOfFraction_20 : decode prog_1_method_46_code 20 = .ok (.iload_n 0, 1) := by decide +kernel
theorem d_X6_partOfFraction_21 : decode prog_1_method_46_code 21 = .ok (.iload_n 3, 1) := by decide +kernel
theorem d_X6_partOfFraction_22 : decode prog_1_method_46_code 22 = .ok (.idiv, 1) := by decide +kernel
theorem d_X6_partOfFraction_23 : decode prog_1_method_46_code 23 = .ok (.goto 6, 3) := by decide +kernel
theorem d_X6_partOfFraction_26 : decode prog_1_method_46_code 26 = .ok (.iload_n 1, 1) := by decide +kernel
theorem d_X6_partOfFraction_27 : decode prog_1_method_46_code 27 = .ok (.iload_n 3, 1) := by decide +kernel
theorem d_X6_partOfFraction_28 : decode prog_1_method_46_code 28 = .ok (.idiv, 1) := by decide +kernel
theorem d_X6_partOfFraction_29 : decode prog_1_method_46_code 29 = .ok (.ireturn, 1) := by decide +kernel
abbrev M_Slots_partOfFraction : zMT := (⟨"PeriodSlots", "partOfFraction", "(IIZ)I"⟩, prog_1_method_46_code, 4, (some .int))
theorem k_Slots_partOfFraction : zcall M_Slots_partOfFraction 3 := ⟨zU_in (i := 704) (by decide +kernel) rfl, m54, ⟨by decide, by decide, by decide +kernel⟩, by decide⟩
def o_Slots_partOfFraction (numerator : Int32) (denominator : Int32) (upper : Bool) : Int32 :=
  (if 1 ≤ (o_Slots_commonDivisor (if 0 ≤ numerator then numerator else 0 - numerator) denominator) then (if upper = true then (numerator / (o_Slots_commonDivisor (if 0 ≤ numerator then numerator else 0 - numerator) denominator)) else (denominator / (o_Slots_commonDivisor (if 0 ≤ numerator then numerator else 0 - numerator) denominator))) else 0)
set_option maxHeartbeats 400000 in
set_option maxRecDepth 20000 in
theorem c_Slots_partOfFraction (X : zXT) (h : zHp) (g : zLg) (numerator : Int32) (denominator : Int32) (upper : Bool) : zDi X M_Slots_partOfFraction 1 [.int numerator, .int denominator, .int (zb upper)] h g (zI (o_Slots_partOfFraction numerator denominator upper)) h g := by
  refine zDi_of "PeriodSlots" prog_1_method_46_code 4 (some .int) rfl (by decide) [zI numerator, zI denominator, zI (zb upper), none] rfl (fun _ q => q) (Nat.le_of_ble_eq_true rfl) ?_
  intro Γ Q C hQ
  refine zr_iload_n C d_X6_partOfFraction_0 rfl ?_
  refine zr_mabs C m705 rfl (Nat.le_of_ble_eq_true rfl) (by decide) d_X6_partOfFraction_1 ?_
  refine zr_iload_n C d_X6_partOfFraction_4 rfl ?_
  refine zr_callSi (As := [.int (if 0 ≤ numerator then numerator else 0 - numerator), .int denominator]) (st := []) C (c_Slots_commonDivisor X h g (if 0 ≤ numerator then numerator else 0 - numerator) denominator) k_Slots_commonDivisor m708 m709 rfl (by decide) rfl (Nat.le_of_ble_eq_true rfl) d_X6_partOfFraction_5 ?_
  refine zr_istore_n C [zI numerator, zI denominator, zI (zb upper), zI (o_Slots_commonDivisor (if 0 ≤ numerator then numerator else 0 - numerator) denominator)] d_X6_partOfFraction_8 (Nat.le_of_ble_eq_true rfl) rfl rfl ?_
  refine zr_iload_n C d_X6_partOfFraction_9 rfl ?_
  refine zr_iconst C (v := 1) d_X6_partOfFraction_10 (by decide) ?_
  refine zr_icmp_ge C 16 d_X6_partOfFraction_11 (by decide) (fun c11 => ?_) (fun c11 => ?_)
  · refine zr_iload_n C d_X6_partOfFraction_16 rfl ?_
    suffices hJ17 : ∀ (y1 : Int32), (if upper = true then (numerator / (o_Slots_commonDivisor (if 0 ≤ numerator then numerator else 0 - numerator) denominator)) else (denominator / (o_Slots_commonDivisor (if 0 ≤ numerator then numerator else 0 - numerator) denominator))) = y1 → zV X Γ Q 29 [none, none, none, none] [.int y1] h g by
      refine zr_ifz_eq C 26 d_X6_partOfFraction_17 (by decide) (fun c17 => ?_) (fun c17 => ?_)
      · refine zr_iload_n C d_X6_partOfFraction_26 rfl ?_
        refine zr_iload_n C d_X6_partOfFraction_27 rfl ?_
        refine zr_idiv C d_X6_partOfFraction_28 (zne_1le c11) ?_
        refine zr_lv [none, none, none, none] (by simp [zle]) ?_
        exact hJ17 (denominator / (o_Slots_commonDivisor (if 0 ≤ numerator then numerator else 0 - numerator) denominator)) (((if_neg (zbf c17))))
      · refine zr_iload_n C d_X6_partOfFraction_20 rfl ?_
        refine zr_iload_n C d_X6_partOfFraction_21 rfl ?_
        refine zr_idiv C d_X6_partOfFraction_22 (zne_1le c11) ?_
        refine zr_goto C 29 d_X6_partOfFraction_23 (by decide) ?_
        refine zr_lv [none, none, none, none] (by simp [zle]) ?_
        exact hJ17 (numerator / (o_Slots_commonDivisor (if 0 ≤ numerator then numerator else 0 - numerator) denominator)) (((if_pos c17)))
    intro y1 ey1
    have eR : o_Slots_partOfFraction numerator denominator upper = y1 := (by subst ey1; unfold o_Slots_partOfFraction; rw [if_pos c11])
    subst hQ
    rw [eR]
    exact zr_ireti C d_X6_partOfFraction_29
  · refine zr_iconst C (v := 0) d_X6_partOfFraction_14 (by decide) ?_
    have eR : o_Slots_partOfFraction numerator denominator upper = 0 := (by unfold o_Slots_partOfFraction; rw [if_neg c11])
    subst hQ
    rw [eR]
    exact zr_ireti C d_X6_partOfFraction_15
theorem d_X1_clear_0 : decode prog_3_method_2_code 0 = .ok (.aload_n 0, 1) := by decide +kernel
theorem d_X1_clear_1 : decode prog_3_method_2_code 1 = .ok (.iconst 0, 1) := by decide +kernel
theorem d_X1_clear_2 : decode prog_3_method_2_code 2 = .ok (.putfield 45, 3) := by decide +kernel
theorem d_X1_clear_5 : decode prog_3_method_2_code 5 = .ok (.aload_n 0, 1) := by decide +kernel
theorem d_X1_clear_6 : decode prog_3_method_2_code 6 = .ok (.iconst 0, 1) := by decide +kernel
theorem d_X1_clear_7 : decode prog_3_method_2_code 7 = .ok (.putfield 49, 3) := by decide +kernel
theorem d_X1_clear_10 : decode prog_3_method_2_code 10 = .ok (.return_, 1) := by decide +kernel
abbrev M_Mesh_clear : zMT := (⟨"PeriodSlots$Mesh", "clear", "()V"⟩, prog_3_method_2_code, 1, none)
theorem k_Mesh_clear : zcall M_Mesh_clear 0 := ⟨zU_in (i := 281) (by decide +kernel) rfl, m56, ⟨by decide, by decide, by decide +kernel⟩, by decide⟩
def o_Mesh_clear (h : zHp) (b : Nat) : zHp :=
  (zup (zup h b 0 0) b 1 0)
theorem fr_Mesh_clear {h : zHp} {b : Nat} (c k : Nat) (q0 : ¬ (c = b ∧ k = 0)) (q1 : ¬ (c = b ∧ k = 1)) : (o_Mesh_clear h b) c k = h c k := by
  unfold o_Mesh_clear
  first | done | exact ((zup_fr (by omega)).trans (zup_fr (by omega)))
set_option maxHeartbeats 400000 in
set_option maxRecDepth 20000 in
theorem c_Mesh_clear (X : zXT) (h : zHp) (g : zLg) (b : Nat) (hb : b = 3 ∨ b = 15 ∨ b = 27) : zDi X M_Mesh_clear 0 [zR X b] h g none (o_Mesh_clear h b) g := by
  refine zDi_of "PeriodSlots$Mesh" prog_3_method_2_code 1 none rfl (by decide) [zO X b] rfl (fun _ q => q) (Nat.le_of_ble_eq_true rfl) ?_
  intro Γ Q C hQ
  refine zr_aload_n C d_X1_clear_0 rfl ?_
  refine zr_iconst C (v := 0) d_X1_clear_1 (by decide) ?_
  refine pf_Mesh_0 C hb m95 d_X1_clear_2 ?_
  refine zr_h (fun h1 eh1 => ?_)
  refine zr_aload_n C d_X1_clear_5 rfl ?_
  refine zr_iconst C (v := 0) d_X1_clear_6 (by decide) ?_
  refine pf_Mesh_1 C hb m99 d_X1_clear_7 ?_
  refine zr_h (fun h2 eh2 => ?_)
  have eR : o_Mesh_clear h b = h2 := (by subst eh2 eh1; unfold o_Mesh_clear; exact rfl)
  subst hQ
  rw [eR]
  exact zr_vret C d_X1_clear_10
theorem d_X1_copyRow_0 : decode prog_3_method_4_code 0 = .ok (.aload_n 0, 1) := by decide +kernel
theorem d_X1_copyRow_1 : decode prog_3_method_4_code 1 = .ok (.iconst 0, 1) := by decide +kernel
theorem d_X1_copyRow_2 : decode prog_3_method_4_code 2 = .ok (.aload_n 1, 1) := by decide +kernel
theorem d_X1_copyRow_3 : decode prog_3_method_4_code 3 = .ok (.iconst 0, 1) := by decide +kernel
theorem d_X1_copyRow_4 : decode prog_3_method_4_code 4 = .ok (.bipush 8, 2) := by decide +kernel
theorem d_X1_copyRow_6 : decode prog_3_method_4_code 6 = .ok (.invokestatic 56, 3) := by decide +kernel
theorem d_X1_copyRow_9 : decode prog_3_method_4_code 9 = .ok (.return_, 1) := by decide +kernel
abbrev M_Mesh_copyRow : zMT := (⟨"PeriodSlots$Mesh", "copyRow", "([I[I)V"⟩, prog_3_method_4_code, 2, none)
theorem k_Mesh_copyRow : zcall M_Mesh_copyRow 2 := ⟨zU_in (i := 381) (by decide +kernel) rfl, m56, ⟨by decide, by decide, by decide +kernel⟩, by decide⟩
def o_Mesh_copyRow (h : zHp) (s : Nat) (t : Nat) : zHp :=
  (zcp h s t 0 0 8)
theorem fr_Mesh_copyRow {h : zHp} {s : Nat} {t : Nat} (c k : Nat) (q0 : c ≠ t) : (o_Mesh_copyRow h s t) c k = h c k := by
  unfold o_Mesh_copyRow
  first | done | exact (zcp_fr (by assumption))
set_option maxHeartbeats 400000 in
set_option maxRecDepth 20000 in
theorem c_Mesh_copyRow (X : zXT) (h : zHp) (g : zLg) (s : Nat) (t : Nat) (hs : zar s 8) (ht : zar t 8) : zDi X M_Mesh_copyRow 1 [zR X s, zR X t] h g none (o_Mesh_copyRow h s t) g := by
  refine zDi_of "PeriodSlots$Mesh" prog_3_method_4_code 2 none rfl (by decide) [zO X s, zO X t] rfl (fun _ q => q) (Nat.le_of_ble_eq_true rfl) ?_
  intro Γ Q C hQ
  refine zr_aload_n C d_X1_copyRow_0 rfl ?_
  refine zr_iconst C (v := 0) d_X1_copyRow_1 (by decide) ?_
  refine zr_aload_n C d_X1_copyRow_2 rfl ?_
  refine zr_iconst C (v := 0) d_X1_copyRow_3 (by decide) ?_
  refine zr_bipush C (v := 8) d_X1_copyRow_4 (by decide) ?_
  refine zr_copy C hs ht m382 (0) (0) (8) rfl rfl rfl (by omega) (by omega) (by decide) (by decide) rfl (Nat.le_of_ble_eq_true rfl) (by decide) d_X1_copyRow_6 ?_
  refine zr_h (fun h1 eh1 => ?_)
  have eR : o_Mesh_copyRow h s t = h1 := (by subst eh1; unfold o_Mesh_copyRow; exact rfl)
  subst hQ
  rw [eR]
  exact zr_vret C d_X1_copyRow_9
theorem d_X1_copyFrom_0 : decode prog_3_method_3_code 0 = .ok (.aload_n 0, 1) := by decide +kernel
theorem d_X1_copyFrom_1 : decode prog_3_method_3_code 1 = .ok (.aload_n 1, 1) := by decide +kernel
theorem d_X1_copyFrom_2 : decode prog_3_method_3_code 2 = .ok (.getfield 45, 3) := by decide +kernel
theorem d_X1_copyFrom_5 : decode prog_3_method_3_code 5 = .ok (.putfield 45, 3) := by decide +kernel
theorem d_X1_copyFrom_8 : decode prog_3_method_3_code 8 = .ok (.aload_n 0, 1) := by decide +kernel
theorem d_X1_copyFrom_9 : decode prog_3_method_3_code 9 = .ok (.aload_n 1, 1) := by decide +kernel
theorem d_X1_copyFrom_10 : decode prog_3_method_3_code 10 = .ok (.getfield 49, 3) := by decide +kernel
theorem d_X1_copyFrom_13 : decode prog_3_method_3_code 13 = .ok (.putfield 49, 3) := by decide +kernel
theorem d_X1_copyFrom_16 : decode prog_3_method_3_code 16 = .ok (.aload_n 1, 1) := by decide +kernel
theorem d_X1_copyFrom_17 : decode prog_3_method_3_code 17 = .ok (.getfield 9, 3) := by decide +kernel
theorem d_X1_copyFrom_20 : decode prog_3_method_3_code 20 = .ok (.aload_n 0, 1) := by decide +kernel
theorem d_X1_copyFrom_21 : decode prog_3_method_3_code 21 = .ok (.getfield 9, 3) := by decide +kernel
theorem d_X1_copyFrom_24 : decode prog_3_method_3_code 24 = .ok (.invokestatic 52, 3) := by decide +kernel
theorem d_X1_copyFrom_27 : decode prog_3_method_3_code 27 = .ok (.aload_n 1, 1) := by decide +kernel
theorem d_X1_copyFrom_28 : decode prog_3_method_3_code 28 = .ok (.getfield 15, 3) := by decide +kernel
theorem d_X1_copyFrom_31 : decode prog_3_method_3_code 31 = .ok (.aload_n 0, 1) := by decide +kernel
theorem d_X1_copyFrom_32 : decode prog_3_method_3_code 32 = .ok (.getfield 15, 3) := by decide +kernel
theorem d_X1_copyFrom_35 : decode prog_3_method_3_code 35 = .ok (.invokestatic 52, 3) := by decide +kernel
theorem d_X1_copyFrom_38 : decode prog_3_method_3_code 38 = .ok (.aload_n 1, 1) := by decide +kernel
theorem d_X1_copyFrom_39 : decode prog_3_method_3_code 39 = .ok (.getfield 18, 3) := by decide +kernel
theorem d_X1_copyFrom_42 : decode prog_3_method_3_code 42 = .ok (.aload_n 0, 1) := by decide +kernel
theorem d_X1_copyFrom_43 : decode prog_3_method_3_code 43 = .ok (.getfield 18, 3) := by decide +kernel
theorem d_X1_copyFrom_46 : decode prog_3_method_3_code 46 = .ok (.invokestatic 52, 3) := by decide +kernel
theorem d_X1_copyFrom_49 : decode prog_3_method_3_code 49 = .ok (.aload_n 1, 1) := by decide +kernel
theorem d_X1_copyFrom_50 : decode prog_3_method_3_code 50 = .ok (.getfield 21, 3) := by decide +kernel
theorem d_X1_copyFrom_53 : decode prog_3_method_3_code 53 = .ok (.aload_n 0, 1) := by decide +kernel
theorem d_X1_copyFrom_54 : decode prog_3_method_3_code 54 = .ok (.getfield 21, 3) := by decide +kernel
theorem d_X1_copyFrom_57 : decode prog_3_method_3_code 57 = .ok (.invokestatic 52, 3) := by decide +kernel
theorem d_X1_copyFrom_60 : decode prog_3_method_3_code 60 = .ok (.aload_n 1, 1) := by decide +kernel
theorem d_X1_copyFrom_61 : decode prog_3_method_3_code 61 = .ok (.getfield 24, 3) := by decide +kernel
theorem d_X1_copyFrom_64 : decode prog_3_method_3_code 64 = .ok (.aload_n 0, 1) := by decide +kernel
theorem d_X1_copyFrom_65 : decode prog_3_method_3_code 65 = .ok (.getfield 24, 3) := by decide +kernel
theorem d_X1_copyFrom_68 : decode prog_3_method_3_code 68 = .ok (.invokestatic 52, 3) := by decide +kernel
theorem d_X1_copyFrom_71 : decode prog_3_method_3_code 71 = .ok (.aload_n 1, 1) := by decide +kernel
theorem d_X1_copyFrom_72 : decode prog_3_method_3_code 72 = .ok (.getfield 27, 3) := by decide +kernel
theorem d_X1_copyFrom_75 : decode prog_3_method_3_code 75 = .ok (.aload_n 0, 1) := by decide +kernel
theorem d_X1_copyFrom_76 : decode prog_3_method_3_code 76 = .ok (.getfield 27, 3) := by decide +kernel
theorem d_X1_copyFrom_79 : decode prog_3_method_3_code 79 = .ok (.invokestatic 52, 3) := by decide +kernel
theorem d_X1_copyFrom_82 : decode prog_3_method_3_code 82 = .ok (.aload_n 1, 1) := by decide +kernel
theorem d_X1_copyFrom_83 : decode prog_3_method_3_code 83 = .ok (.getfield 30, 3) := by decide +kernel
theorem d_X1_copyFrom_86 : decode prog_3_method_3_code 86 = .ok (.aload_n 0, 1) := by decide +kernel
theorem d_X1_copyFrom_87 : decode prog_3_method_3_code 87 = .ok (.getfield 30, 3) := by decide +kernel
theorem d_X1_copyFrom_90 : decode prog_3_method_3_code 90 = .ok (.invokestatic 52, 3) := by decide +kernel
theorem d_X1_copyFrom_93 : decode prog_3_method_3_code 93 = .ok (.aload_n 1, 1) := by decide +kernel
theorem d_X1_copyFrom_94 : decode prog_3_method_3_code 94 = .ok (.getfield 33, 3) := by decide +kernel
theorem d_X1_copyFrom_97 : decode prog_3_method_3_code 97 = .ok (.aload_n 0, 1) := by decide +kernel
theorem d_X1_copyFrom_98 : decode prog_3_method_3_code 98 = .ok (.getfield 33, 3) := by decide +kernel
theorem d_X1_copyFrom_101 : decode prog_3_method_3_code 101 = .ok (.invokestatic 52, 3) := by decide +kernel
theorem d_X1_copyFrom_104 : decode prog_3_method_3_code 104 = .ok (.aload_n 1, 1) := by decide +kernel
theorem d_X1_copyFrom_105 : decode prog_3_method_3_code 105 = .ok (.getfield 36, 3) := by decide +kernel
theorem d_X1_copyFrom_108 : decode prog_3_method_3_code 108 = .ok (.aload_n 0, 1) := by decide +kernel
theorem d_X1_copyFrom_109 : decode prog_3_method_3_code 109 = .ok (.getfield 36, 3) := by decide +kernel
theorem d_X1_copyFrom_112 : decode prog_3_method_3_code 112 = .ok (.invokestatic 52, 3) := by decide +kernel
theorem d_X1_copyFrom_115 : decode prog_3_method_3_code 115 = .ok (.aload_n 1, 1) := by decide +kernel
theorem d_X1_copyFrom_116 : decode prog_3_method_3_code 116 = .ok (.getfield 39, 3) := by decide +kernel
theorem d_X1_copyFrom_119 : decode prog_3_method_3_code 119 = .ok (.aload_n 0, 1) := by decide +kernel
theorem d_X1_copyFrom_120 : decode prog_3_method_3_code 120 = .ok (.getfield 39, 3) := by decide +kernel
theorem d_X1_copyFrom_123 : decode prog_3_method_3_code 123 = .ok (.invokestatic 52, 3) := by decide +kernel
theorem d_X1_copyFrom_126 : decode prog_3_method_3_code 126 = .ok (.return_, 1) := by decide +kernel
abbrev M_Mesh_copyFrom : zMT := (⟨"PeriodSlots$Mesh", "copyFrom", "(LPeriodSlots$Mesh;)V"⟩, prog_3_method_3_code, 2, none)
theorem k_Mesh_copyFrom : zcall M_Mesh_copyFrom 1 := ⟨zU_in (i := 378) (by decide +kernel) rfl, m56, ⟨by decide, by decide, by decide +kernel⟩, by decide⟩
def o_Mesh_copyFrom (h : zHp) (b : Nat) (o : Nat) : zHp :=
  (o_Mesh_copyRow (o_Mesh_copyRow (o_Mesh_copyRow (o_Mesh_copyRow (o_Mesh_copyRow (o_Mesh_copyRow (o_Mesh_copyRow (o_Mesh_copyRow (o_Mesh_copyRow (o_Mesh_copyRow (zup (zup h b 0 (h o 0)) b 1 ((zup h b 0 (h o 0)) o 1)) (o + 1) (b + 1)) (o + 2) (b + 2)) (o + 3) (b + 3)) (o + 4) (b + 4)) (o + 5) (b + 5)) (o + 6) (b + 6)) (o + 7) (b + 7)) (o + 8) (b + 8)) (o + 9) (b + 9)) (o + 10) (b + 10))
theorem fr_Mesh_copyFrom {h : zHp} {b : Nat} {o : Nat} (c k : Nat) (q0 : ¬ (c = b ∧ k = 0)) (q1 : ¬ (c = b ∧ k = 1)) (q2 : c ≠ b + 1) (q3 : c ≠ b + 2) (q4 : c ≠ b + 3) (q5 : c ≠ b + 4) (q6 : c ≠ b + 5) (q7 : c ≠ b + 6) (q8 : c ≠ b + 7) (q9 : c ≠ b + 8) (q10 : c ≠ b + 9) (q11 : c ≠ b + 10) : (o_Mesh_copyFrom h b o) c k = h c k := by
  unfold o_Mesh_copyFrom
  first | done | exact ((fr_Mesh_copyRow _ _ (by assumption)).trans ((fr_Mesh_copyRow _ _ (by assumption)).trans ((fr_Mesh_copyRow _ _ (by assumption)).trans ((fr_Mesh_copyRow _ _ (by assumption)).trans ((fr_Mesh_copyRow _ _ (by assumption)).trans ((fr_Mesh_copyRow _ _ (by assumption)).trans ((fr_Mesh_copyRow _ _ (by assumption)).trans ((fr_Mesh_copyRow _ _ (by assumption)).trans ((fr_Mesh_copyRow _ _ (by assumption)).trans ((fr_Mesh_copyRow _ _ (by assumption)).trans ((zup_fr (by omega)).trans (zup_fr (by omega)))))))))))))
set_option maxHeartbeats 400000 in
set_option maxRecDepth 20000 in
theorem c_Mesh_copyFrom (X : zXT) (h : zHp) (g : zLg) (b : Nat) (o : Nat) (hb : b = 3 ∨ b = 15 ∨ b = 27) (ho : o = 3 ∨ o = 15 ∨ o = 27) : zDi X M_Mesh_copyFrom 2 [zR X b, zR X o] h g none (o_Mesh_copyFrom h b o) g := by
  refine zDi_of "PeriodSlots$Mesh" prog_3_method_3_code 2 none rfl (by decide) [zO X b, zO X o] rfl (fun _ q => q) (Nat.le_of_ble_eq_true rfl) ?_
  intro Γ Q C hQ
  refine zr_aload_n C d_X1_copyFrom_0 rfl ?_
  refine zr_aload_n C d_X1_copyFrom_1 rfl ?_
  refine gf_Mesh_0 C ho m95 d_X1_copyFrom_2 ?_
  refine pf_Mesh_0 C hb m95 d_X1_copyFrom_5 ?_
  refine zr_h (fun h1 eh1 => ?_)
  refine zr_aload_n C d_X1_copyFrom_8 rfl ?_
  refine zr_aload_n C d_X1_copyFrom_9 rfl ?_
  refine gf_Mesh_1 C ho m99 d_X1_copyFrom_10 ?_
  refine pf_Mesh_1 C hb m99 d_X1_copyFrom_13 ?_
  refine zr_h (fun h2 eh2 => ?_)
  refine zr_aload_n C d_X1_copyFrom_16 rfl ?_
  refine gf_Mesh_3 C ho m104 d_X1_copyFrom_17 ?_
  refine zr_aload_n C d_X1_copyFrom_20 rfl ?_
  refine gf_Mesh_3 C hb m104 d_X1_copyFrom_21 ?_
  refine zr_callSv (As := [zR X (o + 1), zR X (b + 1)]) (st := []) C (c_Mesh_copyRow X h2 g (o + 1) (b + 1) (za_mesh_1 ho) (za_mesh_1 hb)) k_Mesh_copyRow m379 m380 rfl (by decide) rfl (Nat.le_of_ble_eq_true rfl) d_X1_copyFrom_24 ?_
  refine zr_h (fun h3 eh3 => ?_)
  refine zr_aload_n C d_X1_copyFrom_27 rfl ?_
  refine gf_Mesh_4 C ho m107 d_X1_copyFrom_28 ?_
  refine zr_aload_n C d_X1_copyFrom_31 rfl ?_
  refine gf_Mesh_4 C hb m107 d_X1_copyFrom_32 ?_
  refine zr_callSv (As := [zR X (o + 2), zR X (b + 2)]) (st := []) C (c_Mesh_copyRow X h3 g (o + 2) (b + 2) (za_mesh_2 ho) (za_mesh_2 hb)) k_Mesh_copyRow m379 m380 rfl (by decide) rfl (Nat.le_of_ble_eq_true rfl) d_X1_copyFrom_35 ?_
  refine zr_h (fun h4 eh4 => ?_)
  refine zr_aload_n C d_X1_copyFrom_38 rfl ?_
  refine gf_Mesh_5 C ho m111 d_X1_copyFrom_39 ?_
  refine zr_aload_n C d_X1_copyFrom_42 rfl ?_
  refine gf_Mesh_5 C hb m111 d_X1_copyFrom_43 ?_
  refine zr_callSv (As := [zR X (o + 3), zR X (b + 3)]) (st := []) C (c_Mesh_copyRow X h4 g (o + 3) (b + 3) (za_mesh_3 ho) (za_mesh_3 hb)) k_Mesh_copyRow m379 m380 rfl (by decide) rfl (Nat.le_of_ble_eq_true rfl) d_X1_copyFrom_46 ?_
  refine zr_h (fun h5 eh5 => ?_)
  refine zr_aload_n C d_X1_copyFrom_49 rfl ?_
  refine gf_Mesh_6 C ho m114 d_X1_copyFrom_50 ?_
  refine zr_aload_n C d_X1_copyFrom_53 rfl ?_
  refine gf_Mesh_6 C hb m114 d_X1_copyFrom_54 ?_
  refine zr_callSv (As := [zR X (o + 4), zR X (b + 4)]) (st := []) C (c_Mesh_copyRow X h5 g (o + 4) (b + 4) (za_mesh_4 ho) (za_mesh_4 hb)) k_Mesh_copyRow m379 m380 rfl (by decide) rfl (Nat.le_of_ble_eq_true rfl) d_X1_copyFrom_57 ?_
  refine zr_h (fun h6 eh6 => ?_)
  refine zr_aload_n C d_X1_copyFrom_60 rfl ?_
  refine gf_Mesh_7 C ho m117 d_X1_copyFrom_61 ?_
  refine zr_aload_n C d_X1_copyFrom_64 rfl ?_
  refine gf_Mesh_7 C hb m117 d_X1_copyFrom_65 ?_
  refine zr_callSv (As := [zR X (o + 5), zR X (b + 5)]) (st := []) C (c_Mesh_copyRow X h6 g (o + 5) (b + 5) (za_mesh_5 ho) (za_mesh_5 hb)) k_Mesh_copyRow m379 m380 rfl (by decide) rfl (Nat.le_of_ble_eq_true rfl) d_X1_copyFrom_68 ?_
  refine zr_h (fun h7 eh7 => ?_)
  refine zr_aload_n C d_X1_copyFrom_71 rfl ?_
  refine gf_Mesh_8 C ho m118 d_X1_copyFrom_72 ?_
  refine zr_aload_n C d_X1_copyFrom_75 rfl ?_
  refine gf_Mesh_8 C hb m118 d_X1_copyFrom_76 ?_
  refine zr_callSv (As := [zR X (o + 6), zR X (b + 6)]) (st := []) C (c_Mesh_copyRow X h7 g (o + 6) (b + 6) (za_mesh_6 ho) (za_mesh_6 hb)) k_Mesh_copyRow m379 m380 rfl (by decide) rfl (Nat.le_of_ble_eq_true rfl) d_X1_copyFrom_79 ?_
  refine zr_h (fun h8 eh8 => ?_)
  refine zr_aload_n C d_X1_copyFrom_82 rfl ?_
  refine gf_Mesh_9 C ho m121 d_X1_copyFrom_83 ?_
  refine zr_aload_n C d_X1_copyFrom_86 rfl ?_
  refine gf_Mesh_9 C hb m121 d_X1_copyFrom_87 ?_
  refine zr_callSv (As := [zR X (o + 7), zR X (b + 7)]) (st := []) C (c_Mesh_copyRow X h8 g (o + 7) (b + 7) (za_mesh_7 ho) (za_mesh_7 hb)) k_Mesh_copyRow m379 m380 rfl (by decide) rfl (Nat.le_of_ble_eq_true rfl) d_X1_copyFrom_90 ?_
  refine zr_h (fun h9 eh9 => ?_)
  refine zr_aload_n C d_X1_copyFrom_93 rfl ?_
  refine gf_Mesh_10 C ho m123 d_X1_copyFrom_94 ?_
  refine zr_aload_n C d_X1_copyFrom_97 rfl ?_
  refine gf_Mesh_10 C hb m123 d_X1_copyFrom_98 ?_
  refine zr_callSv (As := [zR X (o + 8), zR X (b + 8)]) (st := []) C (c_Mesh_copyRow X h9 g (o + 8) (b + 8) (za_mesh_8 ho) (za_mesh_8 hb)) k_Mesh_copyRow m379 m380 rfl (by decide) rfl (Nat.le_of_ble_eq_true rfl) d_X1_copyFrom_101 ?_
  refine zr_h (fun h10 eh10 => ?_)
  refine zr_aload_n C d_X1_copyFrom_104 rfl ?_
  refine gf_Mesh_11 C ho m124 d_X1_copyFrom_105 ?_
  refine zr_aload_n C d_X1_copyFrom_108 rfl ?_
  refine gf_Mesh_11 C hb m124 d_X1_copyFrom_109 ?_
  refine zr_callSv (As := [zR X (o + 9), zR X (b + 9)]) (st := []) C (c_Mesh_copyRow X h10 g (o + 9) (b + 9) (za_mesh_9 ho) (za_mesh_9 hb)) k_Mesh_copyRow m379 m380 rfl (by decide) rfl (Nat.le_of_ble_eq_true rfl) d_X1_copyFrom_112 ?_
  refine zr_h (fun h11 eh11 => ?_)
  refine zr_aload_n C d_X1_copyFrom_115 rfl ?_
  refine gf_Mesh_12 C ho m126 d_X1_copyFrom_116 ?_
  refine zr_aload_n C d_X1_copyFrom_119 rfl ?_
  refine gf_Mesh_12 C hb m126 d_X1_copyFrom_120 ?_
  refine zr_callSv (As := [zR X (o + 10), zR X (b + 10)]) (st := []) C (c_Mesh_copyRow X h11 g (o + 10) (b + 10) (za_mesh_10 ho) (za_mesh_10 hb)) k_Mesh_copyRow m379 m380 rfl (by decide) rfl (Nat.le_of_ble_eq_true rfl) d_X1_copyFrom_123 ?_
  refine zr_h (fun h12 eh12 => ?_)
  have eR : o_Mesh_copyFrom h b o = h12 := (by subst eh12 eh11 eh10 eh9 eh8 eh7 eh6 eh5 eh4 eh3 eh2 eh1; unfold o_Mesh_copyFrom; exact rfl)
  subst hQ
  rw [eR]
  exact zr_vret C d_X1_copyFrom_126
theorem d_X1_exists_0 : decode prog_3_method_6_code 0 = .ok (.iload_n 1, 1) := by decide +kernel
theorem d_X1_exists_1 : decode prog_3_method_6_code 1 = .ok (.ifCond .lt 15, 3) := by decide +kernel
theorem d_X1_exists_4 : decode prog_3_method_6_code 4 = .ok (.iload_n 1, 1) := by decide +kernel
theorem d_X1_exists_5 : decode prog_3_method_6_code 5 = .ok (.aload_n 0, 1) := by decide +kernel
theorem d_X1_exists_6 : decode prog_3_method_6_code 6 = .ok (.getfield 45, 3) := by decide +kernel
theorem d_X1_exists_9 : decode prog_3_method_6_code 9 = .ok (.if_icmp .ge 7, 3) := by decide +kernel
theorem d_X1_exists_12 : decode prog_3_method_6_code 12 = .ok (.iconst 1, 1) := by decide +kernel
theorem d_X1_exists_13 : decode prog_3_method_6_code 13 = .ok (.goto 4, 3) := by decide +kernel
theorem d_X1_exists_16 : decode prog_3_method_6_code 16 = .ok (.iconst 0, 1) := by decide +kernel
theorem d_X1_exists_17 : decode prog_3_method_6_code 17 = .ok (.ireturn, 1) := by decide +kernel
abbrev M_Mesh_exists : zMT := (⟨"PeriodSlots$Mesh", "exists", "(I)Z"⟩, prog_3_method_6_code, 2, (some .boolean))
theorem k_Mesh_exists : zcall M_Mesh_exists 1 := ⟨zU_in (i := 361) (by decide +kernel) rfl, m56, ⟨by decide, by decide, by decide +kernel⟩, by decide⟩
def o_Mesh_exists (h : zHp) (b : Nat) (v : Int32) : Bool :=
  (!(decide (v < 0)) && (!(decide ((h b 0) ≤ v))))
theorem rd_Mesh_exists {h h2 : zHp} {b : Nat} {v : Int32} (e0 : h2 b 0 = h b 0) : o_Mesh_exists h2 b v = o_Mesh_exists h b v := by
  unfold o_Mesh_exists
  simp only [e0]

set_option maxHeartbeats 400000 in
set_option maxRecDepth 20000 in
theorem c_Mesh_exists (X : zXT) (h : zHp) (g : zLg) (b : Nat) (v : Int32) (hb : b = 3 ∨ b = 15 ∨ b = 27) : zDi X M_Mesh_exists 0 [zR X b, .int v] h g (zI (zb (o_Mesh_exists h b v))) h g := by
  refine zDi_of "PeriodSlots$Mesh" prog_3_method_6_code 2 (some .boolean) rfl (by decide) [zO X b, zI v] rfl (fun _ q => q) (Nat.le_of_ble_eq_true rfl) ?_
  intro Γ Q C hQ
  refine zr_iload_n C d_X1_exists_0 rfl ?_
  suffices hJ1 : ∀ (y1 : Bool), (!(decide (v < 0)) && (!(decide ((h b 0) ≤ v)))) = y1 → zV X Γ Q 17 [none, none] [.int (zb y1)] h g by
    refine zr_if_lt C 16 d_X1_exists_1 (by decide) (fun c1 => ?_) (fun c1 => ?_)
    · refine zr_iconst C (v := 0) d_X1_exists_16 (by decide) ?_
      refine zr_lv [none, none] (by simp [zle]) ?_
      exact hJ1 false (by simp [c1])
    · refine zr_iload_n C d_X1_exists_4 rfl ?_
      refine zr_aload_n C d_X1_exists_5 rfl ?_
      refine gf_Mesh_0 C hb m95 d_X1_exists_6 ?_
      refine zr_icmp_ge C 16 d_X1_exists_9 (by decide) (fun c9 => ?_) (fun c9 => ?_)
      · refine zr_iconst C (v := 0) d_X1_exists_16 (by decide) ?_
        refine zr_lv [none, none] (by simp [zle]) ?_
        exact hJ1 false (by simp [c1, c9])
      · refine zr_iconst C (v := 1) d_X1_exists_12 (by decide) ?_
        refine zr_goto C 17 d_X1_exists_13 (by decide) ?_
        refine zr_lv [none, none] (by simp [zle]) ?_
        exact hJ1 true (by simp [c1, c9])
  intro y1 ey1
  have eR : o_Mesh_exists h b v = y1 := (by subst ey1; unfold o_Mesh_exists; exact rfl)
  subst hQ
  rw [eR]
  exact zr_iretz C (zb_01 _) d_X1_exists_17
theorem d_X1_wrapped_0 : decode prog_3_method_22_code 0 = .ok (.iload_n 2, 1) := by decide +kernel
theorem d_X1_wrapped_1 : decode prog_3_method_22_code 1 = .ok (.aload_n 0, 1) := by decide +kernel
theorem d_X1_wrapped_2 : decode prog_3_method_22_code 2 = .ok (.getfield 9, 3) := by decide +kernel
theorem d_X1_wrapped_5 : decode prog_3_method_22_code 5 = .ok (.iload_n 1, 1) := by decide +kernel
theorem d_X1_wrapped_6 : decode prog_3_method_22_code 6 = .ok (.iaload, 1) := by decide +kernel
theorem d_X1_wrapped_7 : decode prog_3_method_22_code 7 = .ok (.iconst 1, 1) := by decide +kernel
theorem d_X1_wrapped_8 : decode prog_3_method_22_code 8 = .ok (.isub, 1) := by decide +kernel
theorem d_X1_wrapped_9 : decode prog_3_method_22_code 9 = .ok (.iand, 1) := by decide +kernel
theorem d_X1_wrapped_10 : decode prog_3_method_22_code 10 = .ok (.ireturn, 1) := by decide +kernel
abbrev M_Mesh_wrapped : zMT := (⟨"PeriodSlots$Mesh", "wrapped", "(II)I"⟩, prog_3_method_22_code, 3, (some .int))
theorem k_Mesh_wrapped : zcall M_Mesh_wrapped 2 := ⟨zU_in (i := 297) (by decide +kernel) rfl, m56, ⟨by decide, by decide, by decide +kernel⟩, by decide⟩
def o_Mesh_wrapped (h : zHp) (b : Nat) (v : Nat) (offset : Int32) : Int32 :=
  (offset &&& ((h (b + 1) v) - 1))
theorem rd_Mesh_wrapped {h h2 : zHp} {b : Nat} {v : Nat} {offset : Int32} (e0 : h2 (b + 1) = h (b + 1)) : o_Mesh_wrapped h2 b v offset = o_Mesh_wrapped h b v offset := by
  unfold o_Mesh_wrapped
  simp only [e0]

set_option maxHeartbeats 400000 in
set_option maxRecDepth 20000 in
theorem c_Mesh_wrapped (X : zXT) (h : zHp) (g : zLg) (b : Nat) (v : Nat) (offset : Int32) {x_v : Int32} (e_v : x_v = nI v) (hb : b = 3 ∨ b = 15 ∨ b = 27) (hl0 : v < 8) : zDi X M_Mesh_wrapped 0 [zR X b, .int x_v, .int offset] h g (zI (o_Mesh_wrapped h b v offset)) h g := by
  subst e_v
  refine zDi_of "PeriodSlots$Mesh" prog_3_method_22_code 3 (some .int) rfl (by decide) [zO X b, zI (nI v), zI offset] rfl (fun _ q => q) (Nat.le_of_ble_eq_true rfl) ?_
  intro Γ Q C hQ
  refine zr_iload_n C d_X1_wrapped_0 rfl ?_
  refine zr_aload_n C d_X1_wrapped_1 rfl ?_
  refine gf_Mesh_3 C hb m104 d_X1_wrapped_2 ?_
  refine zr_iload_n C d_X1_wrapped_5 rfl ?_
  refine zr_iald C (za_mesh_1 hb) (v) rfl (by omega) (by decide) d_X1_wrapped_6 ?_
  refine zr_iconst C (v := 1) d_X1_wrapped_7 (by decide) ?_
  refine zr_isub C d_X1_wrapped_8 ?_
  refine zr_iand C d_X1_wrapped_9 ?_
  have eR : o_Mesh_wrapped h b v offset = (offset &&& ((h (b + 1) v) - 1)) := (by unfold o_Mesh_wrapped; exact rfl)
  subst hQ
  rw [eR]
  exact zr_ireti C d_X1_wrapped_10
theorem d_X1_ticksAt_0 : decode prog_3_method_23_code 0 = .ok (.iload_n 2, 1) := by decide +kernel
theorem d_X1_ticksAt_1 : decode prog_3_method_23_code 1 = .ok (.bipush (-9), 2) := by decide +kernel
theorem d_X1_ticksAt_3 : decode prog_3_method_23_code 3 = .ok (.if_icmp .ne 7, 3) := by decide +kernel
theorem d_X1_ticksAt_6 : decode prog_3_method_23_code 6 = .ok (.iconst 0, 1) := by decide +kernel
theorem d_X1_ticksAt_7 : decode prog_3_method_23_code 7 = .ok (.goto 11, 3) := by decide +kernel
theorem d_X1_ticksAt_10 : decode prog_3_method_23_code 10 = .ok (.aload_n 0, 1) := by decide +kernel
theorem d_X1_ticksAt_11 : decode prog_3_method_23_code 11 = .ok (.getfield 24, 3) := by decide +kernel
theorem d_X1_ticksAt_14 : decode prog_3_method_23_code 14 = .ok (.iload_n 1, 1) := by decide +kernel
theorem d_X1_ticksAt_15 : decode prog_3_method_23_code 15 = .ok (.iaload, 1) := by decide +kernel
theorem d_X1_ticksAt_16 : decode prog_3_method_23_code 16 = .ok (.iload_n 2, 1) := by decide +kernel
theorem d_X1_ticksAt_17 : decode prog_3_method_23_code 17 = .ok (.ishl, 1) := by decide +kernel
theorem d_X1_ticksAt_18 : decode prog_3_method_23_code 18 = .ok (.ireturn, 1) := by decide +kernel
abbrev M_Mesh_ticksAt : zMT := (⟨"PeriodSlots$Mesh", "ticksAt", "(II)I"⟩, prog_3_method_23_code, 3, (some .int))
theorem k_Mesh_ticksAt : zcall M_Mesh_ticksAt 2 := ⟨zU_in (i := 312) (by decide +kernel) rfl, m56, ⟨by decide, by decide, by decide +kernel⟩, by decide⟩
def o_Mesh_ticksAt (h : zHp) (b : Nat) (v : Nat) (offset : Int32) : Int32 :=
  (if offset = (-9) then 0 else (zshl (h (b + 5) v) offset))
theorem rd_Mesh_ticksAt {h h2 : zHp} {b : Nat} {v : Nat} {offset : Int32} (e0 : h2 (b + 5) = h (b + 5)) : o_Mesh_ticksAt h2 b v offset = o_Mesh_ticksAt h b v offset := by
  unfold o_Mesh_ticksAt
  simp only [e0]

set_option maxHeartbeats 400000 in
set_option maxRecDepth 20000 in
theorem c_Mesh_ticksAt (X : zXT) (h : zHp) (g : zLg) (b : Nat) (v : Nat) (offset : Int32) {x_v : Int32} (e_v : x_v = nI v) (hb : b = 3 ∨ b = 15 ∨ b = 27) (hl0 : v < 8) : zDi X M_Mesh_ticksAt 0 [zR X b, .int x_v, .int offset] h g (zI (o_Mesh_ticksAt h b v offset)) h g := by
  subst e_v
  refine zDi_of "PeriodSlots$Mesh" prog_3_method_23_code 3 (some .int) rfl (by decide) [zO X b, zI (nI v), zI offset] rfl (fun _ q => q) (Nat.le_of_ble_eq_true rfl) ?_
  intro Γ Q C hQ
  refine zr_iload_n C d_X1_ticksAt_0 rfl ?_
  refine zr_bipush C (v := (-9)) d_X1_ticksAt_1 (by decide) ?_
  suffices hJ3 : ∀ (y1 : Int32), (if offset = (-9) then 0 else (zshl (h (b + 5) v) offset)) = y1 → zV X Γ Q 18 [none, none, none] [.int y1] h g by
    refine zr_icmp_ne C 10 d_X1_ticksAt_3 (by decide) (fun c3 => ?_) (fun c3 => ?_)
    · refine zr_aload_n C d_X1_ticksAt_10 rfl ?_
      refine gf_Mesh_7 C hb m117 d_X1_ticksAt_11 ?_
      refine zr_iload_n C d_X1_ticksAt_14 rfl ?_
      refine zr_iald C (za_mesh_5 hb) (v) rfl (by omega) (by decide) d_X1_ticksAt_15 ?_
      refine zr_iload_n C d_X1_ticksAt_16 rfl ?_
      refine zr_ishl C d_X1_ticksAt_17 ?_
      refine zr_lv [none, none, none] (by simp [zle]) ?_
      exact hJ3 (zshl (h (b + 5) v) offset) (((if_neg c3)))
    · refine zr_iconst C (v := 0) d_X1_ticksAt_6 (by decide) ?_
      refine zr_goto C 18 d_X1_ticksAt_7 (by decide) ?_
      refine zr_lv [none, none, none] (by simp [zle]) ?_
      exact hJ3 0 (((if_pos c3)))
  intro y1 ey1
  have eR : o_Mesh_ticksAt h b v offset = y1 := (by subst ey1; unfold o_Mesh_ticksAt; exact rfl)
  subst hQ
  rw [eR]
  exact zr_ireti C d_X1_ticksAt_18
theorem d_X1_markTicks_0 : decode prog_3_method_24_code 0 = .ok (.iconst 0, 1) := by decide +kernel
theorem d_X1_markTicks_1 : decode prog_3_method_24_code 1 = .ok (.istore_n 1, 1) := by decide +kernel
theorem d_X1_markTicks_2 : decode prog_3_method_24_code 2 = .ok (.iload_n 1, 1) := by decide +kernel
theorem d_X1_markTicks_3 : decode prog_3_method_24_code 3 = .ok (.aload_n 0, 1) := by decide +kernel
theorem d_X1_markTicks_4 : decode prog_3_method_24_code 4 = .ok (.getfield 45, 3) := by decide +kernel
theorem d_X1_markTicks_7 : decode prog_3_method_24_code 7 = .ok (.if_icmp .ge 50, 3) := by decide +kernel
theorem d_X1_markTicks_10 : decode prog_3_method_24_code 10 = .ok (.aload_n 0, 1) := by decide +kernel
theorem d_X1_markTicks_11 : decode prog_3_method_24_code 11 = .ok (.getfield 36, 3) := by decide +kernel
theorem d_X1_markTicks_14 : decode prog_3_method_24_code 14 = .ok (.iload_n 1, 1) := by decide +kernel
theorem d_X1_markTicks_15 : decode prog_3_method_24_code 15 = .ok (.aload_n 0, 1) := by decide +kernel
theorem d_X1_markTicks_16 : decode prog_3_method_24_code 16 = .ok (.iload_n 1, 1) := by decide +kernel
theorem d_X1_markTicks_17 : decode prog_3_method_24_code 17 = .ok (.aload_n 0, 1) := by decide +kernel
theorem d_X1_markTicks_18 : decode prog_3_method_24_code 18 = .ok (.getfield 18, 3) := by decide +kernel
theorem d_X1_markTicks_21 : decode prog_3_method_24_code 21 = .ok (.iload_n 1, 1) := by decide +kernel
theorem d_X1_markTicks_22 : decode prog_3_method_24_code 22 = .ok (.iaload, 1) := by decide +kernel
theorem d_X1_markTicks_23 : decode prog_3_method_24_code 23 = .ok (.invokevirtual 119, 3) := by decide +kernel
theorem d_X1_markTicks_26 : decode prog_3_method_24_code 26 = .ok (.iastore, 1) := by decide +kernel
theorem d_X1_markTicks_27 : decode prog_3_method_24_code 27 = .ok (.aload_n 0, 1) := by decide +kernel
theorem d_X1_markTicks_28 : decode prog_3_method_24_code 28 = .ok (.getfield 39, 3) := by decide +kernel
theorem d_X1_markTicks_31 : decode prog_3_method_24_code 31 = .ok (.iload_n 1, 1) := by decide +kernel
theorem d_X1_markTicks_32 : decode prog_3_method_24_code 32 = .ok (.aload_n 0, 1) := by decide +kernel
theorem d_X1_markTicks_33 : decode prog_3_method_24_code 33 = .ok (.getfield 36, 3) := by decide +kernel
theorem d_X1_markTicks_36 : decode prog_3_method_24_code 36 = .ok (.iload_n 1, 1) := by decide +kernel
theorem d_X1_markTicks_37 : decode prog_3_method_24_code 37 = .ok (.iaload, 1) := by decide +kernel
theorem d_X1_markTicks_38 : decode prog_3_method_24_code 38 = .ok (.aload_n 0, 1) := by decide +kernel
theorem d_X1_markTicks_39 : decode prog_3_method_24_code 39 = .ok (.iload_n 1, 1) := by decide +kernel
theorem d_X1_markTicks_40 : decode prog_3_method_24_code 40 = .ok (.aload_n 0, 1) := by decide +kernel
theorem d_X1_markTicks_41 : decode prog_3_method_24_code 41 = .ok (.getfield 21, 3) := by decide +kernel
theorem d_X1_markTicks_44 : decode prog_3_method_24_code 44 = .ok (.iload_n 1, 1) := by decide +kernel
theorem d_X1_markTicks_45 : decode prog_3_method_24_code 45 = .ok (.iaload, 1) := by decide +kernel
theorem d_X1_markTicks_46 : decode prog_3_method_24_code 46 = .ok (.invokevirtual 119, 3) := by decide +kernel
theorem d_X1_markTicks_49 : decode prog_3_method_24_code 49 = .ok (.ior, 1) := by decide +kernel
theorem d_X1_markTicks_50 : decode prog_3_method_24_code 50 = .ok (.iastore, 1) := by decide +kernel
theorem d_X1_markTicks_51 : decode prog_3_method_24_code 51 = .ok (.iinc 1 1, 3) := by decide +kernel
theorem d_X1_markTicks_54 : decode prog_3_method_24_code 54 = .ok (.goto (-52), 3) := by decide +kernel
theorem d_X1_markTicks_57 : decode prog_3_method_24_code 57 = .ok (.return_, 1) := by decide +kernel
abbrev M_Mesh_markTicks : zMT := (⟨"PeriodSlots$Mesh", "markTicks", "()V"⟩, prog_3_method_24_code, 2, none)
theorem k_Mesh_markTicks : zcall M_Mesh_markTicks 0 := ⟨zU_in (i := 308) (by decide +kernel) rfl, m56, ⟨by decide, by decide, by decide +kernel⟩, by decide⟩
def o_Mesh_markTicks (h : zHp) (b : Nat) : zHp :=
  (zrep (fun (i2_1 : Nat) (s2_1 : zHp) => (zup (zup s2_1 (b + 9) i2_1 (o_Mesh_ticksAt h b i2_1 (h (b + 3) i2_1))) (b + 10) i2_1 ((o_Mesh_ticksAt h b i2_1 (h (b + 3) i2_1)) ||| (o_Mesh_ticksAt h b i2_1 (h (b + 4) i2_1))))) h (zcn (h b 0)))
theorem fr_Mesh_markTicks {h : zHp} {b : Nat} (c k : Nat) (q0 : c ≠ b + 9) (q1 : c ≠ b + 10) : (o_Mesh_markTicks h b) c k = h c k := by
  unfold o_Mesh_markTicks
  have hI2_1 := zrep_inv (f := (fun (i2_1 : Nat) (s2_1 : zHp) => (zup (zup s2_1 (b + 9) i2_1 (o_Mesh_ticksAt h b i2_1 (h (b + 3) i2_1))) (b + 10) i2_1 ((o_Mesh_ticksAt h b i2_1 (h (b + 3) i2_1)) ||| (o_Mesh_ticksAt h b i2_1 (h (b + 4) i2_1)))))) (a := h) (fun _ s2_1 => ∀ c k : Nat, c ≠ b + 9 → c ≠ b + 10 → s2_1 c k = h c k) (zcn (h b 0)) (fun _ _ _ _ => rfl) (fun i2_1 s2_1 hi2_1 hI2_1 => (fun c k q0 q1 => (by (try dsimp only); exact ((zup_fr (Or.inl (by assumption))).trans ((zup_fr (Or.inl (by assumption))).trans (hI2_1 _ _ (by assumption) (by assumption)))))))
  first | done | exact (hI2_1 _ _ (by assumption) (by assumption))
set_option maxHeartbeats 400000 in
set_option maxRecDepth 20000 in
theorem c_Mesh_markTicks (X : zXT) (h : zHp) (g : zLg) (b : Nat) (hb : b = 3 ∨ b = 15 ∨ b = 27) (hf0 : zfit h b 0 8) : zDi X M_Mesh_markTicks 1 [zR X b] h g none (o_Mesh_markTicks h b) g := by
  have hf0_1 := hf0.1
  refine zDi_of "PeriodSlots$Mesh" prog_3_method_24_code 2 none rfl (by decide) [zO X b, none] rfl (fun _ q => q) (Nat.le_of_ble_eq_true rfl) ?_
  intro Γ Q C hQ
  refine zr_iconst C (v := 0) d_X1_markTicks_0 (by decide) ?_
  refine zr_istore_n C [zO X b, zI 0] d_X1_markTicks_1 (Nat.le_of_ble_eq_true rfl) rfl rfl ?_
  refine zfor (f := (fun (i2_1 : Nat) (s2_1 : zHp) => (zup (zup s2_1 (b + 9) i2_1 (o_Mesh_ticksAt h b i2_1 (h (b + 3) i2_1))) (b + 10) i2_1 ((o_Mesh_ticksAt h b i2_1 (h (b + 3) i2_1)) ||| (o_Mesh_ticksAt h b i2_1 (h (b + 4) i2_1)))))) (a := h) (fun i2_1 s2_1 => zV X Γ Q 2 [zO X b, zI (nI i2_1)] [] s2_1 g) (fun _ s2_1 => ∀ c k : Nat, c ≠ b + 9 → c ≠ b + 10 → s2_1 c k = h c k) (zcn (h b 0)) (fun _ _ _ _ => rfl) (fun i2_1 s2_1 hi2_1 hI2_1 => ⟨(fun c k q0 q1 => (by (try dsimp only); exact ((zup_fr (Or.inl (by assumption))).trans ((zup_fr (Or.inl (by assumption))).trans (hI2_1 _ _ (by assumption) (by assumption)))))), fun hk2_1 => ?_⟩) (fun r2_1 er2_1 hI2_1 => ?_)
  · refine zr_iload_n C d_X1_markTicks_2 rfl ?_
    refine zr_aload_n C d_X1_markTicks_3 rfl ?_
    refine gf_Mesh_0 C hb m95 d_X1_markTicks_4 ?_
    refine zr_top (hI2_1 _ _ (by omega) (by omega)) ?_
    refine zr_icmp_ge C 57 d_X1_markTicks_7 (by decide) (fun c => absurd c (zge_no rfl (by omega))) (fun _ => ?_)
    refine zr_aload_n C d_X1_markTicks_10 rfl ?_
    refine gf_Mesh_11 C hb m124 d_X1_markTicks_11 ?_
    refine zr_iload_n C d_X1_markTicks_14 rfl ?_
    refine zr_aload_n C d_X1_markTicks_15 rfl ?_
    refine zr_iload_n C d_X1_markTicks_16 rfl ?_
    refine zr_aload_n C d_X1_markTicks_17 rfl ?_
    refine gf_Mesh_5 C hb m111 d_X1_markTicks_18 ?_
    refine zr_iload_n C d_X1_markTicks_21 rfl ?_
    refine zr_iald C (za_mesh_3 hb) (i2_1) rfl (by omega) (by decide) d_X1_markTicks_22 ?_
    refine zr_top (hI2_1 _ _ (by omega) (by omega)) ?_
    refine zr_callVi (As := [.int (nI i2_1), .int (h (b + 3) i2_1)]) (st := [.int (nI i2_1), zR X (b + 9)]) (c := b) C (c_Mesh_ticksAt X s2_1 g b i2_1 (h (b + 3) i2_1) rfl hb (by omega)) k_Mesh_ticksAt m309 m310 m311 (by omega) (zC_Mesh hb X _ _) rfl rfl (by decide) rfl (Nat.le_of_ble_eq_true rfl) d_X1_markTicks_23 ?_
    refine zr_top (rd_Mesh_ticksAt (funext fun kk => (hI2_1 _ _ (by omega) (by omega)))) ?_
    refine zr_iast C (za_mesh_9 hb) (i2_1) rfl (by omega) (by decide) d_X1_markTicks_26 ?_
    refine zr_h (fun h2 eh2 => ?_)
    refine zr_aload_n C d_X1_markTicks_27 rfl ?_
    refine gf_Mesh_12 C hb m126 d_X1_markTicks_28 ?_
    refine zr_iload_n C d_X1_markTicks_31 rfl ?_
    refine zr_aload_n C d_X1_markTicks_32 rfl ?_
    refine gf_Mesh_11 C hb m124 d_X1_markTicks_33 ?_
    refine zr_iload_n C d_X1_markTicks_36 rfl ?_
    refine zr_iald C (za_mesh_9 hb) (i2_1) rfl (by omega) (by decide) d_X1_markTicks_37 ?_
    refine zr_top ((congrFun (congrFun eh2.symm _) _).trans zup_at) ?_
    refine zr_aload_n C d_X1_markTicks_38 rfl ?_
    refine zr_iload_n C d_X1_markTicks_39 rfl ?_
    refine zr_aload_n C d_X1_markTicks_40 rfl ?_
    refine gf_Mesh_6 C hb m114 d_X1_markTicks_41 ?_
    refine zr_iload_n C d_X1_markTicks_44 rfl ?_
    refine zr_iald C (za_mesh_4 hb) (i2_1) rfl (by omega) (by decide) d_X1_markTicks_45 ?_
    refine zr_top ((congrFun (congrFun eh2.symm _) _).trans ((zup_fr (by omega)).trans (hI2_1 _ _ (by omega) (by omega)))) ?_
    refine zr_callVi (As := [.int (nI i2_1), .int (h (b + 4) i2_1)]) (st := [.int (o_Mesh_ticksAt h b i2_1 (h (b + 3) i2_1)), .int (nI i2_1), zR X (b + 10)]) (c := b) C (c_Mesh_ticksAt X h2 g b i2_1 (h (b + 4) i2_1) rfl hb (by omega)) k_Mesh_ticksAt m309 m310 m311 (by omega) (zC_Mesh hb X _ _) rfl rfl (by decide) rfl (Nat.le_of_ble_eq_true rfl) d_X1_markTicks_46 ?_
    refine zr_top (rd_Mesh_ticksAt (funext fun kk => ((congrFun (congrFun eh2.symm _) _).trans ((zup_fr (by omega)).trans (hI2_1 _ _ (by omega) (by omega)))))) ?_
    refine zr_ior C d_X1_markTicks_49 ?_
    refine zr_iast C (za_mesh_10 hb) (i2_1) rfl (by omega) (by decide) d_X1_markTicks_50 ?_
    refine zr_h (fun h3 eh3 => ?_)
    refine zr_iinc C [zO X b, zI (nI (i2_1 + 1))] (v := (nI (i2_1 + 1))) d_X1_markTicks_51 rfl (zn_add rfl rfl) (Nat.le_of_ble_eq_true rfl) rfl rfl ?_
    refine zr_goto C 2 d_X1_markTicks_54 (by decide) ?_
    exact hk2_1 h3 (by subst eh3 eh2; exact rfl)
  refine zr_iload_n C d_X1_markTicks_2 rfl ?_
  refine zr_aload_n C d_X1_markTicks_3 rfl ?_
  refine gf_Mesh_0 C hb m95 d_X1_markTicks_4 ?_
  refine zr_top (hI2_1 _ _ (by omega) (by omega)) ?_
  refine zr_icmp_ge C 57 d_X1_markTicks_7 (by decide) (fun _ => ?_) (fun c => absurd (zge_yes rfl (by omega) (by have := zcn_small (h b 0); omega)) c)
  have eR : o_Mesh_markTicks h b = r2_1 := (by subst er2_1; unfold o_Mesh_markTicks; exact rfl)
  subst hQ
  rw [eR]
  exact zr_vret C d_X1_markTicks_57
theorem d_X1_dropOlds_0 : decode prog_3_method_33_code 0 = .ok (.aload_n 0, 1) := by decide +kernel
theorem d_X1_dropOlds_1 : decode prog_3_method_33_code 1 = .ok (.getfield 21, 3) := by decide +kernel
theorem d_X1_dropOlds_4 : decode prog_3_method_33_code 4 = .ok (.bipush (-9), 2) := by decide +kernel
theorem d_X1_dropOlds_6 : decode prog_3_method_33_code 6 = .ok (.invokestatic 128, 3) := by decide +kernel
theorem d_X1_dropOlds_9 : decode prog_3_method_33_code 9 = .ok (.aload_n 0, 1) := by decide +kernel
theorem d_X1_dropOlds_10 : decode prog_3_method_33_code 10 = .ok (.invokevirtual 134, 3) := by decide +kernel
theorem d_X1_dropOlds_13 : decode prog_3_method_33_code 13 = .ok (.return_, 1) := by decide +kernel
abbrev M_Mesh_dropOlds : zMT := (⟨"PeriodSlots$Mesh", "dropOlds", "()V"⟩, prog_3_method_33_code, 1, none)
theorem k_Mesh_dropOlds : zcall M_Mesh_dropOlds 0 := ⟨zU_in (i := 301) (by decide +kernel) rfl, m56, ⟨by decide, by decide, by decide +kernel⟩, by decide⟩
def o_Mesh_dropOlds (h : zHp) (b : Nat) : zHp :=
  (o_Mesh_markTicks (o_Arr_fill h (b + 4) (-9)) b)
theorem fr_Mesh_dropOlds {h : zHp} {b : Nat} (c k : Nat) (q0 : c ≠ b + 4) (q1 : c ≠ b + 9) (q2 : c ≠ b + 10) : (o_Mesh_dropOlds h b) c k = h c k := by
  unfold o_Mesh_dropOlds
  first | done | exact ((fr_Mesh_markTicks _ _ (by assumption) (by assumption)).trans (fr_Arr_fill _ _ (by assumption)))
set_option maxHeartbeats 400000 in
set_option maxRecDepth 20000 in
theorem c_Mesh_dropOlds (X : zXT) (h : zHp) (g : zLg) (b : Nat) (hb : b = 3 ∨ b = 15 ∨ b = 27) (hf0 : zfit h b 0 8) : zDi X M_Mesh_dropOlds 2 [zR X b] h g none (o_Mesh_dropOlds h b) g := by
  have hf0_1 := hf0.1
  refine zDi_of "PeriodSlots$Mesh" prog_3_method_33_code 1 none rfl (by decide) [zO X b] rfl (fun _ q => q) (Nat.le_of_ble_eq_true rfl) ?_
  intro Γ Q C hQ
  refine zr_aload_n C d_X1_dropOlds_0 rfl ?_
  refine gf_Mesh_6 C hb m114 d_X1_dropOlds_1 ?_
  refine zr_bipush C (v := (-9)) d_X1_dropOlds_4 (by decide) ?_
  refine zr_callSv (As := [zR X (b + 4), .int (-9)]) (st := []) C (c_Arr_fill X h g (b + 4) (-9) (za_mesh_4 hb)) k_Arr_fill m302 m303 rfl (by decide) rfl (Nat.le_of_ble_eq_true rfl) d_X1_dropOlds_6 ?_
  refine zr_h (fun h1 eh1 => ?_)
  refine zr_aload_n C d_X1_dropOlds_9 rfl ?_
  refine zr_callVv (As := []) (st := []) (c := b) C (c_Mesh_markTicks X h1 g b hb (zfit_fr ((congrFun (congrFun eh1.symm _) _).trans (fr_Arr_fill _ _ (by omega))) hf0)) k_Mesh_markTicks m305 m306 m307 (by omega) (zC_Mesh hb X _ _) rfl rfl (by decide) rfl (Nat.le_of_ble_eq_true rfl) d_X1_dropOlds_10 ?_
  refine zr_h (fun h2 eh2 => ?_)
  have eR : o_Mesh_dropOlds h b = h2 := (by subst eh2 eh1; unfold o_Mesh_dropOlds; exact rfl)
  subst hQ
  rw [eR]
  exact zr_vret C d_X1_dropOlds_13
theorem d_X1_neighboursOf_0 : decode prog_3_method_15_code 0 = .ok (.iconst 0, 1) := by decide +kernel
theorem d_X1_neighboursOf_1 : decode prog_3_method_15_code 1 = .ok (.istore_n 2, 1) := by decide +kernel
theorem d_X1_neighboursOf_2 : decode prog_3_method_15_code 2 = .ok (.iconst 0, 1) := by decide +kernel
theorem d_X1_neighboursOf_3 : decode prog_3_method_15_code 3 = .ok (.istore_n 3, 1) := by decide +kernel
theorem d_X1_neighboursOf_4 : decode prog_3_method_15_code 4 = .ok (.iload_n 3, 1) := by decide +kernel
theorem d_X1_neighboursOf_5 : decode prog_3_method_15_code 5 = .ok (.aload_n 0, 1) := by decide +kernel
theorem d_X1_neighboursOf_6 : decode prog_3_method_15_code 6 = .ok (.getfield 45, 3) := by decide +kernel
theorem d_X1_neighboursOf_9 : decode prog_3_method_15_code 9 = .ok (.if_icmp .ge 26, 3) := by decide +kernel
theorem d_X1_neighboursOf_12 : decode prog_3_method_15_code 12 = .ok (.iload_n 1, 1) := by decide +kernel
theorem d_X1_neighboursOf_13 : decode prog_3_method_15_code 13 = .ok (.iload_n 3, 1) := by decide +kernel
theorem d_X1_neighboursOf_14 : decode prog_3_method_15_code 14 = .ok (.invokestatic 89, 3) := by decide +kernel
theorem d_X1_neighboursOf_17 : decode prog_3_method_15_code 17 = .ok (.ifCond .eq 12, 3) := by decide +kernel
theorem d_X1_neighboursOf_20 : decode prog_3_method_15_code 20 = .ok (.iload_n 2, 1) := by decide +kernel
theorem d_X1_neighboursOf_21 : decode prog_3_method_15_code 21 = .ok (.aload_n 0, 1) := by decide +kernel
theorem d_X1_neighboursOf_22 : decode prog_3_method_15_code 22 = .ok (.getfield 15, 3) := by decide +kernel
theorem d_X1_neighboursOf_25 : decode prog_3_method_15_code 25 = .ok (.iload_n 3, 1) := by decide +kernel
theorem d_X1_neighboursOf_26 : decode prog_3_method_15_code 26 = .ok (.iaload, 1) := by decide +kernel
theorem d_X1_neighboursOf_27 : decode prog_3_method_15_code 27 = .ok (.ior, 1) := by decide +kernel
theorem d_X1_neighboursOf_28 : decode prog_3_method_15_code 28 = .ok (.istore_n 2, 1) := by decide +kernel
theorem d_X1_neighboursOf_29 : decode prog_3_method_15_code 29 = .ok (.iinc 3 1, 3) := by decide +kernel
theorem d_X1_neighboursOf_32 : decode prog_3_method_15_code 32 = .ok (.goto (-28), 3) := by decide +kernel
theorem d_X1_neighboursOf_35 : decode prog_3_method_15_code 35 = .ok (.iload_n 2, 1) := by decide +kernel
theorem d_X1_neighboursOf_36 : decode prog_3_method_15_code 36 = .ok (.ireturn, 1) := by decide +kernel
abbrev M_Mesh_neighboursOf : zMT := (⟨"PeriodSlots$Mesh", "neighboursOf", "(I)I"⟩, prog_3_method_15_code, 4, (some .int))
theorem k_Mesh_neighboursOf : zcall M_Mesh_neighboursOf 1 := ⟨zU_in (i := 320) (by decide +kernel) rfl, m56, ⟨by decide, by decide, by decide +kernel⟩, by decide⟩
def o_Mesh_neighboursOf (h : zHp) (b : Nat) (set : Int32) : Int32 :=
  (zrep (fun (i4_1 : Nat) (s4_1 : Int32) => (if (o_Slots_has set (nI i4_1)) = true then (s4_1 ||| (h (b + 2) i4_1)) else s4_1)) 0 (zcn (h b 0)))
theorem rd_Mesh_neighboursOf {h h2 : zHp} {b : Nat} {set : Int32} (e0 : h2 (b + 2) = h (b + 2)) (e1 : h2 b 0 = h b 0) : o_Mesh_neighboursOf h2 b set = o_Mesh_neighboursOf h b set := by
  unfold o_Mesh_neighboursOf
  simp only [e0, e1]

set_option maxHeartbeats 400000 in
set_option maxRecDepth 20000 in
theorem c_Mesh_neighboursOf (X : zXT) (h : zHp) (g : zLg) (b : Nat) (set : Int32) (hb : b = 3 ∨ b = 15 ∨ b = 27) (hf0 : zfit h b 0 8) : zDi X M_Mesh_neighboursOf 1 [zR X b, .int set] h g (zI (o_Mesh_neighboursOf h b set)) h g := by
  have hf0_1 := hf0.1
  refine zDi_of "PeriodSlots$Mesh" prog_3_method_15_code 4 (some .int) rfl (by decide) [zO X b, zI set, none, none] rfl (fun _ q => q) (Nat.le_of_ble_eq_true rfl) ?_
  intro Γ Q C hQ
  refine zr_iconst C (v := 0) d_X1_neighboursOf_0 (by decide) ?_
  refine zr_istore_n C [zO X b, zI set, zI 0, none] d_X1_neighboursOf_1 (Nat.le_of_ble_eq_true rfl) rfl rfl ?_
  refine zr_iconst C (v := 0) d_X1_neighboursOf_2 (by decide) ?_
  refine zr_istore_n C [zO X b, zI set, zI 0, zI 0] d_X1_neighboursOf_3 (Nat.le_of_ble_eq_true rfl) rfl rfl ?_
  refine zfor (f := (fun (i4_1 : Nat) (s4_1 : Int32) => (if (o_Slots_has set (nI i4_1)) = true then (s4_1 ||| (h (b + 2) i4_1)) else s4_1))) (a := 0) (fun i4_1 s4_1 => zV X Γ Q 4 [zO X b, zI set, zI s4_1, zI (nI i4_1)] [] h g) (fun _ _ => True) (zcn (h b 0)) trivial (fun i4_1 s4_1 hi4_1 hI4_1 => ⟨trivial, fun hk4_1 => ?_⟩) (fun r4_1 er4_1 hI4_1 => ?_)
  · refine zr_iload_n C d_X1_neighboursOf_4 rfl ?_
    refine zr_aload_n C d_X1_neighboursOf_5 rfl ?_
    refine gf_Mesh_0 C hb m95 d_X1_neighboursOf_6 ?_
    refine zr_icmp_ge C 35 d_X1_neighboursOf_9 (by decide) (fun c => absurd c (zge_no rfl (by omega))) (fun _ => ?_)
    refine zr_iload_n C d_X1_neighboursOf_12 rfl ?_
    refine zr_iload_n C d_X1_neighboursOf_13 rfl ?_
    refine zr_callNi (As := [.int set, .int (nI i4_1)]) (st := []) C (c_Slots_has X h g set (nI i4_1)) k_Slots_has (by simp [zNest]) m322 rfl (by decide) rfl (Nat.le_of_ble_eq_true rfl) d_X1_neighboursOf_14 ?_
    suffices hJ17 : ∀ (y2 : Int32), (if (o_Slots_has set (nI i4_1)) = true then (s4_1 ||| (h (b + 2) i4_1)) else s4_1) = y2 → zV X Γ Q 29 [zO X b, zI set, zI y2, zI (nI i4_1)] [] h g by
      refine zr_ifz_eq C 29 d_X1_neighboursOf_17 (by decide) (fun c17 => ?_) (fun c17 => ?_)
      · exact hJ17 s4_1 (((if_neg (zbf c17))))
      · refine zr_iload_n C d_X1_neighboursOf_20 rfl ?_
        refine zr_aload_n C d_X1_neighboursOf_21 rfl ?_
        refine gf_Mesh_4 C hb m107 d_X1_neighboursOf_22 ?_
        refine zr_iload_n C d_X1_neighboursOf_25 rfl ?_
        refine zr_iald C (za_mesh_2 hb) (i4_1) rfl (by omega) (by decide) d_X1_neighboursOf_26 ?_
        refine zr_ior C d_X1_neighboursOf_27 ?_
        refine zr_istore_n C [zO X b, zI set, zI (s4_1 ||| (h (b + 2) i4_1)), zI (nI i4_1)] d_X1_neighboursOf_28 (Nat.le_of_ble_eq_true rfl) rfl rfl ?_
        exact hJ17 (s4_1 ||| (h (b + 2) i4_1)) (((if_pos c17)))
    intro y2 ey2
    refine zr_iinc C [zO X b, zI set, zI y2, zI (nI (i4_1 + 1))] (v := (nI (i4_1 + 1))) d_X1_neighboursOf_29 rfl (zn_add rfl rfl) (Nat.le_of_ble_eq_true rfl) rfl rfl ?_
    refine zr_goto C 4 d_X1_neighboursOf_32 (by decide) ?_
    exact hk4_1 y2 (by subst ey2; exact rfl)
  refine zr_iload_n C d_X1_neighboursOf_4 rfl ?_
  refine zr_aload_n C d_X1_neighboursOf_5 rfl ?_
  refine gf_Mesh_0 C hb m95 d_X1_neighboursOf_6 ?_
  refine zr_icmp_ge C 35 d_X1_neighboursOf_9 (by decide) (fun _ => ?_) (fun c => absurd (zge_yes rfl (by omega) (by have := zcn_small (h b 0); omega)) c)
  refine zr_iload_n C d_X1_neighboursOf_35 rfl ?_
  have eR : o_Mesh_neighboursOf h b set = r4_1 := (by subst er4_1; unfold o_Mesh_neighboursOf; exact rfl)
  subst hQ
  rw [eR]
  exact zr_ireti C d_X1_neighboursOf_36
theorem d_X1_priority_0 : decode prog_3_method_20_code 0 = .ok (.ldc2_w 111, 3) := by decide +kernel
theorem d_X1_priority_3 : decode prog_3_method_20_code 3 = .ok (.ldc2_w 113, 3) := by decide +kernel
theorem d_X1_priority_6 : decode prog_3_method_20_code 6 = .ok (.iload_n 1, 1) := by decide +kernel
theorem d_X1_priority_7 : decode prog_3_method_20_code 7 = .ok (.i2l, 1) := by decide +kernel
theorem d_X1_priority_8 : decode prog_3_method_20_code 8 = .ok (.lmul, 1) := by decide +kernel
theorem d_X1_priority_9 : decode prog_3_method_20_code 9 = .ok (.ladd, 1) := by decide +kernel
theorem d_X1_priority_10 : decode prog_3_method_20_code 10 = .ok (.ldc2_w 115, 3) := by decide +kernel
theorem d_X1_priority_13 : decode prog_3_method_20_code 13 = .ok (.aload_n 0, 1) := by decide +kernel
theorem d_X1_priority_14 : decode prog_3_method_20_code 14 = .ok (.getfield 49, 3) := by decide +kernel
theorem d_X1_priority_17 : decode prog_3_method_20_code 17 = .ok (.i2l, 1) := by decide +kernel
theorem d_X1_priority_18 : decode prog_3_method_20_code 18 = .ok (.lmul, 1) := by decide +kernel
theorem d_X1_priority_19 : decode prog_3_method_20_code 19 = .ok (.ladd, 1) := by decide +kernel
theorem d_X1_priority_20 : decode prog_3_method_20_code 20 = .ok (.ldc2_w 117, 3) := by decide +kernel
theorem d_X1_priority_23 : decode prog_3_method_20_code 23 = .ok (.lrem, 1) := by decide +kernel
theorem d_X1_priority_24 : decode prog_3_method_20_code 24 = .ok (.lstore_n 2, 1) := by decide +kernel
theorem d_X1_priority_25 : decode prog_3_method_20_code 25 = .ok (.lload_n 2, 1) := by decide +kernel
theorem d_X1_priority_26 : decode prog_3_method_20_code 26 = .ok (.lload_n 2, 1) := by decide +kernel
theorem d_X1_priority_27 : decode prog_3_method_20_code 27 = .ok (.lmul, 1) := by decide +kernel
theorem d_X1_priority_28 : decode prog_3_method_20_code 28 = .ok (.lload_n 2, 1) := by decide +kernel
theorem d_X1_priority_29 : decode prog_3_method_20_code 29 = .ok (.lmul, 1) := by decide +kernel
theorem d_X1_priority_30 : decode prog_3_method_20_code 30 = .ok (.ldc2_w 117, 3) := by decide +kernel
theorem d_X1_priority_33 : decode prog_3_method_20_code 33 = .ok (.lrem, 1) := by decide +kernel
theorem d_X1_priority_34 : decode prog_3_method_20_code 34 = .ok (.l2i, 1) := by decide +kernel
theorem d_X1_priority_35 : decode prog_3_method_20_code 35 = .ok (.ireturn, 1) := by decide +kernel
abbrev M_Mesh_priority : zMT := (⟨"PeriodSlots$Mesh", "priority", "(I)I"⟩, prog_3_method_20_code, 4, (some .int))
theorem k_Mesh_priority : zcall M_Mesh_priority 1 := ⟨zU_in (i := 331) (by decide +kernel) rfl, m56, ⟨by decide, by decide, by decide +kernel⟩, by decide⟩
def o_Mesh_priority (h : zHp) (b : Nat) (v : Int32) : Int32 :=
  (Int64.toInt32 (zlrem (((zlrem ((7 + (37 * (Int32.toInt64 v))) + (101 * (Int32.toInt64 (h b 1)))) 1009) * (zlrem ((7 + (37 * (Int32.toInt64 v))) + (101 * (Int32.toInt64 (h b 1)))) 1009)) * (zlrem ((7 + (37 * (Int32.toInt64 v))) + (101 * (Int32.toInt64 (h b 1)))) 1009)) 1009))
theorem rd_Mesh_priority {h h2 : zHp} {b : Nat} {v : Int32} (e0 : h2 b 1 = h b 1) : o_Mesh_priority h2 b v = o_Mesh_priority h b v := by
  unfold o_Mesh_priority
  simp only [e0]

set_option maxHeartbeats 400000 in
set_option maxRecDepth 20000 in
theorem c_Mesh_priority (X : zXT) (h : zHp) (g : zLg) (b : Nat) (v : Int32) (hb : b = 3 ∨ b = 15 ∨ b = 27) : zDi X M_Mesh_priority 0 [zR X b, .int v] h g (zI (o_Mesh_priority h b v)) h g := by
  refine zDi_of "PeriodSlots$Mesh" prog_3_method_20_code 4 (some .int) rfl (by decide) [zO X b, zI v, none, none] rfl (fun _ q => q) (Nat.le_of_ble_eq_true rfl) ?_
  intro Γ Q C hQ
  refine zr_ldc2 C (v := 7) m332 d_X1_priority_0 ?_
  refine zr_ldc2 C (v := 37) m333 d_X1_priority_3 ?_
  refine zr_iload_n C d_X1_priority_6 rfl ?_
  refine zr_i2l C d_X1_priority_7 ?_
  refine zr_lmul C d_X1_priority_8 ?_
  refine zr_ladd C d_X1_priority_9 ?_
  refine zr_ldc2 C (v := 101) m334 d_X1_priority_10 ?_
  refine zr_aload_n C d_X1_priority_13 rfl ?_
  refine gf_Mesh_1 C hb m99 d_X1_priority_14 ?_
  refine zr_i2l C d_X1_priority_17 ?_
  refine zr_lmul C d_X1_priority_18 ?_
  refine zr_ladd C d_X1_priority_19 ?_
  refine zr_ldc2 C (v := 1009) m335 d_X1_priority_20 ?_
  refine zr_lrem C d_X1_priority_23 (by decide) ?_
  refine zr_lstore_n C [zO X b, zI v, zL (zlrem ((7 + (37 * (Int32.toInt64 v))) + (101 * (Int32.toInt64 (h b 1)))) 1009), none] d_X1_priority_24 (Nat.le_of_ble_eq_true rfl) rfl rfl ?_
  refine zr_lload_n C d_X1_priority_25 rfl ?_
  refine zr_lload_n C d_X1_priority_26 rfl ?_
  refine zr_lmul C d_X1_priority_27 ?_
  refine zr_lload_n C d_X1_priority_28 rfl ?_
  refine zr_lmul C d_X1_priority_29 ?_
  refine zr_ldc2 C (v := 1009) m335 d_X1_priority_30 ?_
  refine zr_lrem C d_X1_priority_33 (by decide) ?_
  refine zr_l2i C d_X1_priority_34 ?_
  have eR : o_Mesh_priority h b v = (Int64.toInt32 (zlrem (((zlrem ((7 + (37 * (Int32.toInt64 v))) + (101 * (Int32.toInt64 (h b 1)))) 1009) * (zlrem ((7 + (37 * (Int32.toInt64 v))) + (101 * (Int32.toInt64 (h b 1)))) 1009)) * (zlrem ((7 + (37 * (Int32.toInt64 v))) + (101 * (Int32.toInt64 (h b 1)))) 1009)) 1009)) := (by unfold o_Mesh_priority; exact rfl)
  subst hQ
  rw [eR]
  exact zr_ireti C d_X1_priority_35
theorem d_X1_stationsAbove_0 : decode prog_3_method_21_code 0 = .ok (.iconst 0, 1) := by decide +kernel
theorem d_X1_stationsAbove_1 : decode prog_3_method_21_code 1 = .ok (.istore_n 2, 1) := by decide +kernel
theorem d_X1_stationsAbove_2 : decode prog_3_method_21_code 2 = .ok (.iconst 0, 1) := by decide +kernel
theorem d_X1_stationsAbove_3 : decode prog_3_method_21_code 3 = .ok (.istore_n 3, 1) := by decide +kernel
theorem d_X1_stationsAbove_4 : decode prog_3_method_21_code 4 = .ok (.iload_n 3, 1) := by decide +kernel
theorem d_X1_stationsAbove_5 : decode prog_3_method_21_code 5 = .ok (.aload_n 0, 1) := by decide +kernel
theorem d_X1_stationsAbove_6 : decode prog_3_method_21_code 6 = .ok (.getfield 45, 3) := by decide +kernel
theorem d_X1_stationsAbove_9 : decode prog_3_method_21_code 9 = .ok (.if_icmp .ge 62, 3) := by decide +kernel
theorem d_X1_stationsAbove_12 : decode prog_3_method_21_code 12 = .ok (.aload_n 0, 1) := by decide +kernel
theorem d_X1_stationsAbove_13 : decode prog_3_method_21_code 13 = .ok (.getfield 30, 3) := by decide +kernel
theorem d_X1_stationsAbove_16 : decode prog_3_method_21_code 16 = .ok (.iload_n 3, 1) := by decide +kernel
theorem d_X1_stationsAbove_17 : decode prog_3_method_21_code 17 = .ok (.iaload, 1) := by decide +kernel
theorem d_X1_stationsAbove_18 : decode prog_3_method_21_code 18 = .ok (.aload_n 0, 1) := by decide +kernel
theorem d_X1_stationsAbove_19 : decode prog_3_method_21_code 19 = .ok (.getfield 30, 3) := by decide +kernel
theorem d_X1_stationsAbove_22 : decode prog_3_method_21_code 22 = .ok (.iload_n 1, 1) := by decide +kernel
theorem d_X1_stationsAbove_23 : decode prog_3_method_21_code 23 = .ok (.iaload, 1) := by decide +kernel
theorem d_X1_stationsAbove_24 : decode prog_3_method_21_code 24 = .ok (.if_icmp .ne 7, 3) := by decide +kernel
theorem d_X1_stationsAbove_27 : decode prog_3_method_21_code 27 = .ok (.iconst 1, 1) := by decide +kernel
theorem d_X1_stationsAbove_28 : decode prog_3_method_21_code 28 = .ok (.goto 4, 3) := by decide +kernel
theorem d_X1_stationsAbove_31 : decode prog_3_method_21_code 31 = .ok (.iconst 0, 1) := by decide +kernel
theorem d_X1_stationsAbove_32 : decode prog_3_method_21_code 32 = .ok (.istore 4, 2) := by decide +kernel
theorem d_X1_stationsAbove_34 : decode prog_3_method_21_code 34 = .ok (.aload_n 0, 1) := by decide +kernel
theorem d_X1_stationsAbove_35 : decode prog_3_method_21_code 35 = .ok (.getfield 30, 3) := by decide +kernel
theorem d_X1_stationsAbove_38 : decode prog_3_method_21_code 38 = .ok (.iload_n 3, 1) := by decide +kernel
theorem d_X1_stationsAbove_39 : decode prog_3_method_21_code 39 = .ok (.iaload, 1) := by decide +kernel
theorem d_X1_stationsAbove_40 : decode prog_3_method_21_code 40 = .ok (.aload_n 0, 1) := by decide +kernel
theorem d_X1_stationsAbove_41 : decode prog_3_method_21_code 41 = .ok (.getfield 30, 3) := by decide +kernel
theorem d_X1_stationsAbove_44 : decode prog_3_method_21_code 44 = .ok (.iload_n 1, 1) := by decide +kernel
theorem d_X1_stationsAbove_45 : decode prog_3_method_21_code 45 = .ok (.iaload, 1) := by decide +kernel
theorem d_X1_stationsAbove_46 : decode prog_3_method_21_code 46 = .ok (.if_icmp .gt 13, 3) := by decide +kernel
theorem d_X1_stationsAbove_49 : decode prog_3_method_21_code 49 = .ok (.iload 4, 2) := by decide +kernel
theorem d_X1_stationsAbove_51 : decode prog_3_method_21_code 51 = .ok (.ifCond .eq 14, 3) := by decide +kernel
theorem d_X1_stationsAbove_54 : decode prog_3_method_21_code 54 = .ok (.iload_n 3, 1) := by decide +kernel
theorem d_X1_stationsAbove_55 : decode prog_3_method_21_code 55 = .ok (.iload_n 1, 1) := by decide +kernel
theorem d_X1_stationsAbove_56 : decode prog_3_method_21_code 56 = .ok (.if_icmp .ge 9, 3) := by decide +kernel
theorem d_X1_stationsAbove_59 : decode prog_3_method_21_code 59 = .ok (.iload_n 2, 1) := by decide +kernel
theorem d_X1_stationsAbove_60 : decode prog_3_method_21_code 60 = .ok (.iconst 1, 1) := by decide +kernel
theorem d_X1_stationsAbove_61 : decode prog_3_method_21_code 61 = .ok (.iload_n 3, 1) := by decide +kernel
theorem d_X1_stationsAbove_62 : decode prog_3_method_21_code 62 = .ok (.ishl, 1) := by decide +kernel
theorem d_X1_stationsAbove_63 : decode prog_3_method_21_code 63 = .ok (.ior, 1) := by decide +kernel
theorem d_X1_stationsAbove_64 : decode prog_3_method_21_code 64 = .ok (.istore_n 2, 1) := by decide +kernel
theorem d_X1_stationsAbove_65 : decode prog_3_method_21_code 65 = .ok (.iinc 3 1, 3) := by decide +kernel
theorem d_X1_stationsAbove_68 : decode prog_3_method_21_code 68 = .ok (.goto (-64), 3) := by decide +kernel
theorem d_X1_stationsAbove_71 : decode prog_3_method_21_code 71 = .ok (.iload_n 2, 1) := by decide +kernel
theorem d_X1_stationsAbove_72 : decode prog_3_method_21_code 72 = .ok (.ireturn, 1) := by decide +kernel
abbrev M_Mesh_stationsAbove : zMT := (⟨"PeriodSlots$Mesh", "stationsAbove", "(I)I"⟩, prog_3_method_21_code, 5, (some .int))
theorem k_Mesh_stationsAbove : zcall M_Mesh_stationsAbove 1 := ⟨zU_in (i := 339) (by decide +kernel) rfl, m56, ⟨by decide, by decide, by decide +kernel⟩, by decide⟩
def o_Mesh_stationsAbove (h : zHp) (b : Nat) (v : Nat) : Int32 :=
  (zrep (fun (i4_1 : Nat) (s4_1 : Int32) => (if (h (b + 7) v) < (h (b + 7) i4_1) then (s4_1 ||| (zshl 1 (nI i4_1))) else (if (decide ((h (b + 7) i4_1) = (h (b + 7) v))) = true then (if (nI v) ≤ (nI i4_1) then s4_1 else (s4_1 ||| (zshl 1 (nI i4_1)))) else s4_1))) 0 (zcn (h b 0)))
theorem rd_Mesh_stationsAbove {h h2 : zHp} {b : Nat} {v : Nat} (e0 : h2 (b + 7) = h (b + 7)) (e1 : h2 b 0 = h b 0) : o_Mesh_stationsAbove h2 b v = o_Mesh_stationsAbove h b v := by
  unfold o_Mesh_stationsAbove
  simp only [e0, e1]

set_option maxHeartbeats 400000 in
set_option maxRecDepth 20000 in
theorem c_Mesh_stationsAbove (X : zXT) (h : zHp) (g : zLg) (b : Nat) (v : Nat) {x_v : Int32} (e_v : x_v = nI v) (hb : b = 3 ∨ b = 15 ∨ b = 27) (hf0 : zfit h b 0 8) (hl1 : v < 8) : zDi X M_Mesh_stationsAbove 0 [zR X b, .int x_v] h g (zI (o_Mesh_stationsAbove h b v)) h g := by
  subst e_v
  have hf0_1 := hf0.1
  refine zDi_of "PeriodSlots$Mesh" prog_3_method_21_code 5 (some .int) rfl (by decide) [zO X b, zI (nI v), none, none, none] rfl (fun _ q => q) (Nat.le_of_ble_eq_true rfl) ?_
  intro Γ Q C hQ
  refine zr_iconst C (v := 0) d_X1_stationsAbove_0 (by decide) ?_
  refine zr_istore_n C [zO X b, zI (nI v), zI 0, none, none] d_X1_stationsAbove_1 (Nat.le_of_ble_eq_true rfl) rfl rfl ?_
  refine zr_iconst C (v := 0) d_X1_stationsAbove_2 (by decide) ?_
  refine zr_istore_n C [zO X b, zI (nI v), zI 0, zI 0, none] d_X1_stationsAbove_3 (Nat.le_of_ble_eq_true rfl) rfl rfl ?_
  refine zfor (f := (fun (i4_1 : Nat) (s4_1 : Int32) => (if (h (b + 7) v) < (h (b + 7) i4_1) then (s4_1 ||| (zshl 1 (nI i4_1))) else (if (decide ((h (b + 7) i4_1) = (h (b + 7) v))) = true then (if (nI v) ≤ (nI i4_1) then s4_1 else (s4_1 ||| (zshl 1 (nI i4_1)))) else s4_1)))) (a := 0) (fun i4_1 s4_1 => zV X Γ Q 4 [zO X b, zI (nI v), zI s4_1, zI (nI i4_1), none] [] h g) (fun _ _ => True) (zcn (h b 0)) trivial (fun i4_1 s4_1 hi4_1 hI4_1 => ⟨trivial, fun hk4_1 => ?_⟩) (fun r4_1 er4_1 hI4_1 => ?_)
  · refine zr_iload_n C d_X1_stationsAbove_4 rfl ?_
    refine zr_aload_n C d_X1_stationsAbove_5 rfl ?_
    refine gf_Mesh_0 C hb m95 d_X1_stationsAbove_6 ?_
    refine zr_icmp_ge C 71 d_X1_stationsAbove_9 (by decide) (fun c => absurd c (zge_no rfl (by omega))) (fun _ => ?_)
    refine zr_aload_n C d_X1_stationsAbove_12 rfl ?_
    refine gf_Mesh_9 C hb m121 d_X1_stationsAbove_13 ?_
    refine zr_iload_n C d_X1_stationsAbove_16 rfl ?_
    refine zr_iald C (za_mesh_7 hb) (i4_1) rfl (by omega) (by decide) d_X1_stationsAbove_17 ?_
    refine zr_aload_n C d_X1_stationsAbove_18 rfl ?_
    refine gf_Mesh_9 C hb m121 d_X1_stationsAbove_19 ?_
    refine zr_iload_n C d_X1_stationsAbove_22 rfl ?_
    refine zr_iald C (za_mesh_7 hb) (v) rfl (by omega) (by decide) d_X1_stationsAbove_23 ?_
    suffices hJ24 : ∀ (y2 : Bool), (decide ((h (b + 7) i4_1) = (h (b + 7) v))) = y2 → zV X Γ Q 32 [zO X b, zI (nI v), zI s4_1, zI (nI i4_1), none] [.int (zb y2)] h g by
      refine zr_icmp_ne C 31 d_X1_stationsAbove_24 (by decide) (fun c24 => ?_) (fun c24 => ?_)
      · refine zr_iconst C (v := 0) d_X1_stationsAbove_31 (by decide) ?_
        exact hJ24 false (by simp [c24])
      · refine zr_iconst C (v := 1) d_X1_stationsAbove_27 (by decide) ?_
        refine zr_goto C 32 d_X1_stationsAbove_28 (by decide) ?_
        exact hJ24 true (by simp [c24])
    intro y2 ey2
    refine zr_istore C [zO X b, zI (nI v), zI s4_1, zI (nI i4_1), zI (zb y2)] d_X1_stationsAbove_32 (Nat.le_of_ble_eq_true rfl) rfl rfl ?_
    refine zr_aload_n C d_X1_stationsAbove_34 rfl ?_
    refine gf_Mesh_9 C hb m121 d_X1_stationsAbove_35 ?_
    refine zr_iload_n C d_X1_stationsAbove_38 rfl ?_
    refine zr_iald C (za_mesh_7 hb) (i4_1) rfl (by omega) (by decide) d_X1_stationsAbove_39 ?_
    refine zr_aload_n C d_X1_stationsAbove_40 rfl ?_
    refine gf_Mesh_9 C hb m121 d_X1_stationsAbove_41 ?_
    refine zr_iload_n C d_X1_stationsAbove_44 rfl ?_
    refine zr_iald C (za_mesh_7 hb) (v) rfl (by omega) (by decide) d_X1_stationsAbove_45 ?_
    suffices hJ46 : ∀ (y5 : Int32), (if (h (b + 7) v) < (h (b + 7) i4_1) then (s4_1 ||| (zshl 1 (nI i4_1))) else (if y2 = true then (if (nI v) ≤ (nI i4_1) then s4_1 else (s4_1 ||| (zshl 1 (nI i4_1)))) else s4_1)) = y5 → zV X Γ Q 65 [zO X b, zI (nI v), zI y5, zI (nI i4_1), none] [] h g by
      refine zr_icmp_gt C 59 d_X1_stationsAbove_46 (by decide) (fun c46 => ?_) (fun c46 => ?_)
      · refine zr_iload_n C d_X1_stationsAbove_59 rfl ?_
        refine zr_iconst C (v := 1) d_X1_stationsAbove_60 (by decide) ?_
        refine zr_iload_n C d_X1_stationsAbove_61 rfl ?_
        refine zr_ishl C d_X1_stationsAbove_62 ?_
        refine zr_ior C d_X1_stationsAbove_63 ?_
        refine zr_istore_n C [zO X b, zI (nI v), zI (s4_1 ||| (zshl 1 (nI i4_1))), zI (nI i4_1), zI (zb y2)] d_X1_stationsAbove_64 (Nat.le_of_ble_eq_true rfl) rfl rfl ?_
        refine zr_lv [zO X b, zI (nI v), zI (s4_1 ||| (zshl 1 (nI i4_1))), zI (nI i4_1), none] (by simp [zle]) ?_
        exact hJ46 (s4_1 ||| (zshl 1 (nI i4_1))) (((if_pos c46)))
      · refine zr_iload C d_X1_stationsAbove_49 rfl ?_
        refine zr_ifz_eq C 65 d_X1_stationsAbove_51 (by decide) (fun c51 => ?_) (fun c51 => ?_)
        · refine zr_lv [zO X b, zI (nI v), zI s4_1, zI (nI i4_1), none] (by simp [zle]) ?_
          exact hJ46 s4_1 (((if_neg c46).trans ((if_neg (zbf c51)))))
        · refine zr_iload_n C d_X1_stationsAbove_54 rfl ?_
          refine zr_iload_n C d_X1_stationsAbove_55 rfl ?_
          refine zr_icmp_ge C 65 d_X1_stationsAbove_56 (by decide) (fun c56 => ?_) (fun c56 => ?_)
          · have en3 := zn_ge (a := i4_1) (b := v) rfl rfl c56 (by omega) (by omega)
            refine zr_lv [zO X b, zI (nI v), zI s4_1, zI (nI i4_1), none] (by simp [zle]) ?_
            exact hJ46 s4_1 (((if_neg c46).trans ((if_pos c51).trans ((if_pos c56)))))
          · have en4 := zn_nge (a := i4_1) (b := v) rfl rfl c56 (by omega) (by omega)
            refine zr_iload_n C d_X1_stationsAbove_59 rfl ?_
            refine zr_iconst C (v := 1) d_X1_stationsAbove_60 (by decide) ?_
            refine zr_iload_n C d_X1_stationsAbove_61 rfl ?_
            refine zr_ishl C d_X1_stationsAbove_62 ?_
            refine zr_ior C d_X1_stationsAbove_63 ?_
            refine zr_istore_n C [zO X b, zI (nI v), zI (s4_1 ||| (zshl 1 (nI i4_1))), zI (nI i4_1), zI (zb y2)] d_X1_stationsAbove_64 (Nat.le_of_ble_eq_true rfl) rfl rfl ?_
            refine zr_lv [zO X b, zI (nI v), zI (s4_1 ||| (zshl 1 (nI i4_1))), zI (nI i4_1), none] (by simp [zle]) ?_
            exact hJ46 (s4_1 ||| (zshl 1 (nI i4_1))) (((if_neg c46).trans ((if_pos c51).trans ((if_neg c56)))))
    intro y5 ey5
    refine zr_iinc C [zO X b, zI (nI v), zI y5, zI (nI (i4_1 + 1)), none] (v := (nI (i4_1 + 1))) d_X1_stationsAbove_65 rfl (zn_add rfl rfl) (Nat.le_of_ble_eq_true rfl) rfl rfl ?_
    refine zr_goto C 4 d_X1_stationsAbove_68 (by decide) ?_
    exact hk4_1 y5 (by subst ey5 ey2; exact rfl)
  refine zr_iload_n C d_X1_stationsAbove_4 rfl ?_
  refine zr_aload_n C d_X1_stationsAbove_5 rfl ?_
  refine gf_Mesh_0 C hb m95 d_X1_stationsAbove_6 ?_
  refine zr_icmp_ge C 71 d_X1_stationsAbove_9 (by decide) (fun _ => ?_) (fun c => absurd (zge_yes rfl (by omega) (by have := zcn_small (h b 0); omega)) c)
  refine zr_iload_n C d_X1_stationsAbove_71 rfl ?_
  have eR : o_Mesh_stationsAbove h b v = r4_1 := (by subst er4_1; unfold o_Mesh_stationsAbove; exact rfl)
  subst hQ
  rw [eR]
  exact zr_ireti C d_X1_stationsAbove_72
theorem d_X1_rank_0 : decode prog_3_method_19_code 0 = .ok (.iconst 0, 1) := by decide +kernel
theorem d_X1_rank_1 : decode prog_3_method_19_code 1 = .ok (.istore_n 1, 1) := by decide +kernel
theorem d_X1_rank_2 : decode prog_3_method_19_code 2 = .ok (.iload_n 1, 1) := by decide +kernel
theorem d_X1_rank_3 : decode prog_3_method_19_code 3 = .ok (.aload_n 0, 1) := by decide +kernel
theorem d_X1_rank_4 : decode prog_3_method_19_code 4 = .ok (.getfield 45, 3) := by decide +kernel
theorem d_X1_rank_7 : decode prog_3_method_19_code 7 = .ok (.if_icmp .ge 20, 3) := by decide +kernel
theorem d_X1_rank_10 : decode prog_3_method_19_code 10 = .ok (.aload_n 0, 1) := by decide +kernel
theorem d_X1_rank_11 : decode prog_3_method_19_code 11 = .ok (.getfield 30, 3) := by decide +kernel
theorem d_X1_rank_14 : decode prog_3_method_19_code 14 = .ok (.iload_n 1, 1) := by decide +kernel
theorem d_X1_rank_15 : decode prog_3_method_19_code 15 = .ok (.aload_n 0, 1) := by decide +kernel
theorem d_X1_rank_16 : decode prog_3_method_19_code 16 = .ok (.iload_n 1, 1) := by decide +kernel
theorem d_X1_rank_17 : decode prog_3_method_19_code 17 = .ok (.invokevirtual 105, 3) := by decide +kernel
theorem d_X1_rank_20 : decode prog_3_method_19_code 20 = .ok (.iastore, 1) := by decide +kernel
theorem d_X1_rank_21 : decode prog_3_method_19_code 21 = .ok (.iinc 1 1, 3) := by decide +kernel
theorem d_X1_rank_24 : decode prog_3_method_19_code 24 = .ok (.goto (-22), 3) := by decide +kernel
theorem d_X1_rank_27 : decode prog_3_method_19_code 27 = .ok (.iconst 0, 1) := by decide +kernel
theorem d_X1_rank_28 : decode prog_3_method_19_code 28 = .ok (.istore_n 1, 1) := by decide +kernel
theorem d_X1_rank_29 : decode prog_3_method_19_code 29 = .ok (.iload_n 1, 1) := by decide +kernel
theorem d_X1_rank_30 : decode prog_3_method_19_code 30 = .ok (.aload_n 0, 1) := by decide +kernel
theorem d_X1_rank_31 : decode prog_3_method_19_code 31 = .ok (.getfield 45, 3) := by decide +kernel
theorem d_X1_rank_34 : decode prog_3_method_19_code 34 = .ok (.if_icmp .ge 27, 3) := by decide +kernel
theorem d_X1_rank_37 : decode prog_3_method_19_code 37 = .ok (.aload_n 0, 1) := by decide +kernel
theorem d_X1_rank_38 : decode prog_3_method_19_code 38 = .ok (.getfield 33, 3) := by decide +kernel
theorem d_X1_rank_41 : decode prog_3_method_19_code 41 = .ok (.iload_n 1, 1) := by decide +kernel
theorem d_X1_rank_42 : decode prog_3_method_19_code 42 = .ok (.aload_n 0, 1) := by decide +kernel
theorem d_X1_rank_43 : decode prog_3_method_19_code 43 = .ok (.getfield 27, 3) := by decide +kernel
theorem d_X1_rank_46 : decode prog_3_method_19_code 46 = .ok (.iload_n 1, 1) := by decide +kernel
theorem d_X1_rank_47 : decode prog_3_method_19_code 47 = .ok (.iaload, 1) := by decide +kernel
theorem d_X1_rank_48 : decode prog_3_method_19_code 48 = .ok (.aload_n 0, 1) := by decide +kernel
theorem d_X1_rank_49 : decode prog_3_method_19_code 49 = .ok (.iload_n 1, 1) := by decide +kernel
theorem d_X1_rank_50 : decode prog_3_method_19_code 50 = .ok (.invokevirtual 108, 3) := by decide +kernel
theorem d_X1_rank_53 : decode prog_3_method_19_code 53 = .ok (.iand, 1) := by decide +kernel
theorem d_X1_rank_54 : decode prog_3_method_19_code 54 = .ok (.iastore, 1) := by decide +kernel
theorem d_X1_rank_55 : decode prog_3_method_19_code 55 = .ok (.iinc 1 1, 3) := by decide +kernel
theorem d_X1_rank_58 : decode prog_3_method_19_code 58 = .ok (.goto (-29), 3) := by decide +kernel
theorem d_X1_rank_61 : decode prog_3_method_19_code 61 = .ok (.return_, 1) := by decide +kernel
abbrev M_Mesh_rank : zMT := (⟨"PeriodSlots$Mesh", "rank", "()V"⟩, prog_3_method_19_code, 2, none)
theorem k_Mesh_rank : zcall M_Mesh_rank 0 := ⟨zU_in (i := 327) (by decide +kernel) rfl, m56, ⟨by decide, by decide, by decide +kernel⟩, by decide⟩
def o_Mesh_rank (h : zHp) (b : Nat) : zHp :=
  (zrep (fun (i29_3 : Nat) (s29_3 : zHp) => (zup s29_3 (b + 8) i29_3 ((h (b + 6) i29_3) &&& (o_Mesh_stationsAbove s29_3 b i29_3)))) (zrep (fun (i2_1 : Nat) (s2_1 : zHp) => (zup s2_1 (b + 7) i2_1 (o_Mesh_priority h b (nI i2_1)))) h (zcn (h b 0))) (zcn (h b 0)))
theorem fr_Mesh_rank {h : zHp} {b : Nat} (c k : Nat) (q0 : c ≠ b + 7) (q1 : c ≠ b + 8) : (o_Mesh_rank h b) c k = h c k := by
  unfold o_Mesh_rank
  have hI29_3 := zrep_inv (f := (fun (i29_3 : Nat) (s29_3 : zHp) => (zup s29_3 (b + 8) i29_3 ((h (b + 6) i29_3) &&& (o_Mesh_stationsAbove s29_3 b i29_3))))) (a := (zrep (fun (i2_1 : Nat) (s2_1 : zHp) => (zup s2_1 (b + 7) i2_1 (o_Mesh_priority h b (nI i2_1)))) h (zcn (h b 0)))) (fun _ s29_3 => ∀ c k : Nat, c ≠ b + 7 → c ≠ b + 8 → s29_3 c k = (zrep (fun (i2_1 : Nat) (s2_1 : zHp) => (zup s2_1 (b + 7) i2_1 (o_Mesh_priority h b (nI i2_1)))) h (zcn (h b 0))) c k) (zcn (h b 0)) (fun _ _ _ _ => rfl) (fun i29_3 s29_3 hi29_3 hI29_3 => (fun c k q0 q1 => (by (try dsimp only); exact ((zup_fr (Or.inl (by assumption))).trans (hI29_3 _ _ (by assumption) (by assumption))))))
  have hI2_1 := zrep_inv (f := (fun (i2_1 : Nat) (s2_1 : zHp) => (zup s2_1 (b + 7) i2_1 (o_Mesh_priority h b (nI i2_1))))) (a := h) (fun _ s2_1 => ∀ c k : Nat, c ≠ b + 7 → c ≠ b + 8 → s2_1 c k = h c k) (zcn (h b 0)) (fun _ _ _ _ => rfl) (fun i2_1 s2_1 hi2_1 hI2_1 => (fun c k q0 q1 => (by (try dsimp only); exact ((zup_fr (Or.inl (by assumption))).trans (hI2_1 _ _ (by assumption) (by assumption))))))
  first | done | exact ((hI29_3 _ _ (by assumption) (by assumption)).trans (hI2_1 _ _ (by assumption) (by assumption)))
set_option maxHeartbeats 400000 in
set_option maxRecDepth 20000 in
theorem c_Mesh_rank (X : zXT) (h : zHp) (g : zLg) (b : Nat) (hb : b = 3 ∨ b = 15 ∨ b = 27) (hf0 : zfit h b 0 8) : zDi X M_Mesh_rank 1 [zR X b] h g none (o_Mesh_rank h b) g := by
  have hf0_1 := hf0.1
  refine zDi_of "PeriodSlots$Mesh" prog_3_method_19_code 2 none rfl (by decide) [zO X b, none] rfl (fun _ q => q) (Nat.le_of_ble_eq_true rfl) ?_
  intro Γ Q C hQ
  refine zr_iconst C (v := 0) d_X1_rank_0 (by decide) ?_
  refine zr_istore_n C [zO X b, zI 0] d_X1_rank_1 (Nat.le_of_ble_eq_true rfl) rfl rfl ?_
  refine zfor (f := (fun (i2_1 : Nat) (s2_1 : zHp) => (zup s2_1 (b + 7) i2_1 (o_Mesh_priority h b (nI i2_1))))) (a := h) (fun i2_1 s2_1 => zV X Γ Q 2 [zO X b, zI (nI i2_1)] [] s2_1 g) (fun _ s2_1 => ∀ c k : Nat, c ≠ b + 7 → c ≠ b + 8 → s2_1 c k = h c k) (zcn (h b 0)) (fun _ _ _ _ => rfl) (fun i2_1 s2_1 hi2_1 hI2_1 => ⟨(fun c k q0 q1 => (by (try dsimp only); exact ((zup_fr (Or.inl (by assumption))).trans (hI2_1 _ _ (by assumption) (by assumption))))), fun hk2_1 => ?_⟩) (fun r2_1 er2_1 hI2_1 => ?_)
  · refine zr_iload_n C d_X1_rank_2 rfl ?_
    refine zr_aload_n C d_X1_rank_3 rfl ?_
    refine gf_Mesh_0 C hb m95 d_X1_rank_4 ?_
    refine zr_top (hI2_1 _ _ (by omega) (by omega)) ?_
    refine zr_icmp_ge C 27 d_X1_rank_7 (by decide) (fun c => absurd c (zge_no rfl (by omega))) (fun _ => ?_)
    refine zr_aload_n C d_X1_rank_10 rfl ?_
    refine gf_Mesh_9 C hb m121 d_X1_rank_11 ?_
    refine zr_iload_n C d_X1_rank_14 rfl ?_
    refine zr_aload_n C d_X1_rank_15 rfl ?_
    refine zr_iload_n C d_X1_rank_16 rfl ?_
    refine zr_callVi (As := [.int (nI i2_1)]) (st := [.int (nI i2_1), zR X (b + 7)]) (c := b) C (c_Mesh_priority X s2_1 g b (nI i2_1) hb) k_Mesh_priority m328 m330 m4 (by omega) (zC_Mesh hb X _ _) rfl rfl (by decide) rfl (Nat.le_of_ble_eq_true rfl) d_X1_rank_17 ?_
    refine zr_top (rd_Mesh_priority (hI2_1 _ _ (by omega) (by omega))) ?_
    refine zr_iast C (za_mesh_7 hb) (i2_1) rfl (by omega) (by decide) d_X1_rank_20 ?_
    refine zr_h (fun h2 eh2 => ?_)
    refine zr_iinc C [zO X b, zI (nI (i2_1 + 1))] (v := (nI (i2_1 + 1))) d_X1_rank_21 rfl (zn_add rfl rfl) (Nat.le_of_ble_eq_true rfl) rfl rfl ?_
    refine zr_goto C 2 d_X1_rank_24 (by decide) ?_
    exact hk2_1 h2 (by subst eh2; exact rfl)
  refine zr_iload_n C d_X1_rank_2 rfl ?_
  refine zr_aload_n C d_X1_rank_3 rfl ?_
  refine gf_Mesh_0 C hb m95 d_X1_rank_4 ?_
  refine zr_top (hI2_1 _ _ (by omega) (by omega)) ?_
  refine zr_icmp_ge C 27 d_X1_rank_7 (by decide) (fun _ => ?_) (fun c => absurd (zge_yes rfl (by omega) (by have := zcn_small (h b 0); omega)) c)
  refine zr_iconst C (v := 0) d_X1_rank_27 (by decide) ?_
  refine zr_istore_n C [zO X b, zI 0] d_X1_rank_28 (Nat.le_of_ble_eq_true rfl) rfl rfl ?_
  refine zfor (f := (fun (i29_3 : Nat) (s29_3 : zHp) => (zup s29_3 (b + 8) i29_3 ((h (b + 6) i29_3) &&& (o_Mesh_stationsAbove s29_3 b i29_3))))) (a := r2_1) (fun i29_3 s29_3 => zV X Γ Q 29 [zO X b, zI (nI i29_3)] [] s29_3 g) (fun _ s29_3 => ∀ c k : Nat, c ≠ b + 7 → c ≠ b + 8 → s29_3 c k = r2_1 c k) (zcn (h b 0)) (fun _ _ _ _ => rfl) (fun i29_3 s29_3 hi29_3 hI29_3 => ⟨(fun c k q0 q1 => (by (try dsimp only); exact ((zup_fr (Or.inl (by assumption))).trans (hI29_3 _ _ (by assumption) (by assumption))))), fun hk29_3 => ?_⟩) (fun r29_3 er29_3 hI29_3 => ?_)
  · refine zr_iload_n C d_X1_rank_29 rfl ?_
    refine zr_aload_n C d_X1_rank_30 rfl ?_
    refine gf_Mesh_0 C hb m95 d_X1_rank_31 ?_
    refine zr_top ((hI29_3 _ _ (by omega) (by omega)).trans (hI2_1 _ _ (by omega) (by omega))) ?_
    refine zr_icmp_ge C 61 d_X1_rank_34 (by decide) (fun c => absurd c (zge_no rfl (by omega))) (fun _ => ?_)
    refine zr_aload_n C d_X1_rank_37 rfl ?_
    refine gf_Mesh_10 C hb m123 d_X1_rank_38 ?_
    refine zr_iload_n C d_X1_rank_41 rfl ?_
    refine zr_aload_n C d_X1_rank_42 rfl ?_
    refine gf_Mesh_8 C hb m118 d_X1_rank_43 ?_
    refine zr_iload_n C d_X1_rank_46 rfl ?_
    refine zr_iald C (za_mesh_6 hb) (i29_3) rfl (by omega) (by decide) d_X1_rank_47 ?_
    refine zr_top ((hI29_3 _ _ (by omega) (by omega)).trans (hI2_1 _ _ (by omega) (by omega))) ?_
    refine zr_aload_n C d_X1_rank_48 rfl ?_
    refine zr_iload_n C d_X1_rank_49 rfl ?_
    refine zr_callVi (As := [.int (nI i29_3)]) (st := [.int (h (b + 6) i29_3), .int (nI i29_3), zR X (b + 8)]) (c := b) C (c_Mesh_stationsAbove X s29_3 g b i29_3 rfl hb (zfit_fr ((hI29_3 _ _ (by omega) (by omega)).trans (hI2_1 _ _ (by omega) (by omega))) hf0) (by omega)) k_Mesh_stationsAbove m336 m338 m5 (by omega) (zC_Mesh hb X _ _) rfl rfl (by decide) rfl (Nat.le_of_ble_eq_true rfl) d_X1_rank_50 ?_
    refine zr_iand C d_X1_rank_53 ?_
    refine zr_iast C (za_mesh_8 hb) (i29_3) rfl (by omega) (by decide) d_X1_rank_54 ?_
    refine zr_h (fun h4 eh4 => ?_)
    refine zr_iinc C [zO X b, zI (nI (i29_3 + 1))] (v := (nI (i29_3 + 1))) d_X1_rank_55 rfl (zn_add rfl rfl) (Nat.le_of_ble_eq_true rfl) rfl rfl ?_
    refine zr_goto C 29 d_X1_rank_58 (by decide) ?_
    exact hk29_3 h4 (by subst eh4; exact rfl)
  refine zr_iload_n C d_X1_rank_29 rfl ?_
  refine zr_aload_n C d_X1_rank_30 rfl ?_
  refine gf_Mesh_0 C hb m95 d_X1_rank_31 ?_
  refine zr_top ((hI29_3 _ _ (by omega) (by omega)).trans (hI2_1 _ _ (by omega) (by omega))) ?_
  refine zr_icmp_ge C 61 d_X1_rank_34 (by decide) (fun _ => ?_) (fun c => absurd (zge_yes rfl (by omega) (by have := zcn_small (h b 0); omega)) c)
  have eR : o_Mesh_rank h b = r29_3 := (by subst er29_3 er2_1; unfold o_Mesh_rank; exact rfl)
  subst hQ
  rw [eR]
  exact zr_vret C d_X1_rank_61
theorem d_X1_relate_0 : decode prog_3_method_18_code 0 = .ok (.iconst 0, 1) := by decide +kernel
theorem d_X1_relate_1 : decode prog_3_method_18_code 1 = .ok (.istore_n 1, 1) := by decide +kernel
theorem d_X1_relate_2 : decode prog_3_method_18_code 2 = .ok (.iload_n 1, 1) := by decide +kernel
theorem d_X1_relate_3 : decode prog_3_method_18_code 3 = .ok (.aload_n 0, 1) := by decide +kernel
theorem d_X1_relate_4 : decode prog_3_method_18_code 4 = .ok (.getfield 45, 3) := by decide +kernel
theorem d_X1_relate_7 : decode prog_3_method_18_code 7 = .ok (.if_icmp .ge 38, 3) := by decide +kernel
theorem d_X1_relate_10 : decode prog_3_method_18_code 10 = .ok (.aload_n 0, 1) := by decide +kernel
theorem d_X1_relate_11 : decode prog_3_method_18_code 11 = .ok (.getfield 27, 3) := by decide +kernel
theorem d_X1_relate_14 : decode prog_3_method_18_code 14 = .ok (.iload_n 1, 1) := by decide +kernel
theorem d_X1_relate_15 : decode prog_3_method_18_code 15 = .ok (.aload_n 0, 1) := by decide +kernel
theorem d_X1_relate_16 : decode prog_3_method_18_code 16 = .ok (.getfield 15, 3) := by decide +kernel
theorem d_X1_relate_19 : decode prog_3_method_18_code 19 = .ok (.iload_n 1, 1) := by decide +kernel
theorem d_X1_relate_20 : decode prog_3_method_18_code 20 = .ok (.iaload, 1) := by decide +kernel
theorem d_X1_relate_21 : decode prog_3_method_18_code 21 = .ok (.aload_n 0, 1) := by decide +kernel
theorem d_X1_relate_22 : decode prog_3_method_18_code 22 = .ok (.aload_n 0, 1) := by decide +kernel
theorem d_X1_relate_23 : decode prog_3_method_18_code 23 = .ok (.getfield 15, 3) := by decide +kernel
theorem d_X1_relate_26 : decode prog_3_method_18_code 26 = .ok (.iload_n 1, 1) := by decide +kernel
theorem d_X1_relate_27 : decode prog_3_method_18_code 27 = .ok (.iaload, 1) := by decide +kernel
theorem d_X1_relate_28 : decode prog_3_method_18_code 28 = .ok (.invokevirtual 86, 3) := by decide +kernel
theorem d_X1_relate_31 : decode prog_3_method_18_code 31 = .ok (.ior, 1) := by decide +kernel
theorem d_X1_relate_32 : decode prog_3_method_18_code 32 = .ok (.iconst 1, 1) := by decide +kernel
theorem d_X1_relate_33 : decode prog_3_method_18_code 33 = .ok (.iload_n 1, 1) := by decide +kernel
theorem d_X1_relate_34 : decode prog_3_method_18_code 34 = .ok (.ishl, 1) := by decide +kernel
theorem d_X1_relate_35 : decode prog_3_method_18_code 35 = .ok (.iconst (-1), 1) := by decide +kernel
theorem d_X1_relate_36 : decode prog_3_method_18_code 36 = .ok (.ixor, 1) := by decide +kernel
theorem d_X1_relate_37 : decode prog_3_method_18_code 37 = .ok (.iand, 1) := by decide +kernel
theorem d_X1_relate_38 : decode prog_3_method_18_code 38 = .ok (.iastore, 1) := by decide +kernel
theorem d_X1_relate_39 : decode prog_3_method_18_code 39 = .ok (.iinc 1 1, 3) := by decide +kernel
theorem d_X1_relate_42 : decode prog_3_method_18_code 42 = .ok (.goto (-40), 3) := by decide +kernel
theorem d_X1_relate_45 : decode prog_3_method_18_code 45 = .ok (.aload_n 0, 1) := by decide +kernel
theorem d_X1_relate_46 : decode prog_3_method_18_code 46 = .ok (.invokevirtual 102, 3) := by decide +kernel
theorem d_X1_relate_49 : decode prog_3_method_18_code 49 = .ok (.return_, 1) := by decide +kernel
abbrev M_Mesh_relate : zMT := (⟨"PeriodSlots$Mesh", "relate", "()V"⟩, prog_3_method_18_code, 2, none)
theorem k_Mesh_relate : zcall M_Mesh_relate 0 := ⟨zU_in (i := 316) (by decide +kernel) rfl, m56, ⟨by decide, by decide, by decide +kernel⟩, by decide⟩
def o_Mesh_relate (h : zHp) (b : Nat) : zHp :=
  (o_Mesh_rank (zrep (fun (i2_1 : Nat) (s2_1 : zHp) => (zup s2_1 (b + 6) i2_1 (((h (b + 2) i2_1) ||| (o_Mesh_neighboursOf h b (h (b + 2) i2_1))) &&& ((zshl 1 (nI i2_1)) ^^^ (-1))))) h (zcn (h b 0))) b)
theorem fr_Mesh_relate {h : zHp} {b : Nat} (c k : Nat) (q0 : c ≠ b + 6) (q1 : c ≠ b + 7) (q2 : c ≠ b + 8) : (o_Mesh_relate h b) c k = h c k := by
  unfold o_Mesh_relate
  have hI2_1 := zrep_inv (f := (fun (i2_1 : Nat) (s2_1 : zHp) => (zup s2_1 (b + 6) i2_1 (((h (b + 2) i2_1) ||| (o_Mesh_neighboursOf h b (h (b + 2) i2_1))) &&& ((zshl 1 (nI i2_1)) ^^^ (-1)))))) (a := h) (fun _ s2_1 => ∀ c k : Nat, c ≠ b + 6 → c ≠ b + 7 → c ≠ b + 8 → s2_1 c k = h c k) (zcn (h b 0)) (fun _ _ _ _ _ => rfl) (fun i2_1 s2_1 hi2_1 hI2_1 => (fun c k q0 q1 q2 => (by (try dsimp only); exact ((zup_fr (Or.inl (by assumption))).trans (hI2_1 _ _ (by assumption) (by assumption) (by assumption))))))
  first | done | exact ((fr_Mesh_rank _ _ (by assumption) (by assumption)).trans (hI2_1 _ _ (by assumption) (by assumption) (by assumption)))
set_option maxHeartbeats 400000 in
set_option maxRecDepth 20000 in
theorem c_Mesh_relate (X : zXT) (h : zHp) (g : zLg) (b : Nat) (hb : b = 3 ∨ b = 15 ∨ b = 27) (hf0 : zfit h b 0 8) : zDi X M_Mesh_relate 2 [zR X b] h g none (o_Mesh_relate h b) g := by
  have hf0_1 := hf0.1
  refine zDi_of "PeriodSlots$Mesh" prog_3_method_18_code 2 none rfl (by decide) [zO X b, none] rfl (fun _ q => q) (Nat.le_of_ble_eq_true rfl) ?_
  intro Γ Q C hQ
  refine zr_iconst C (v := 0) d_X1_relate_0 (by decide) ?_
  refine zr_istore_n C [zO X b, zI 0] d_X1_relate_1 (Nat.le_of_ble_eq_true rfl) rfl rfl ?_
  refine zfor (f := (fun (i2_1 : Nat) (s2_1 : zHp) => (zup s2_1 (b + 6) i2_1 (((h (b + 2) i2_1) ||| (o_Mesh_neighboursOf h b (h (b + 2) i2_1))) &&& ((zshl 1 (nI i2_1)) ^^^ (-1)))))) (a := h) (fun i2_1 s2_1 => zV X Γ Q 2 [zO X b, zI (nI i2_1)] [] s2_1 g) (fun _ s2_1 => ∀ c k : Nat, c ≠ b + 6 → c ≠ b + 7 → c ≠ b + 8 → s2_1 c k = h c k) (zcn (h b 0)) (fun _ _ _ _ _ => rfl) (fun i2_1 s2_1 hi2_1 hI2_1 => ⟨(fun c k q0 q1 q2 => (by (try dsimp only); exact ((zup_fr (Or.inl (by assumption))).trans (hI2_1 _ _ (by assumption) (by assumption) (by assumption))))), fun hk2_1 => ?_⟩) (fun r2_1 er2_1 hI2_1 => ?_)
  · refine zr_iload_n C d_X1_relate_2 rfl ?_
    refine zr_aload_n C d_X1_relate_3 rfl ?_
    refine gf_Mesh_0 C hb m95 d_X1_relate_4 ?_
    refine zr_top (hI2_1 _ _ (by omega) (by omega) (by omega)) ?_
    refine zr_icmp_ge C 45 d_X1_relate_7 (by decide) (fun c => absurd c (zge_no rfl (by omega))) (fun _ => ?_)
    refine zr_aload_n C d_X1_relate_10 rfl ?_
    refine gf_Mesh_8 C hb m118 d_X1_relate_11 ?_
    refine zr_iload_n C d_X1_relate_14 rfl ?_
    refine zr_aload_n C d_X1_relate_15 rfl ?_
    refine gf_Mesh_4 C hb m107 d_X1_relate_16 ?_
    refine zr_iload_n C d_X1_relate_19 rfl ?_
    refine zr_iald C (za_mesh_2 hb) (i2_1) rfl (by omega) (by decide) d_X1_relate_20 ?_
    refine zr_top (hI2_1 _ _ (by omega) (by omega) (by omega)) ?_
    refine zr_aload_n C d_X1_relate_21 rfl ?_
    refine zr_aload_n C d_X1_relate_22 rfl ?_
    refine gf_Mesh_4 C hb m107 d_X1_relate_23 ?_
    refine zr_iload_n C d_X1_relate_26 rfl ?_
    refine zr_iald C (za_mesh_2 hb) (i2_1) rfl (by omega) (by decide) d_X1_relate_27 ?_
    refine zr_top (hI2_1 _ _ (by omega) (by omega) (by omega)) ?_
    refine zr_callVi (As := [.int (h (b + 2) i2_1)]) (st := [.int (h (b + 2) i2_1), .int (nI i2_1), zR X (b + 6)]) (c := b) C (c_Mesh_neighboursOf X s2_1 g b (h (b + 2) i2_1) hb (zfit_fr (hI2_1 _ _ (by omega) (by omega) (by omega)) hf0)) k_Mesh_neighboursOf m317 m319 m2 (by omega) (zC_Mesh hb X _ _) rfl rfl (by decide) rfl (Nat.le_of_ble_eq_true rfl) d_X1_relate_28 ?_
    refine zr_top (rd_Mesh_neighboursOf (funext fun kk => (hI2_1 _ _ (by omega) (by omega) (by omega))) (hI2_1 _ _ (by omega) (by omega) (by omega))) ?_
    refine zr_ior C d_X1_relate_31 ?_
    refine zr_iconst C (v := 1) d_X1_relate_32 (by decide) ?_
    refine zr_iload_n C d_X1_relate_33 rfl ?_
    refine zr_ishl C d_X1_relate_34 ?_
    refine zr_iconst C (v := (-1)) d_X1_relate_35 (by decide) ?_
    refine zr_ixor C d_X1_relate_36 ?_
    refine zr_iand C d_X1_relate_37 ?_
    refine zr_iast C (za_mesh_6 hb) (i2_1) rfl (by omega) (by decide) d_X1_relate_38 ?_
    refine zr_h (fun h2 eh2 => ?_)
    refine zr_iinc C [zO X b, zI (nI (i2_1 + 1))] (v := (nI (i2_1 + 1))) d_X1_relate_39 rfl (zn_add rfl rfl) (Nat.le_of_ble_eq_true rfl) rfl rfl ?_
    refine zr_goto C 2 d_X1_relate_42 (by decide) ?_
    exact hk2_1 h2 (by subst eh2; exact rfl)
  refine zr_iload_n C d_X1_relate_2 rfl ?_
  refine zr_aload_n C d_X1_relate_3 rfl ?_
  refine gf_Mesh_0 C hb m95 d_X1_relate_4 ?_
  refine zr_top (hI2_1 _ _ (by omega) (by omega) (by omega)) ?_
  refine zr_icmp_ge C 45 d_X1_relate_7 (by decide) (fun _ => ?_) (fun c => absurd (zge_yes rfl (by omega) (by have := zcn_small (h b 0); omega)) c)
  refine zr_aload_n C d_X1_relate_45 rfl ?_
  refine zr_callVv (As := []) (st := []) (c := b) C (c_Mesh_rank X r2_1 g b hb (zfit_fr (hI2_1 _ _ (by omega) (by omega) (by omega)) hf0)) k_Mesh_rank m324 m326 m3 (by omega) (zC_Mesh hb X _ _) rfl rfl (by decide) rfl (Nat.le_of_ble_eq_true rfl) d_X1_relate_46 ?_
  refine zr_h (fun h3 eh3 => ?_)
  have eR : o_Mesh_relate h b = h3 := (by subst eh3 er2_1; unfold o_Mesh_relate; exact rfl)
  subst hQ
  rw [eR]
  exact zr_vret C d_X1_relate_49
theorem pf_clear {h : zHp} {b : Nat} : zfit (o_Mesh_clear h b) b 0 8 := zfit_of (m := 0) ((zup_fr (by omega)).trans zup_at) (by decide) (by decide)
theorem pf_copyFrom {h : zHp} {b o : Nat} (f : zfit h o 0 8) : zfit (o_Mesh_copyFrom h b o) b 0 8 := by
  have e : o_Mesh_copyFrom h b o b 0 = h o 0 := by
    unfold o_Mesh_copyFrom o_Mesh_copyRow
    iterate 10 rw [zcp_fr (by omega)]
    rw [zup_fr (by omega), zup_at]
  unfold zfit
  rw [e]
  exact f
theorem zex {h : zHp} {b : Nat} {v : Int32} (e : o_Mesh_exists h b v = true) : ¬ v < 0 ∧ zcn v < zcn (h b 0) := by
  unfold o_Mesh_exists at e
  simp only [Bool.and_eq_true, Bool.not_eq_true', decide_eq_false_iff_not] at e
  obtain ⟨h1, h2⟩ := e
  refine ⟨h1, ?_⟩
  rcases Nat.lt_or_ge (zcn v) (zcn (h b 0)) with q | q
  · exact q
  · refine absurd ?_ h2
    rw [zix h1]
    exact zge_yes rfl q (zcn_small v)

