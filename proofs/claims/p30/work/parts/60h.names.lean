theorem dJ9_abs_0f7a4_6 : decode cJ9_abs_0f7a4 6 = .ok (.goto 4, 3) := dkT (by decide +kernel)
theorem dJ9_abs_0f7a4_9 : decode cJ9_abs_0f7a4 9 = .ok (.iload_n 0, 1) := dkT (by decide +kernel)
theorem dJ9_abs_0f7a4_10 : decode cJ9_abs_0f7a4 10 = .ok (.ireturn, 1) := dkT (by decide +kernel)
theorem dJ9_max_7cf53_0 : decode cJ9_max_7cf53 0 = .ok (.iload_n 0, 1) := dkT (by decide +kernel)
theorem dJ9_max_7cf53_1 : decode cJ9_max_7cf53 1 = .ok (.iload_n 1, 1) := dkT (by decide +kernel)
theorem dJ9_max_7cf53_2 : decode cJ9_max_7cf53 2 = .ok (.if_icmp .lt 7, 3) := dkT (by decide +kernel)
theorem dJ9_max_7cf53_5 : decode cJ9_max_7cf53 5 = .ok (.iload_n 0, 1) := dkT (by decide +kernel)
theorem dJ9_max_7cf53_6 : decode cJ9_max_7cf53 6 = .ok (.goto 4, 3) := dkT (by decide +kernel)
theorem dJ9_max_7cf53_9 : decode cJ9_max_7cf53 9 = .ok (.iload_n 1, 1) := dkT (by decide +kernel)
theorem dJ9_max_7cf53_10 : decode cJ9_max_7cf53 10 = .ok (.ireturn, 1) := dkT (by decide +kernel)
theorem dJ9_min_7cf53_0 : decode cJ9_min_7cf53 0 = .ok (.iload_n 0, 1) := dkT (by decide +kernel)
theorem dJ9_min_7cf53_1 : decode cJ9_min_7cf53 1 = .ok (.iload_n 1, 1) := dkT (by decide +kernel)
theorem dJ9_min_7cf53_2 : decode cJ9_min_7cf53 2 = .ok (.if_icmp .gt 7, 3) := dkT (by decide +kernel)
theorem dJ9_min_7cf53_5 : decode cJ9_min_7cf53 5 = .ok (.iload_n 0, 1) := dkT (by decide +kernel)
theorem dJ9_min_7cf53_6 : decode cJ9_min_7cf53 6 = .ok (.goto 4, 3) := dkT (by decide +kernel)
theorem dJ9_min_7cf53_9 : decode cJ9_min_7cf53 9 = .ok (.iload_n 1, 1) := dkT (by decide +kernel)
theorem dJ9_min_7cf53_10 : decode cJ9_min_7cf53 10 = .ok (.ireturn, 1) := dkT (by decide +kernel)
theorem dJxd2413_init_da8c8_0 : decode cJxd2413_init_da8c8 0 = .ok (.aload_n 0, 1) := dkT (by decide +kernel)
theorem dJxd2413_init_da8c8_1 : decode cJxd2413_init_da8c8 1 = .ok (.invokespecial 1, 3) := dkT (by decide +kernel)
theorem dJxd2413_init_da8c8_4 : decode cJxd2413_init_da8c8 4 = .ok (.return_, 1) := dkT (by decide +kernel)
theorem gd_wsJ0_init_81219 : wsJ0_init_81219.all goodWord = true := by decide +kernel
set_option maxRecDepth 20000 in
theorem ggJ0_init_81219_J0_init_db425 : GoodIn wsJ0_init_81219 wsJ0_init_db425 := gi_q gd_wsJ0_init_81219 _ [(4, 76), (3, 1), (80, 28)] rfl
set_option maxRecDepth 20000 in
theorem gJ0_init_81219_J0_init_db425 : GoodIn wsJ0_init_81219 (wsJ0_init_db425) := ggJ0_init_81219_J0_init_db425
theorem dJ0_init_81219_0 : decode cJ0_init_81219 0 = .ok (.aload_n 0, 1) := dkT (by decide +kernel)
theorem dJ0_init_81219_1 : decode cJ0_init_81219 1 = .ok (.aload_n 1, 1) := dkT (by decide +kernel)
theorem dJ0_init_81219_2 : decode cJ0_init_81219 2 = .ok (.aconst_null, 1) := dkT (by decide +kernel)
theorem dJ0_init_81219_3 : decode cJ0_init_81219 3 = .ok (.invokespecial 489, 3) := dkT (by decide +kernel)
theorem dJ0_init_81219_6 : decode cJ0_init_81219 6 = .ok (.return_, 1) := dkT (by decide +kernel)
theorem gd_wsJ0_length_8abf5 : wsJ0_length_8abf5.all goodWord = true := by decide +kernel
set_option maxRecDepth 20000 in
theorem ggJ0_length_8abf5_J0_coder_7d493 : GoodIn wsJ0_length_8abf5 wsJ0_coder_7d493 := gi_q gd_wsJ0_length_8abf5 _ [(6, 7)] rfl
set_option maxRecDepth 20000 in
theorem gJ0_length_8abf5_J0_coder_7d493 : GoodIn wsJ0_length_8abf5 (wsV RJ0 335 RJ0 yJ0_coder_7d493 wsJ0_coder_7d493) := goodIn_app (gi_q gd_wsJ0_length_8abf5 _ [(2, 4)] rfl) ggJ0_length_8abf5_J0_coder_7d493
theorem dJ0_length_8abf5_0 : decode cJ0_length_8abf5 0 = .ok (.aload_n 0, 1) := dkT (by decide +kernel)
theorem dJ0_length_8abf5_1 : decode cJ0_length_8abf5 1 = .ok (.getfield 9, 3) := dkT (by decide +kernel)
theorem dJ0_length_8abf5_4 : decode cJ0_length_8abf5 4 = .ok (.arraylength, 1) := dkT (by decide +kernel)
theorem dJ0_length_8abf5_5 : decode cJ0_length_8abf5 5 = .ok (.aload_n 0, 1) := dkT (by decide +kernel)
theorem dJ0_length_8abf5_6 : decode cJ0_length_8abf5 6 = .ok (.invokevirtual 335, 3) := dkT (by decide +kernel)
theorem dJ0_length_8abf5_9 : decode cJ0_length_8abf5 9 = .ok (.ishr, 1) := dkT (by decide +kernel)
theorem dJ0_length_8abf5_10 : decode cJ0_length_8abf5 10 = .ok (.ireturn, 1) := dkT (by decide +kernel)
theorem gd_wsJ0_getBytes_840e7 : wsJ0_getBytes_840e7.all goodWord = true := by decide +kernel
set_option maxRecDepth 20000 in
theorem ggJ0_getBytes_840e7_J0_coder_7d493 : GoodIn wsJ0_getBytes_840e7 wsJ0_coder_7d493 := gi_q gd_wsJ0_getBytes_840e7 _ [(10, 3), (41, 4)] rfl
set_option maxRecDepth 20000 in
theorem gJ0_getBytes_840e7_J0_coder_7d493 : GoodIn wsJ0_getBytes_840e7 (wsV RJ0 335 RJ0 yJ0_coder_7d493 wsJ0_coder_7d493) := goodIn_app (gi_q gd_wsJ0_getBytes_840e7 _ [(6, 4)] rfl) ggJ0_getBytes_840e7_J0_coder_7d493
set_option maxRecDepth 20000 in
theorem ggJ0_getBytes_840e7_J1_inflate_0e8fd : GoodIn wsJ0_getBytes_840e7 wsJ1_inflate_0e8fd := gi_q gd_wsJ0_getBytes_840e7 _ [(16, 13), (9, 1), (29, 12)] rfl
set_option maxRecDepth 20000 in
theorem gJ0_getBytes_840e7_J1_inflate_0e8fd : GoodIn wsJ0_getBytes_840e7 (va_wsS RJ0 106 yJ1_inflate_0e8fd wsJ1_inflate_0e8fd) := goodIn_app (gi_q gd_wsJ0_getBytes_840e7 _ [(13, 3)] rfl) ggJ0_getBytes_840e7_J1_inflate_0e8fd
def zT_cJ0_getBytes_840e7 : List (List Nat) := [[42, 182, 1, 79, 29, 160, 0, 23, 42, 180, 0, 9, 3, 43, 28, 29, 120, 42, 180, 0, 9, 190, 184, 0, 212, 167, 0, 18, 42, 180, 0, 9, 3, 43, 28, 42, 180, 0, 9, 190, 184, 0, 106, 177]]
theorem zE_cJ0_getBytes_840e7 : zTab cJ0_getBytes_840e7.data.toList zT_cJ0_getBytes_840e7 = true := by decide +kernel
theorem dJ0_getBytes_840e7_0 : decode cJ0_getBytes_840e7 0 = .ok (.aload_n 0, 1) := dz_aload_n_0 (y0 zE_cJ0_getBytes_840e7 0 0 (by decide +kernel))
theorem dJ0_getBytes_840e7_1 : decode cJ0_getBytes_840e7 1 = .ok (.invokevirtual 335, 3) := dz_invokevirtual (yu2 zE_cJ0_getBytes_840e7 0 1 (by decide +kernel))
theorem dJ0_getBytes_840e7_4 : decode cJ0_getBytes_840e7 4 = .ok (.iload_n 3, 1) := dz_iload_n_3 (y0 zE_cJ0_getBytes_840e7 0 4 (by decide +kernel))
theorem dJ0_getBytes_840e7_5 : decode cJ0_getBytes_840e7 5 = .ok (.if_icmp .ne 23, 3) := dz_if_icmp_ne (ys2 zE_cJ0_getBytes_840e7 0 5 (by decide +kernel))
theorem dJ0_getBytes_840e7_8 : decode cJ0_getBytes_840e7 8 = .ok (.aload_n 0, 1) := dz_aload_n_0 (y0 zE_cJ0_getBytes_840e7 0 8 (by decide +kernel))
theorem dJ0_getBytes_840e7_9 : decode cJ0_getBytes_840e7 9 = .ok (.getfield 9, 3) := dz_getfield (yu2 zE_cJ0_getBytes_840e7 0 9 (by decide +kernel))
theorem dJ0_getBytes_840e7_12 : decode cJ0_getBytes_840e7 12 = .ok (.iconst 0, 1) := dz_iconst_0 (y0 zE_cJ0_getBytes_840e7 0 12 (by decide +kernel))
theorem dJ0_getBytes_840e7_13 : decode cJ0_getBytes_840e7 13 = .ok (.aload_n 1, 1) := dz_aload_n_1 (y0 zE_cJ0_getBytes_840e7 0 13 (by decide +kernel))
theorem dJ0_getBytes_840e7_14 : decode cJ0_getBytes_840e7 14 = .ok (.iload_n 2, 1) := dz_iload_n_2 (y0 zE_cJ0_getBytes_840e7 0 14 (by decide +kernel))
theorem dJ0_getBytes_840e7_15 : decode cJ0_getBytes_840e7 15 = .ok (.iload_n 3, 1) := dz_iload_n_3 (y0 zE_cJ0_getBytes_840e7 0 15 (by decide +kernel))
theorem dJ0_getBytes_840e7_16 : decode cJ0_getBytes_840e7 16 = .ok (.ishl, 1) := dz_ishl (y0 zE_cJ0_getBytes_840e7 0 16 (by decide +kernel))
theorem dJ0_getBytes_840e7_17 : decode cJ0_getBytes_840e7 17 = .ok (.aload_n 0, 1) := dz_aload_n_0 (y0 zE_cJ0_getBytes_840e7 0 17 (by decide +kernel))
theorem dJ0_getBytes_840e7_18 : decode cJ0_getBytes_840e7 18 = .ok (.getfield 9, 3) := dz_getfield (yu2 zE_cJ0_getBytes_840e7 0 18 (by decide +kernel))
theorem dJ0_getBytes_840e7_21 : decode cJ0_getBytes_840e7 21 = .ok (.arraylength, 1) := dz_arraylength (y0 zE_cJ0_getBytes_840e7 0 21 (by decide +kernel))
theorem dJ0_getBytes_840e7_22 : decode cJ0_getBytes_840e7 22 = .ok (.invokestatic 212, 3) := dz_invokestatic (yu2 zE_cJ0_getBytes_840e7 0 22 (by decide +kernel))
theorem dJ0_getBytes_840e7_25 : decode cJ0_getBytes_840e7 25 = .ok (.goto 18, 3) := dz_goto (ys2 zE_cJ0_getBytes_840e7 0 25 (by decide +kernel))
theorem dJ0_getBytes_840e7_28 : decode cJ0_getBytes_840e7 28 = .ok (.aload_n 0, 1) := dz_aload_n_0 (y0 zE_cJ0_getBytes_840e7 0 28 (by decide +kernel))
theorem dJ0_getBytes_840e7_29 : decode cJ0_getBytes_840e7 29 = .ok (.getfield 9, 3) := dz_getfield (yu2 zE_cJ0_getBytes_840e7 0 29 (by decide +kernel))
theorem dJ0_getBytes_840e7_32 : decode cJ0_getBytes_840e7 32 = .ok (.iconst 0, 1) := dz_iconst_0 (y0 zE_cJ0_getBytes_840e7 0 32 (by decide +kernel))
theorem dJ0_getBytes_840e7_33 : decode cJ0_getBytes_840e7 33 = .ok (.aload_n 1, 1) := dz_aload_n_1 (y0 zE_cJ0_getBytes_840e7 0 33 (by decide +kernel))
theorem dJ0_getBytes_840e7_34 : decode cJ0_getBytes_840e7 34 = .ok (.iload_n 2, 1) := dz_iload_n_2 (y0 zE_cJ0_getBytes_840e7 0 34 (by decide +kernel))
theorem dJ0_getBytes_840e7_35 : decode cJ0_getBytes_840e7 35 = .ok (.aload_n 0, 1) := dz_aload_n_0 (y0 zE_cJ0_getBytes_840e7 0 35 (by decide +kernel))
theorem dJ0_getBytes_840e7_36 : decode cJ0_getBytes_840e7 36 = .ok (.getfield 9, 3) := dz_getfield (yu2 zE_cJ0_getBytes_840e7 0 36 (by decide +kernel))
theorem dJ0_getBytes_840e7_39 : decode cJ0_getBytes_840e7 39 = .ok (.arraylength, 1) := dz_arraylength (y0 zE_cJ0_getBytes_840e7 0 39 (by decide +kernel))
theorem dJ0_getBytes_840e7_40 : decode cJ0_getBytes_840e7 40 = .ok (.invokestatic 106, 3) := dz_invokestatic (yu2 zE_cJ0_getBytes_840e7 0 40 (by decide +kernel))
theorem dJ0_getBytes_840e7_43 : decode cJ0_getBytes_840e7 43 = .ok (.return_, 1) := dz_return (y0 zE_cJ0_getBytes_840e7 0 43 (by decide +kernel))
theorem gd_wsJ0_init_db425 : wsJ0_init_db425.all goodWord = true := by decide +kernel
set_option maxRecDepth 20000 in
theorem ggJ0_init_db425_J5_getValue_6d5f1 : GoodIn wsJ0_init_db425 wsJ5_getValue_6d5f1 := gi_q gd_wsJ0_init_db425 _ [(13, 2), (101, 4)] rfl
set_option maxRecDepth 20000 in
theorem gJ0_init_db425_J5_getValue_6d5f1_u552J4 : GoodIn wsJ0_init_db425 (va_wsU RJ0 552 RJ4 "java/lang/AbstractStringBuilder" ⟨"java/lang/AbstractStringBuilder", "getValue", "()[B"⟩ yJ5_getValue_6d5f1 wsJ5_getValue_6d5f1) := goodIn_app (goodIn_of _ (by decide +kernel)) ggJ0_init_db425_J5_getValue_6d5f1
set_option maxRecDepth 20000 in
theorem ggJ0_init_db425_J4_length_8abf5 : GoodIn wsJ0_init_db425 wsJ4_length_8abf5 := gi_q gd_wsJ0_init_db425 _ [(21, 2), (16, 1), (23, 2), (12, 1), (25, 2), (101, 4)] rfl
set_option maxRecDepth 20000 in
theorem gJ0_init_db425_J4_length_8abf5_u549J4 : GoodIn wsJ0_init_db425 (va_wsO RJ0 549 RJ4 "java/lang/AbstractStringBuilder" ⟨"java/lang/AbstractStringBuilder", "length", "()I"⟩ yJ4_length_8abf5 wsJ4_length_8abf5) := goodIn_app (goodIn_of _ (by decide +kernel)) ggJ0_init_db425_J4_length_8abf5
set_option maxRecDepth 20000 in
theorem ggJ0_init_db425_J5_isLatin1_aae02 : GoodIn wsJ0_init_db425 wsJ5_isLatin1_aae02 := gi_q gd_wsJ0_init_db425 _ [(31, 3), (101, 4)] rfl
set_option maxRecDepth 20000 in
theorem gJ0_init_db425_J5_isLatin1_aae02_u1047J4 : GoodIn wsJ0_init_db425 (va_wsU RJ0 1047 RJ4 "java/lang/AbstractStringBuilder" ⟨"java/lang/AbstractStringBuilder", "isLatin1", "()Z"⟩ yJ5_isLatin1_aae02 wsJ5_isLatin1_aae02) := goodIn_app (goodIn_of _ (by decide +kernel)) ggJ0_init_db425_J5_isLatin1_aae02
set_option maxRecDepth 20000 in
theorem ggJ0_init_db425_J7_copyOfRange_39247 : GoodIn wsJ0_init_db425 wsJ7_copyOfRange_39247 := gi_q gd_wsJ0_init_db425 _ [(37, 9), (36, 1), (46, 15), (20, 1), (101, 4)] rfl
set_option maxRecDepth 20000 in
theorem gJ0_init_db425_J7_copyOfRange_39247 : GoodIn wsJ0_init_db425 (va_wsS RJ0 54 yJ7_copyOfRange_39247 wsJ7_copyOfRange_39247) := goodIn_app (gi_q gd_wsJ0_init_db425 _ [(34, 3)] rfl) ggJ0_init_db425_J7_copyOfRange_39247
set_option maxRecDepth 20000 in
theorem ggJ0_init_db425_J2_compress_39247 : GoodIn wsJ0_init_db425 wsJ2_compress_39247 := gi_q gd_wsJ0_init_db425 _ [(64, 1), (47, 1), (65, 2), (63, 1), (67, 27), (35, 12), (48, 13), (20, 1), (101, 4)] rfl
set_option maxRecDepth 20000 in
theorem gJ0_init_db425_J2_compress_39247 : GoodIn wsJ0_init_db425 (va_wsS RJ0 1051 yJ2_compress_39247 wsJ2_compress_39247) := goodIn_app (gi_q gd_wsJ0_init_db425 _ [(61, 3)] rfl) ggJ0_init_db425_J2_compress_39247
set_option maxRecDepth 20000 in
theorem ggJ0_init_db425_J2_coderFromArrayLen_85cad : GoodIn wsJ0_init_db425 wsJ2_coderFromArrayLen_85cad := gi_q gd_wsJ0_init_db425 _ [(96, 1)] rfl
set_option maxRecDepth 20000 in
theorem gJ0_init_db425_J2_coderFromArrayLen_85cad : GoodIn wsJ0_init_db425 (va_wsS RJ0 47 yJ2_coderFromArrayLen_85cad wsJ2_coderFromArrayLen_85cad) := goodIn_app (gi_q gd_wsJ0_init_db425 _ [(94, 2), (63, 1)] rfl) ggJ0_init_db425_J2_coderFromArrayLen_85cad
def zT_cJ0_init_db425 : List (List Nat) := [[42, 183, 0, 1, 43, 182, 2, 40, 78, 43, 182, 2, 37, 54, 4, 43, 182, 4, 23, 153, 0, 22, 42, 3, 181, 0, 15, 42, 45, 3, 21, 4, 184, 0, 54, 181, 0, 9, 167, 0, 59, 178, 0, 38, 153, 0, 35, 43, 180, 4, 24, 153, 0, 28, 42, 45, 3, 21, 4, 184, 4, 27, 181, 0, 9, 42, 42, 180], [9, 42, 42, 180, 0, 9, 21, 4, 184, 0, 47, 181, 0, 15, 177, 42, 4, 181, 0, 15, 42, 45, 3, 21, 4, 4, 120, 184, 0, 54, 181, 0, 9, 177]]
theorem zE_cJ0_init_db425 : zTab cJ0_init_db425.data.toList zT_cJ0_init_db425 = true := by decide +kernel
theorem dJ0_init_db425_0 : decode cJ0_init_db425 0 = .ok (.aload_n 0, 1) := dz_aload_n_0 (y0 zE_cJ0_init_db425 0 0 (by decide +kernel))
theorem dJ0_init_db425_1 : decode cJ0_init_db425 1 = .ok (.invokespecial 1, 3) := dz_invokespecial (yu2 zE_cJ0_init_db425 0 1 (by decide +kernel))
theorem dJ0_init_db425_4 : decode cJ0_init_db425 4 = .ok (.aload_n 1, 1) := dz_aload_n_1 (y0 zE_cJ0_init_db425 0 4 (by decide +kernel))
theorem dJ0_init_db425_5 : decode cJ0_init_db425 5 = .ok (.invokevirtual 552, 3) := dz_invokevirtual (yu2 zE_cJ0_init_db425 0 5 (by decide +kernel))
theorem dJ0_init_db425_8 : decode cJ0_init_db425 8 = .ok (.astore_n 3, 1) := dz_astore_n_3 (y0 zE_cJ0_init_db425 0 8 (by decide +kernel))
theorem dJ0_init_db425_9 : decode cJ0_init_db425 9 = .ok (.aload_n 1, 1) := dz_aload_n_1 (y0 zE_cJ0_init_db425 0 9 (by decide +kernel))
theorem dJ0_init_db425_10 : decode cJ0_init_db425 10 = .ok (.invokevirtual 549, 3) := dz_invokevirtual (yu2 zE_cJ0_init_db425 0 10 (by decide +kernel))
theorem dJ0_init_db425_13 : decode cJ0_init_db425 13 = .ok (.istore 4, 2) := dz_istore (yu1 zE_cJ0_init_db425 0 13 (by decide +kernel))
theorem dJ0_init_db425_15 : decode cJ0_init_db425 15 = .ok (.aload_n 1, 1) := dz_aload_n_1 (y0 zE_cJ0_init_db425 0 15 (by decide +kernel))
theorem dJ0_init_db425_16 : decode cJ0_init_db425 16 = .ok (.invokevirtual 1047, 3) := dz_invokevirtual (yu2 zE_cJ0_init_db425 0 16 (by decide +kernel))
theorem dJ0_init_db425_19 : decode cJ0_init_db425 19 = .ok (.ifCond .eq 22, 3) := dz_ifCond_eq (ys2 zE_cJ0_init_db425 0 19 (by decide +kernel))
theorem dJ0_init_db425_22 : decode cJ0_init_db425 22 = .ok (.aload_n 0, 1) := dz_aload_n_0 (y0 zE_cJ0_init_db425 0 22 (by decide +kernel))
theorem dJ0_init_db425_23 : decode cJ0_init_db425 23 = .ok (.iconst 0, 1) := dz_iconst_0 (y0 zE_cJ0_init_db425 0 23 (by decide +kernel))
theorem dJ0_init_db425_24 : decode cJ0_init_db425 24 = .ok (.putfield 15, 3) := dz_putfield (yu2 zE_cJ0_init_db425 0 24 (by decide +kernel))
theorem dJ0_init_db425_27 : decode cJ0_init_db425 27 = .ok (.aload_n 0, 1) := dz_aload_n_0 (y0 zE_cJ0_init_db425 0 27 (by decide +kernel))
theorem dJ0_init_db425_28 : decode cJ0_init_db425 28 = .ok (.aload_n 3, 1) := dz_aload_n_3 (y0 zE_cJ0_init_db425 0 28 (by decide +kernel))
theorem dJ0_init_db425_29 : decode cJ0_init_db425 29 = .ok (.iconst 0, 1) := dz_iconst_0 (y0 zE_cJ0_init_db425 0 29 (by decide +kernel))
theorem dJ0_init_db425_30 : decode cJ0_init_db425 30 = .ok (.iload 4, 2) := dz_iload (yu1 zE_cJ0_init_db425 0 30 (by decide +kernel))
theorem dJ0_init_db425_32 : decode cJ0_init_db425 32 = .ok (.invokestatic 54, 3) := dz_invokestatic (yu2 zE_cJ0_init_db425 0 32 (by decide +kernel))
theorem dJ0_init_db425_35 : decode cJ0_init_db425 35 = .ok (.putfield 9, 3) := dz_putfield (yu2 zE_cJ0_init_db425 0 35 (by decide +kernel))
theorem dJ0_init_db425_38 : decode cJ0_init_db425 38 = .ok (.goto 59, 3) := dz_goto (ys2 zE_cJ0_init_db425 0 38 (by decide +kernel))
theorem dJ0_init_db425_41 : decode cJ0_init_db425 41 = .ok (.getstatic 38, 3) := dz_getstatic (yu2 zE_cJ0_init_db425 0 41 (by decide +kernel))
theorem dJ0_init_db425_44 : decode cJ0_init_db425 44 = .ok (.ifCond .eq 35, 3) := dz_ifCond_eq (ys2 zE_cJ0_init_db425 0 44 (by decide +kernel))
theorem dJ0_init_db425_47 : decode cJ0_init_db425 47 = .ok (.aload_n 1, 1) := dz_aload_n_1 (y0 zE_cJ0_init_db425 0 47 (by decide +kernel))
theorem dJ0_init_db425_48 : decode cJ0_init_db425 48 = .ok (.getfield 1048, 3) := dz_getfield (yu2 zE_cJ0_init_db425 0 48 (by decide +kernel))
theorem dJ0_init_db425_51 : decode cJ0_init_db425 51 = .ok (.ifCond .eq 28, 3) := dz_ifCond_eq (ys2 zE_cJ0_init_db425 0 51 (by decide +kernel))
theorem dJ0_init_db425_54 : decode cJ0_init_db425 54 = .ok (.aload_n 0, 1) := dz_aload_n_0 (y0 zE_cJ0_init_db425 0 54 (by decide +kernel))
theorem dJ0_init_db425_55 : decode cJ0_init_db425 55 = .ok (.aload_n 3, 1) := dz_aload_n_3 (y0 zE_cJ0_init_db425 0 55 (by decide +kernel))
theorem dJ0_init_db425_56 : decode cJ0_init_db425 56 = .ok (.iconst 0, 1) := dz_iconst_0 (y0 zE_cJ0_init_db425 0 56 (by decide +kernel))
theorem dJ0_init_db425_57 : decode cJ0_init_db425 57 = .ok (.iload 4, 2) := dz_iload (yu1 zE_cJ0_init_db425 0 57 (by decide +kernel))
theorem dJ0_init_db425_59 : decode cJ0_init_db425 59 = .ok (.invokestatic 1051, 3) := dz_invokestatic (yu2 zE_cJ0_init_db425 0 59 (by decide +kernel))
theorem dJ0_init_db425_62 : decode cJ0_init_db425 62 = .ok (.putfield 9, 3) := dz_putfield (yu2 zE_cJ0_init_db425 0 62 (by decide +kernel))
theorem dJ0_init_db425_65 : decode cJ0_init_db425 65 = .ok (.aload_n 0, 1) := dz_aload_n_0 (y0 zE_cJ0_init_db425 1 1 (by decide +kernel))
theorem dJ0_init_db425_66 : decode cJ0_init_db425 66 = .ok (.aload_n 0, 1) := dz_aload_n_0 (y0 zE_cJ0_init_db425 1 2 (by decide +kernel))
theorem dJ0_init_db425_67 : decode cJ0_init_db425 67 = .ok (.getfield 9, 3) := dz_getfield (yu2 zE_cJ0_init_db425 1 3 (by decide +kernel))
theorem dJ0_init_db425_70 : decode cJ0_init_db425 70 = .ok (.iload 4, 2) := dz_iload (yu1 zE_cJ0_init_db425 1 6 (by decide +kernel))
theorem dJ0_init_db425_72 : decode cJ0_init_db425 72 = .ok (.invokestatic 47, 3) := dz_invokestatic (yu2 zE_cJ0_init_db425 1 8 (by decide +kernel))
theorem dJ0_init_db425_75 : decode cJ0_init_db425 75 = .ok (.putfield 15, 3) := dz_putfield (yu2 zE_cJ0_init_db425 1 11 (by decide +kernel))
theorem dJ0_init_db425_78 : decode cJ0_init_db425 78 = .ok (.return_, 1) := dz_return (y0 zE_cJ0_init_db425 1 14 (by decide +kernel))
theorem dJ0_init_db425_79 : decode cJ0_init_db425 79 = .ok (.aload_n 0, 1) := dz_aload_n_0 (y0 zE_cJ0_init_db425 1 15 (by decide +kernel))
theorem dJ0_init_db425_80 : decode cJ0_init_db425 80 = .ok (.iconst 1, 1) := dz_iconst_1 (y0 zE_cJ0_init_db425 1 16 (by decide +kernel))
theorem dJ0_init_db425_81 : decode cJ0_init_db425 81 = .ok (.putfield 15, 3) := dz_putfield (yu2 zE_cJ0_init_db425 1 17 (by decide +kernel))
theorem dJ0_init_db425_84 : decode cJ0_init_db425 84 = .ok (.aload_n 0, 1) := dz_aload_n_0 (y0 zE_cJ0_init_db425 1 20 (by decide +kernel))
theorem dJ0_init_db425_85 : decode cJ0_init_db425 85 = .ok (.aload_n 3, 1) := dz_aload_n_3 (y0 zE_cJ0_init_db425 1 21 (by decide +kernel))
theorem dJ0_init_db425_86 : decode cJ0_init_db425 86 = .ok (.iconst 0, 1) := dz_iconst_0 (y0 zE_cJ0_init_db425 1 22 (by decide +kernel))
theorem dJ0_init_db425_87 : decode cJ0_init_db425 87 = .ok (.iload 4, 2) := dz_iload (yu1 zE_cJ0_init_db425 1 23 (by decide +kernel))
theorem dJ0_init_db425_89 : decode cJ0_init_db425 89 = .ok (.iconst 1, 1) := dz_iconst_1 (y0 zE_cJ0_init_db425 1 25 (by decide +kernel))
theorem dJ0_init_db425_90 : decode cJ0_init_db425 90 = .ok (.ishl, 1) := dz_ishl (y0 zE_cJ0_init_db425 1 26 (by decide +kernel))
theorem dJ0_init_db425_91 : decode cJ0_init_db425 91 = .ok (.invokestatic 54, 3) := dz_invokestatic (yu2 zE_cJ0_init_db425 1 27 (by decide +kernel))
theorem dJ0_init_db425_94 : decode cJ0_init_db425 94 = .ok (.putfield 9, 3) := dz_putfield (yu2 zE_cJ0_init_db425 1 30 (by decide +kernel))
theorem dJ0_init_db425_97 : decode cJ0_init_db425 97 = .ok (.return_, 1) := dz_return (y0 zE_cJ0_init_db425 1 33 (by decide +kernel))
theorem dJ0_coder_7d493_0 : decode cJ0_coder_7d493 0 = .ok (.getstatic 38, 3) := dkT (by decide +kernel)
theorem dJ0_coder_7d493_3 : decode cJ0_coder_7d493 3 = .ok (.ifCond .eq 10, 3) := dkT (by decide +kernel)
theorem dJ0_coder_7d493_6 : decode cJ0_coder_7d493 6 = .ok (.aload_n 0, 1) := dkT (by decide +kernel)
theorem dJ0_coder_7d493_7 : decode cJ0_coder_7d493 7 = .ok (.getfield 15, 3) := dkT (by decide +kernel)
theorem dJ0_coder_7d493_10 : decode cJ0_coder_7d493 10 = .ok (.goto 4, 3) := dkT (by decide +kernel)
theorem dJ0_coder_7d493_13 : decode cJ0_coder_7d493 13 = .ok (.iconst 1, 1) := dkT (by decide +kernel)
theorem dJ0_coder_7d493_14 : decode cJ0_coder_7d493 14 = .ok (.ireturn, 1) := dkT (by decide +kernel)
theorem gd_wsJ0_checkIndex_df160 : wsJ0_checkIndex_df160.all goodWord = true := by decide +kernel
set_option maxRecDepth 20000 in
theorem ggJ0_checkIndex_df160_J3_checkIndex_8e157 : GoodIn wsJ0_checkIndex_df160 wsJ3_checkIndex_8e157 := gi_q gd_wsJ0_checkIndex_df160 _ [(5, 1)] rfl
set_option maxRecDepth 20000 in
theorem gJ0_checkIndex_df160_J3_checkIndex_8e157 : GoodIn wsJ0_checkIndex_df160 (va_wsS RJ0 1059 yJ3_checkIndex_8e157 wsJ3_checkIndex_8e157) := goodIn_app (gi_q gd_wsJ0_checkIndex_df160 _ [(2, 3)] rfl) ggJ0_checkIndex_df160_J3_checkIndex_8e157
theorem dJ0_checkIndex_df160_0 : decode cJ0_checkIndex_df160 0 = .ok (.iload_n 0, 1) := dkT (by decide +kernel)
theorem dJ0_checkIndex_df160_1 : decode cJ0_checkIndex_df160 1 = .ok (.iload_n 1, 1) := dkT (by decide +kernel)
theorem dJ0_checkIndex_df160_2 : decode cJ0_checkIndex_df160 2 = .ok (.getstatic 1053, 3) := dkT (by decide +kernel)
theorem dJ0_checkIndex_df160_5 : decode cJ0_checkIndex_df160 5 = .ok (.invokestatic 1059, 3) := dkT (by decide +kernel)
theorem dJ0_checkIndex_df160_8 : decode cJ0_checkIndex_df160 8 = .ok (.pop, 1) := dkT (by decide +kernel)
theorem dJ0_checkIndex_df160_9 : decode cJ0_checkIndex_df160 9 = .ok (.return_, 1) := dkT (by decide +kernel)
theorem gd_wsJ0_checkBoundsOffCount_cabcc : wsJ0_checkBoundsOffCount_cabcc.all goodWord = true := by decide +kernel
set_option maxRecDepth 20000 in
theorem ggJ0_checkBoundsOffCount_cabcc_J3_checkFromIndexSize_8c36e : GoodIn wsJ0_checkBoundsOffCount_cabcc wsJ3_checkFromIndexSize_8c36e := gi_q gd_wsJ0_checkBoundsOffCount_cabcc _ [(5, 1)] rfl
set_option maxRecDepth 20000 in
theorem gJ0_checkBoundsOffCount_cabcc_J3_checkFromIndexSize_8c36e : GoodIn wsJ0_checkBoundsOffCount_cabcc (va_wsS RJ0 1065 yJ3_checkFromIndexSize_8c36e wsJ3_checkFromIndexSize_8c36e) := goodIn_app (gi_q gd_wsJ0_checkBoundsOffCount_cabcc _ [(2, 3)] rfl) ggJ0_checkBoundsOffCount_cabcc_J3_checkFromIndexSize_8c36e
theorem dJ0_checkBoundsOffCount_cabcc_0 : decode cJ0_checkBoundsOffCount_cabcc 0 = .ok (.iload_n 0, 1) := dkT (by decide +kernel)
theorem dJ0_checkBoundsOffCount_cabcc_1 : decode cJ0_checkBoundsOffCount_cabcc 1 = .ok (.iload_n 1, 1) := dkT (by decide +kernel)
theorem dJ0_checkBoundsOffCount_cabcc_2 : decode cJ0_checkBoundsOffCount_cabcc 2 = .ok (.iload_n 2, 1) := dkT (by decide +kernel)
theorem dJ0_checkBoundsOffCount_cabcc_3 : decode cJ0_checkBoundsOffCount_cabcc 3 = .ok (.getstatic 1053, 3) := dkT (by decide +kernel)
theorem dJ0_checkBoundsOffCount_cabcc_6 : decode cJ0_checkBoundsOffCount_cabcc 6 = .ok (.invokestatic 1065, 3) := dkT (by decide +kernel)
theorem dJ0_checkBoundsOffCount_cabcc_9 : decode cJ0_checkBoundsOffCount_cabcc 9 = .ok (.ireturn, 1) := dkT (by decide +kernel)
theorem gd_wsJ0_checkBoundsBeginEnd_23922 : wsJ0_checkBoundsBeginEnd_23922.all goodWord = true := by decide +kernel
set_option maxRecDepth 20000 in
theorem ggJ0_checkBoundsBeginEnd_23922_J3_checkFromToIndex_8c36e : GoodIn wsJ0_checkBoundsBeginEnd_23922 wsJ3_checkFromToIndex_8c36e := gi_q gd_wsJ0_checkBoundsBeginEnd_23922 _ [(5, 1)] rfl
set_option maxRecDepth 20000 in
theorem gJ0_checkBoundsBeginEnd_23922_J3_checkFromToIndex_8c36e : GoodIn wsJ0_checkBoundsBeginEnd_23922 (va_wsS RJ0 1062 yJ3_checkFromToIndex_8c36e wsJ3_checkFromToIndex_8c36e) := goodIn_app (gi_q gd_wsJ0_checkBoundsBeginEnd_23922 _ [(2, 3)] rfl) ggJ0_checkBoundsBeginEnd_23922_J3_checkFromToIndex_8c36e
theorem dJ0_checkBoundsBeginEnd_23922_0 : decode cJ0_checkBoundsBeginEnd_23922 0 = .ok (.iload_n 0, 1) := dkT (by decide +kernel)
theorem dJ0_checkBoundsBeginEnd_23922_1 : decode cJ0_checkBoundsBeginEnd_23922 1 = .ok (.iload_n 1, 1) := dkT (by decide +kernel)
theorem dJ0_checkBoundsBeginEnd_23922_2 : decode cJ0_checkBoundsBeginEnd_23922 2 = .ok (.iload_n 2, 1) := dkT (by decide +kernel)
theorem dJ0_checkBoundsBeginEnd_23922_3 : decode cJ0_checkBoundsBeginEnd_23922 3 = .ok (.getstatic 1053, 3) := dkT (by decide +kernel)
theorem dJ0_checkBoundsBeginEnd_23922_6 : decode cJ0_checkBoundsBeginEnd_23922 6 = .ok (.invokestatic 1062, 3) := dkT (by decide +kernel)
theorem dJ0_checkBoundsBeginEnd_23922_9 : decode cJ0_checkBoundsBeginEnd_23922 9 = .ok (.pop, 1) := dkT (by decide +kernel)
theorem dJ0_checkBoundsBeginEnd_23922_10 : decode cJ0_checkBoundsBeginEnd_23922 10 = .ok (.return_, 1) := dkT (by decide +kernel)
theorem gd_wsJ4_init_da8c8 : wsJ4_init_da8c8.all goodWord = true := by decide +kernel
set_option maxRecDepth 20000 in
theorem ggJ4_init_da8c8_J5_init_d00df : GoodIn wsJ4_init_da8c8 wsJ5_init_d00df := gi_q gd_wsJ4_init_da8c8 _ [(4, 20)] rfl
set_option maxRecDepth 20000 in
theorem gJ4_init_da8c8_J5_init_d00df : GoodIn wsJ4_init_da8c8 (wsJ5_init_d00df) := ggJ4_init_da8c8_J5_init_d00df
theorem dJ4_init_da8c8_0 : decode cJ4_init_da8c8 0 = .ok (.aload_n 0, 1) := dkT (by decide +kernel)
theorem dJ4_init_da8c8_1 : decode cJ4_init_da8c8 1 = .ok (.bipush 16, 2) := dkT (by decide +kernel)
theorem dJ4_init_da8c8_3 : decode cJ4_init_da8c8 3 = .ok (.invokespecial 1, 3) := dkT (by decide +kernel)
theorem dJ4_init_da8c8_6 : decode cJ4_init_da8c8 6 = .ok (.return_, 1) := dkT (by decide +kernel)
theorem gd_wsJ4_append_15ec4 : wsJ4_append_15ec4.all goodWord = true := by decide +kernel
set_option maxRecDepth 20000 in
theorem ggJ4_append_15ec4_J5_append_cf1ce : GoodIn wsJ4_append_15ec4 wsJ5_append_cf1ce := gi_q gd_wsJ4_append_15ec4 _ [(6, 6), (5, 1), (12, 139)] rfl
set_option maxRecDepth 20000 in
theorem gJ4_append_15ec4_J5_append_cf1ce_s29 : GoodIn wsJ4_append_15ec4 (va_wsSU RJ4 29 yJ5_append_cf1ce wsJ5_append_cf1ce) := goodIn_app (goodIn_of _ (by decide +kernel)) ggJ4_append_15ec4_J5_append_cf1ce
theorem dJ4_append_15ec4_0 : decode cJ4_append_15ec4 0 = .ok (.aload_n 0, 1) := dkT (by decide +kernel)
theorem dJ4_append_15ec4_1 : decode cJ4_append_15ec4 1 = .ok (.aload_n 1, 1) := dkT (by decide +kernel)
theorem dJ4_append_15ec4_2 : decode cJ4_append_15ec4 2 = .ok (.invokespecial 29, 3) := dkT (by decide +kernel)
theorem dJ4_append_15ec4_5 : decode cJ4_append_15ec4 5 = .ok (.pop, 1) := dkT (by decide +kernel)
theorem dJ4_append_15ec4_6 : decode cJ4_append_15ec4 6 = .ok (.aload_n 0, 1) := dkT (by decide +kernel)
theorem dJ4_append_15ec4_7 : decode cJ4_append_15ec4 7 = .ok (.areturn, 1) := dkT (by decide +kernel)
theorem gd_wsJ4_append_cf468 : wsJ4_append_cf468.all goodWord = true := by decide +kernel
set_option maxRecDepth 20000 in
theorem ggJ4_append_cf468_J5_append_3fe6f : GoodIn wsJ4_append_cf468 wsJ5_append_3fe6f := gi_q gd_wsJ4_append_cf468 _ [(6, 7), (5, 1), (13, 104)] rfl
set_option maxRecDepth 20000 in
theorem gJ4_append_cf468_J5_append_3fe6f_s50 : GoodIn wsJ4_append_cf468 (va_wsSU RJ4 50 yJ5_append_3fe6f wsJ5_append_3fe6f) := goodIn_app (goodIn_of _ (by decide +kernel)) ggJ4_append_cf468_J5_append_3fe6f
theorem dJ4_append_cf468_0 : decode cJ4_append_cf468 0 = .ok (.aload_n 0, 1) := dkT (by decide +kernel)
theorem dJ4_append_cf468_1 : decode cJ4_append_cf468 1 = .ok (.iload_n 1, 1) := dkT (by decide +kernel)
theorem dJ4_append_cf468_2 : decode cJ4_append_cf468 2 = .ok (.invokespecial 50, 3) := dkT (by decide +kernel)
theorem dJ4_append_cf468_5 : decode cJ4_append_cf468 5 = .ok (.pop, 1) := dkT (by decide +kernel)
theorem dJ4_append_cf468_6 : decode cJ4_append_cf468 6 = .ok (.aload_n 0, 1) := dkT (by decide +kernel)
theorem dJ4_append_cf468_7 : decode cJ4_append_cf468 7 = .ok (.areturn, 1) := dkT (by decide +kernel)
theorem gd_wsJ4_append_bf812 : wsJ4_append_bf812.all goodWord = true := by decide +kernel
set_option maxRecDepth 20000 in
theorem ggJ4_append_bf812_J5_append_c97b9 : GoodIn wsJ4_append_bf812 wsJ5_append_c97b9 := gi_q gd_wsJ4_append_bf812 _ [(6, 11), (5, 1), (17, 83)] rfl
set_option maxRecDepth 20000 in
theorem gJ4_append_bf812_J5_append_c97b9_s53 : GoodIn wsJ4_append_bf812 (va_wsSU RJ4 53 yJ5_append_c97b9 wsJ5_append_c97b9) := goodIn_app (goodIn_of _ (by decide +kernel)) ggJ4_append_bf812_J5_append_c97b9
theorem dJ4_append_bf812_0 : decode cJ4_append_bf812 0 = .ok (.aload_n 0, 1) := dkT (by decide +kernel)
theorem dJ4_append_bf812_1 : decode cJ4_append_bf812 1 = .ok (.iload_n 1, 1) := dkT (by decide +kernel)
theorem dJ4_append_bf812_2 : decode cJ4_append_bf812 2 = .ok (.invokespecial 53, 3) := dkT (by decide +kernel)
theorem dJ4_append_bf812_5 : decode cJ4_append_bf812 5 = .ok (.pop, 1) := dkT (by decide +kernel)
theorem dJ4_append_bf812_6 : decode cJ4_append_bf812 6 = .ok (.aload_n 0, 1) := dkT (by decide +kernel)
theorem dJ4_append_bf812_7 : decode cJ4_append_bf812 7 = .ok (.areturn, 1) := dkT (by decide +kernel)
theorem gd_wsJ4_toString_0e30d : wsJ4_toString_0e30d.all goodWord = true := by decide +kernel
set_option maxRecDepth 20000 in
theorem ggJ4_toString_0e30d_J0_init_81219 : GoodIn wsJ4_toString_0e30d wsJ0_init_81219 := gi_q gd_wsJ4_toString_0e30d _ [(6, 3), (3, 1), (9, 104)] rfl
set_option maxRecDepth 20000 in
theorem gJ4_toString_0e30d_J0_init_81219 : GoodIn wsJ4_toString_0e30d (wsJ0_init_81219) := ggJ4_toString_0e30d_J0_init_81219
theorem dJ4_toString_0e30d_0 : decode cJ4_toString_0e30d 0 = .ok (.new 18, 3) := dkT (by decide +kernel)
theorem dJ4_toString_0e30d_3 : decode cJ4_toString_0e30d 3 = .ok (.dup, 1) := dkT (by decide +kernel)
theorem dJ4_toString_0e30d_4 : decode cJ4_toString_0e30d 4 = .ok (.aload_n 0, 1) := dkT (by decide +kernel)
theorem dJ4_toString_0e30d_5 : decode cJ4_toString_0e30d 5 = .ok (.invokespecial 137, 3) := dkT (by decide +kernel)
theorem dJ4_toString_0e30d_8 : decode cJ4_toString_0e30d 8 = .ok (.areturn, 1) := dkT (by decide +kernel)
theorem gd_wsJ4_length_8abf5 : wsJ4_length_8abf5.all goodWord = true := by decide +kernel
set_option maxRecDepth 20000 in
theorem ggJ4_length_8abf5_J5_length_8abf5 : GoodIn wsJ4_length_8abf5 wsJ5_length_8abf5 := gi_q gd_wsJ4_length_8abf5 _ [(6, 6)] rfl
set_option maxRecDepth 20000 in
theorem gJ4_length_8abf5_J5_length_8abf5_s343 : GoodIn wsJ4_length_8abf5 (va_wsSU RJ4 343 yJ5_length_8abf5 wsJ5_length_8abf5) := goodIn_app (goodIn_of _ (by decide +kernel)) ggJ4_length_8abf5_J5_length_8abf5
theorem dJ4_length_8abf5_0 : decode cJ4_length_8abf5 0 = .ok (.aload_n 0, 1) := dkT (by decide +kernel)
theorem dJ4_length_8abf5_1 : decode cJ4_length_8abf5 1 = .ok (.invokespecial 343, 3) := dkT (by decide +kernel)
theorem dJ4_length_8abf5_4 : decode cJ4_length_8abf5 4 = .ok (.ireturn, 1) := dkT (by decide +kernel)
theorem dJ1_canEncode_fc78d_0 : decode cJ1_canEncode_fc78d 0 = .ok (.iload_n 0, 1) := dkT (by decide +kernel)
theorem dJ1_canEncode_fc78d_1 : decode cJ1_canEncode_fc78d 1 = .ok (.sipush 255, 3) := dkT (by decide +kernel)
theorem dJ1_canEncode_fc78d_4 : decode cJ1_canEncode_fc78d 4 = .ok (.if_icmp .gt 7, 3) := dkT (by decide +kernel)
theorem dJ1_canEncode_fc78d_7 : decode cJ1_canEncode_fc78d 7 = .ok (.iconst 1, 1) := dkT (by decide +kernel)
theorem dJ1_canEncode_fc78d_8 : decode cJ1_canEncode_fc78d 8 = .ok (.goto 4, 3) := dkT (by decide +kernel)
theorem dJ1_canEncode_fc78d_11 : decode cJ1_canEncode_fc78d 11 = .ok (.iconst 0, 1) := dkT (by decide +kernel)
theorem dJ1_canEncode_fc78d_12 : decode cJ1_canEncode_fc78d 12 = .ok (.ireturn, 1) := dkT (by decide +kernel)
theorem gd_wsJ1_inflate_0e8fd : wsJ1_inflate_0e8fd.all goodWord = true := by decide +kernel
set_option maxRecDepth 20000 in
theorem ggJ1_inflate_0e8fd_J2_inflate_0e8fd : GoodIn wsJ1_inflate_0e8fd wsJ2_inflate_0e8fd := gi_q gd_wsJ1_inflate_0e8fd _ [(4, 3), (3, 1), (7, 19)] rfl
set_option maxRecDepth 20000 in
theorem gJ1_inflate_0e8fd_J2_inflate_0e8fd : GoodIn wsJ1_inflate_0e8fd (va_wsS RJ1 240 yJ2_inflate_0e8fd wsJ2_inflate_0e8fd) := goodIn_app (gi_q gd_wsJ1_inflate_0e8fd _ [(1, 3)] rfl) ggJ1_inflate_0e8fd_J2_inflate_0e8fd
theorem dJ1_inflate_0e8fd_0 : decode cJ1_inflate_0e8fd 0 = .ok (.aload_n 0, 1) := dkT (by decide +kernel)
theorem dJ1_inflate_0e8fd_1 : decode cJ1_inflate_0e8fd 1 = .ok (.iload_n 1, 1) := dkT (by decide +kernel)
theorem dJ1_inflate_0e8fd_2 : decode cJ1_inflate_0e8fd 2 = .ok (.aload_n 2, 1) := dkT (by decide +kernel)
theorem dJ1_inflate_0e8fd_3 : decode cJ1_inflate_0e8fd 3 = .ok (.iload_n 3, 1) := dkT (by decide +kernel)
theorem dJ1_inflate_0e8fd_4 : decode cJ1_inflate_0e8fd 4 = .ok (.iload 4, 2) := dkT (by decide +kernel)
theorem dJ1_inflate_0e8fd_6 : decode cJ1_inflate_0e8fd 6 = .ok (.invokestatic 240, 3) := dkT (by decide +kernel)
theorem dJ1_inflate_0e8fd_9 : decode cJ1_inflate_0e8fd 9 = .ok (.return_, 1) := dkT (by decide +kernel)
theorem gd_wsJ2_newBytesFor_77867 : wsJ2_newBytesFor_77867.all goodWord = true := by decide +kernel
set_option maxRecDepth 20000 in
theorem ggJ2_newBytesFor_77867_J2_newBytesLength_0f7a4 : GoodIn wsJ2_newBytesFor_77867 wsJ2_newBytesLength_0f7a4 := gi_q gd_wsJ2_newBytesFor_77867 _ [(5, 2)] rfl
set_option maxRecDepth 20000 in
theorem gJ2_newBytesFor_77867_J2_newBytesLength_0f7a4 : GoodIn wsJ2_newBytesFor_77867 (va_wsS RJ2 11 yJ2_newBytesLength_0f7a4 wsJ2_newBytesLength_0f7a4) := goodIn_app (gi_q gd_wsJ2_newBytesFor_77867 _ [(2, 3)] rfl) ggJ2_newBytesFor_77867_J2_newBytesLength_0f7a4
theorem dJ2_newBytesFor_77867_0 : decode cJ2_newBytesFor_77867 0 = .ok (.iload_n 0, 1) := dkT (by decide +kernel)
theorem dJ2_newBytesFor_77867_1 : decode cJ2_newBytesFor_77867 1 = .ok (.invokestatic 11, 3) := dkT (by decide +kernel)
theorem dJ2_newBytesFor_77867_4 : decode cJ2_newBytesFor_77867 4 = .ok (.newarray .byte, 2) := dkT (by decide +kernel)
theorem dJ2_newBytesFor_77867_6 : decode cJ2_newBytesFor_77867 6 = .ok (.areturn, 1) := dkT (by decide +kernel)
def zT_cJ2_newBytesLength_0f7a4 : List (List Nat) := [[26, 156, 0, 11, 187, 0, 17, 89, 183, 0, 19, 191, 26, 18, 20, 161, 0, 40, 187, 0, 21, 89, 187, 0, 23, 89, 183, 0, 25, 18, 26, 182, 0, 28, 26, 182, 0, 32, 18, 35, 182, 0, 28, 18, 20, 182, 0, 32, 182, 0, 37, 183, 0, 41, 191, 26, 4, 120, 172]]
theorem zE_cJ2_newBytesLength_0f7a4 : zTab cJ2_newBytesLength_0f7a4.data.toList zT_cJ2_newBytesLength_0f7a4 = true := by decide +kernel
theorem dJ2_newBytesLength_0f7a4_0 : decode cJ2_newBytesLength_0f7a4 0 = .ok (.iload_n 0, 1) := dz_iload_n_0 (y0 zE_cJ2_newBytesLength_0f7a4 0 0 (by decide +kernel))
theorem dJ2_newBytesLength_0f7a4_1 : decode cJ2_newBytesLength_0f7a4 1 = .ok (.ifCond .ge 11, 3) := dz_ifCond_ge (ys2 zE_cJ2_newBytesLength_0f7a4 0 1 (by decide +kernel))
theorem dJ2_newBytesLength_0f7a4_4 : decode cJ2_newBytesLength_0f7a4 4 = .ok (.new 17, 3) := dz_new (yu2 zE_cJ2_newBytesLength_0f7a4 0 4 (by decide +kernel))
theorem dJ2_newBytesLength_0f7a4_7 : decode cJ2_newBytesLength_0f7a4 7 = .ok (.dup, 1) := dz_dup (y0 zE_cJ2_newBytesLength_0f7a4 0 7 (by decide +kernel))
theorem dJ2_newBytesLength_0f7a4_8 : decode cJ2_newBytesLength_0f7a4 8 = .ok (.invokespecial 19, 3) := dz_invokespecial (yu2 zE_cJ2_newBytesLength_0f7a4 0 8 (by decide +kernel))
theorem dJ2_newBytesLength_0f7a4_11 : decode cJ2_newBytesLength_0f7a4 11 = .ok (.athrow, 1) := dz_athrow (y0 zE_cJ2_newBytesLength_0f7a4 0 11 (by decide +kernel))
theorem dJ2_newBytesLength_0f7a4_12 : decode cJ2_newBytesLength_0f7a4 12 = .ok (.iload_n 0, 1) := dz_iload_n_0 (y0 zE_cJ2_newBytesLength_0f7a4 0 12 (by decide +kernel))
theorem dJ2_newBytesLength_0f7a4_13 : decode cJ2_newBytesLength_0f7a4 13 = .ok (.ldc 20, 2) := dz_ldc (yu1 zE_cJ2_newBytesLength_0f7a4 0 13 (by decide +kernel))
theorem dJ2_newBytesLength_0f7a4_15 : decode cJ2_newBytesLength_0f7a4 15 = .ok (.if_icmp .lt 40, 3) := dz_if_icmp_lt (ys2 zE_cJ2_newBytesLength_0f7a4 0 15 (by decide +kernel))
theorem dJ2_newBytesLength_0f7a4_18 : decode cJ2_newBytesLength_0f7a4 18 = .ok (.new 21, 3) := dz_new (yu2 zE_cJ2_newBytesLength_0f7a4 0 18 (by decide +kernel))
theorem dJ2_newBytesLength_0f7a4_21 : decode cJ2_newBytesLength_0f7a4 21 = .ok (.dup, 1) := dz_dup (y0 zE_cJ2_newBytesLength_0f7a4 0 21 (by decide +kernel))
theorem dJ2_newBytesLength_0f7a4_22 : decode cJ2_newBytesLength_0f7a4 22 = .ok (.new 23, 3) := dz_new (yu2 zE_cJ2_newBytesLength_0f7a4 0 22 (by decide +kernel))
theorem dJ2_newBytesLength_0f7a4_25 : decode cJ2_newBytesLength_0f7a4 25 = .ok (.dup, 1) := dz_dup (y0 zE_cJ2_newBytesLength_0f7a4 0 25 (by decide +kernel))
theorem dJ2_newBytesLength_0f7a4_26 : decode cJ2_newBytesLength_0f7a4 26 = .ok (.invokespecial 25, 3) := dz_invokespecial (yu2 zE_cJ2_newBytesLength_0f7a4 0 26 (by decide +kernel))
theorem dJ2_newBytesLength_0f7a4_29 : decode cJ2_newBytesLength_0f7a4 29 = .ok (.ldc 26, 2) := dz_ldc (yu1 zE_cJ2_newBytesLength_0f7a4 0 29 (by decide +kernel))
theorem dJ2_newBytesLength_0f7a4_31 : decode cJ2_newBytesLength_0f7a4 31 = .ok (.invokevirtual 28, 3) := dz_invokevirtual (yu2 zE_cJ2_newBytesLength_0f7a4 0 31 (by decide +kernel))
theorem dJ2_newBytesLength_0f7a4_34 : decode cJ2_newBytesLength_0f7a4 34 = .ok (.iload_n 0, 1) := dz_iload_n_0 (y0 zE_cJ2_newBytesLength_0f7a4 0 34 (by decide +kernel))
theorem dJ2_newBytesLength_0f7a4_35 : decode cJ2_newBytesLength_0f7a4 35 = .ok (.invokevirtual 32, 3) := dz_invokevirtual (yu2 zE_cJ2_newBytesLength_0f7a4 0 35 (by decide +kernel))
theorem dJ2_newBytesLength_0f7a4_38 : decode cJ2_newBytesLength_0f7a4 38 = .ok (.ldc 35, 2) := dz_ldc (yu1 zE_cJ2_newBytesLength_0f7a4 0 38 (by decide +kernel))
theorem dJ2_newBytesLength_0f7a4_40 : decode cJ2_newBytesLength_0f7a4 40 = .ok (.invokevirtual 28, 3) := dz_invokevirtual (yu2 zE_cJ2_newBytesLength_0f7a4 0 40 (by decide +kernel))
theorem dJ2_newBytesLength_0f7a4_43 : decode cJ2_newBytesLength_0f7a4 43 = .ok (.ldc 20, 2) := dz_ldc (yu1 zE_cJ2_newBytesLength_0f7a4 0 43 (by decide +kernel))
theorem dJ2_newBytesLength_0f7a4_45 : decode cJ2_newBytesLength_0f7a4 45 = .ok (.invokevirtual 32, 3) := dz_invokevirtual (yu2 zE_cJ2_newBytesLength_0f7a4 0 45 (by decide +kernel))
theorem dJ2_newBytesLength_0f7a4_48 : decode cJ2_newBytesLength_0f7a4 48 = .ok (.invokevirtual 37, 3) := dz_invokevirtual (yu2 zE_cJ2_newBytesLength_0f7a4 0 48 (by decide +kernel))
theorem dJ2_newBytesLength_0f7a4_51 : decode cJ2_newBytesLength_0f7a4 51 = .ok (.invokespecial 41, 3) := dz_invokespecial (yu2 zE_cJ2_newBytesLength_0f7a4 0 51 (by decide +kernel))
theorem dJ2_newBytesLength_0f7a4_54 : decode cJ2_newBytesLength_0f7a4 54 = .ok (.athrow, 1) := dz_athrow (y0 zE_cJ2_newBytesLength_0f7a4 0 54 (by decide +kernel))
theorem dJ2_newBytesLength_0f7a4_55 : decode cJ2_newBytesLength_0f7a4 55 = .ok (.iload_n 0, 1) := dz_iload_n_0 (y0 zE_cJ2_newBytesLength_0f7a4 0 55 (by decide +kernel))
theorem dJ2_newBytesLength_0f7a4_56 : decode cJ2_newBytesLength_0f7a4 56 = .ok (.iconst 1, 1) := dz_iconst_1 (y0 zE_cJ2_newBytesLength_0f7a4 0 56 (by decide +kernel))
theorem dJ2_newBytesLength_0f7a4_57 : decode cJ2_newBytesLength_0f7a4 57 = .ok (.ishl, 1) := dz_ishl (y0 zE_cJ2_newBytesLength_0f7a4 0 57 (by decide +kernel))
theorem dJ2_newBytesLength_0f7a4_58 : decode cJ2_newBytesLength_0f7a4 58 = .ok (.ireturn, 1) := dz_ireturn (y0 zE_cJ2_newBytesLength_0f7a4 0 58 (by decide +kernel))
theorem gd_wsJ2_putChar_b72d1 : wsJ2_putChar_b72d1.all goodWord = true := by decide +kernel
set_option maxRecDepth 20000 in
theorem ggJ2_putChar_b72d1_J2_length_9d52b : GoodIn wsJ2_putChar_b72d1 wsJ2_length_9d52b := gi_q gd_wsJ2_putChar_b72d1 _ [(7, 1)] rfl
set_option maxRecDepth 20000 in
theorem gJ2_putChar_b72d1_J2_length_9d52b : GoodIn wsJ2_putChar_b72d1 (va_wsS RJ2 48 yJ2_length_9d52b wsJ2_length_9d52b) := goodIn_app (gi_q gd_wsJ2_putChar_b72d1 _ [(4, 3)] rfl) ggJ2_putChar_b72d1_J2_length_9d52b
def zT_cJ2_putChar_b72d1 : List (List Nat) := [[178, 0, 44, 154, 0, 25, 27, 155, 0, 11, 27, 42, 184, 0, 48, 161, 0, 13, 187, 0, 52, 89, 18, 54, 183, 0, 56, 191, 27, 4, 120, 60, 42, 27, 132, 1, 1, 28, 178, 0, 59, 122, 145, 84, 42, 27, 28, 178, 0, 63, 122, 145, 84, 177]]
theorem zE_cJ2_putChar_b72d1 : zTab cJ2_putChar_b72d1.data.toList zT_cJ2_putChar_b72d1 = true := by decide +kernel
theorem dJ2_putChar_b72d1_0 : decode cJ2_putChar_b72d1 0 = .ok (.getstatic 44, 3) := dz_getstatic (yu2 zE_cJ2_putChar_b72d1 0 0 (by decide +kernel))
theorem dJ2_putChar_b72d1_3 : decode cJ2_putChar_b72d1 3 = .ok (.ifCond .ne 25, 3) := dz_ifCond_ne (ys2 zE_cJ2_putChar_b72d1 0 3 (by decide +kernel))
theorem dJ2_putChar_b72d1_6 : decode cJ2_putChar_b72d1 6 = .ok (.iload_n 1, 1) := dz_iload_n_1 (y0 zE_cJ2_putChar_b72d1 0 6 (by decide +kernel))
theorem dJ2_putChar_b72d1_7 : decode cJ2_putChar_b72d1 7 = .ok (.ifCond .lt 11, 3) := dz_ifCond_lt (ys2 zE_cJ2_putChar_b72d1 0 7 (by decide +kernel))
theorem dJ2_putChar_b72d1_10 : decode cJ2_putChar_b72d1 10 = .ok (.iload_n 1, 1) := dz_iload_n_1 (y0 zE_cJ2_putChar_b72d1 0 10 (by decide +kernel))
theorem dJ2_putChar_b72d1_11 : decode cJ2_putChar_b72d1 11 = .ok (.aload_n 0, 1) := dz_aload_n_0 (y0 zE_cJ2_putChar_b72d1 0 11 (by decide +kernel))
theorem dJ2_putChar_b72d1_12 : decode cJ2_putChar_b72d1 12 = .ok (.invokestatic 48, 3) := dz_invokestatic (yu2 zE_cJ2_putChar_b72d1 0 12 (by decide +kernel))
theorem dJ2_putChar_b72d1_15 : decode cJ2_putChar_b72d1 15 = .ok (.if_icmp .lt 13, 3) := dz_if_icmp_lt (ys2 zE_cJ2_putChar_b72d1 0 15 (by decide +kernel))
theorem dJ2_putChar_b72d1_18 : decode cJ2_putChar_b72d1 18 = .ok (.new 52, 3) := dz_new (yu2 zE_cJ2_putChar_b72d1 0 18 (by decide +kernel))
theorem dJ2_putChar_b72d1_21 : decode cJ2_putChar_b72d1 21 = .ok (.dup, 1) := dz_dup (y0 zE_cJ2_putChar_b72d1 0 21 (by decide +kernel))
theorem dJ2_putChar_b72d1_22 : decode cJ2_putChar_b72d1 22 = .ok (.ldc 54, 2) := dz_ldc (yu1 zE_cJ2_putChar_b72d1 0 22 (by decide +kernel))
theorem dJ2_putChar_b72d1_24 : decode cJ2_putChar_b72d1 24 = .ok (.invokespecial 56, 3) := dz_invokespecial (yu2 zE_cJ2_putChar_b72d1 0 24 (by decide +kernel))
theorem dJ2_putChar_b72d1_27 : decode cJ2_putChar_b72d1 27 = .ok (.athrow, 1) := dz_athrow (y0 zE_cJ2_putChar_b72d1 0 27 (by decide +kernel))
theorem dJ2_putChar_b72d1_28 : decode cJ2_putChar_b72d1 28 = .ok (.iload_n 1, 1) := dz_iload_n_1 (y0 zE_cJ2_putChar_b72d1 0 28 (by decide +kernel))
theorem dJ2_putChar_b72d1_29 : decode cJ2_putChar_b72d1 29 = .ok (.iconst 1, 1) := dz_iconst_1 (y0 zE_cJ2_putChar_b72d1 0 29 (by decide +kernel))
theorem dJ2_putChar_b72d1_30 : decode cJ2_putChar_b72d1 30 = .ok (.ishl, 1) := dz_ishl (y0 zE_cJ2_putChar_b72d1 0 30 (by decide +kernel))
theorem dJ2_putChar_b72d1_31 : decode cJ2_putChar_b72d1 31 = .ok (.istore_n 1, 1) := dz_istore_n_1 (y0 zE_cJ2_putChar_b72d1 0 31 (by decide +kernel))
theorem dJ2_putChar_b72d1_32 : decode cJ2_putChar_b72d1 32 = .ok (.aload_n 0, 1) := dz_aload_n_0 (y0 zE_cJ2_putChar_b72d1 0 32 (by decide +kernel))
theorem dJ2_putChar_b72d1_33 : decode cJ2_putChar_b72d1 33 = .ok (.iload_n 1, 1) := dz_iload_n_1 (y0 zE_cJ2_putChar_b72d1 0 33 (by decide +kernel))
theorem dJ2_putChar_b72d1_34 : decode cJ2_putChar_b72d1 34 = .ok (.iinc 1 1, 3) := dz_iinc (yii zE_cJ2_putChar_b72d1 0 34 (by decide +kernel))
theorem dJ2_putChar_b72d1_37 : decode cJ2_putChar_b72d1 37 = .ok (.iload_n 2, 1) := dz_iload_n_2 (y0 zE_cJ2_putChar_b72d1 0 37 (by decide +kernel))
theorem dJ2_putChar_b72d1_38 : decode cJ2_putChar_b72d1 38 = .ok (.getstatic 59, 3) := dz_getstatic (yu2 zE_cJ2_putChar_b72d1 0 38 (by decide +kernel))
theorem dJ2_putChar_b72d1_41 : decode cJ2_putChar_b72d1 41 = .ok (.ishr, 1) := dz_ishr (y0 zE_cJ2_putChar_b72d1 0 41 (by decide +kernel))
theorem dJ2_putChar_b72d1_42 : decode cJ2_putChar_b72d1 42 = .ok (.i2b, 1) := dz_i2b (y0 zE_cJ2_putChar_b72d1 0 42 (by decide +kernel))
theorem dJ2_putChar_b72d1_43 : decode cJ2_putChar_b72d1 43 = .ok (.bastore, 1) := dz_bastore (y0 zE_cJ2_putChar_b72d1 0 43 (by decide +kernel))
theorem dJ2_putChar_b72d1_44 : decode cJ2_putChar_b72d1 44 = .ok (.aload_n 0, 1) := dz_aload_n_0 (y0 zE_cJ2_putChar_b72d1 0 44 (by decide +kernel))
theorem dJ2_putChar_b72d1_45 : decode cJ2_putChar_b72d1 45 = .ok (.iload_n 1, 1) := dz_iload_n_1 (y0 zE_cJ2_putChar_b72d1 0 45 (by decide +kernel))
theorem dJ2_putChar_b72d1_46 : decode cJ2_putChar_b72d1 46 = .ok (.iload_n 2, 1) := dz_iload_n_2 (y0 zE_cJ2_putChar_b72d1 0 46 (by decide +kernel))
theorem dJ2_putChar_b72d1_47 : decode cJ2_putChar_b72d1 47 = .ok (.getstatic 63, 3) := dz_getstatic (yu2 zE_cJ2_putChar_b72d1 0 47 (by decide +kernel))
theorem dJ2_putChar_b72d1_50 : decode cJ2_putChar_b72d1 50 = .ok (.ishr, 1) := dz_ishr (y0 zE_cJ2_putChar_b72d1 0 50 (by decide +kernel))
theorem dJ2_putChar_b72d1_51 : decode cJ2_putChar_b72d1 51 = .ok (.i2b, 1) := dz_i2b (y0 zE_cJ2_putChar_b72d1 0 51 (by decide +kernel))
theorem dJ2_putChar_b72d1_52 : decode cJ2_putChar_b72d1 52 = .ok (.bastore, 1) := dz_bastore (y0 zE_cJ2_putChar_b72d1 0 52 (by decide +kernel))
theorem dJ2_putChar_b72d1_53 : decode cJ2_putChar_b72d1 53 = .ok (.return_, 1) := dz_return (y0 zE_cJ2_putChar_b72d1 0 53 (by decide +kernel))
theorem gd_wsJ2_getChar_3b067 : wsJ2_getChar_3b067.all goodWord = true := by decide +kernel
set_option maxRecDepth 20000 in
theorem ggJ2_getChar_3b067_J2_length_9d52b : GoodIn wsJ2_getChar_3b067 wsJ2_length_9d52b := gi_q gd_wsJ2_getChar_3b067 _ [(7, 1)] rfl
set_option maxRecDepth 20000 in
theorem gJ2_getChar_3b067_J2_length_9d52b : GoodIn wsJ2_getChar_3b067 (va_wsS RJ2 48 yJ2_length_9d52b wsJ2_length_9d52b) := goodIn_app (gi_q gd_wsJ2_getChar_3b067 _ [(4, 3)] rfl) ggJ2_getChar_3b067_J2_length_9d52b
def zT_cJ2_getChar_3b067 : List (List Nat) := [[178, 0, 44, 154, 0, 25, 27, 155, 0, 11, 27, 42, 184, 0, 48, 161, 0, 13, 187, 0, 52, 89, 18, 54, 183, 0, 56, 191, 27, 4, 120, 60, 42, 27, 132, 1, 1, 51, 17, 0, 255, 126, 178, 0, 59, 120, 42, 27, 51, 17, 0, 255, 126, 178, 0, 63, 120, 128, 146, 172]]
theorem zE_cJ2_getChar_3b067 : zTab cJ2_getChar_3b067.data.toList zT_cJ2_getChar_3b067 = true := by decide +kernel
theorem dJ2_getChar_3b067_0 : decode cJ2_getChar_3b067 0 = .ok (.getstatic 44, 3) := dz_getstatic (yu2 zE_cJ2_getChar_3b067 0 0 (by decide +kernel))
theorem dJ2_getChar_3b067_3 : decode cJ2_getChar_3b067 3 = .ok (.ifCond .ne 25, 3) := dz_ifCond_ne (ys2 zE_cJ2_getChar_3b067 0 3 (by decide +kernel))
theorem dJ2_getChar_3b067_6 : decode cJ2_getChar_3b067 6 = .ok (.iload_n 1, 1) := dz_iload_n_1 (y0 zE_cJ2_getChar_3b067 0 6 (by decide +kernel))
theorem dJ2_getChar_3b067_7 : decode cJ2_getChar_3b067 7 = .ok (.ifCond .lt 11, 3) := dz_ifCond_lt (ys2 zE_cJ2_getChar_3b067 0 7 (by decide +kernel))
theorem dJ2_getChar_3b067_10 : decode cJ2_getChar_3b067 10 = .ok (.iload_n 1, 1) := dz_iload_n_1 (y0 zE_cJ2_getChar_3b067 0 10 (by decide +kernel))
theorem dJ2_getChar_3b067_11 : decode cJ2_getChar_3b067 11 = .ok (.aload_n 0, 1) := dz_aload_n_0 (y0 zE_cJ2_getChar_3b067 0 11 (by decide +kernel))
theorem dJ2_getChar_3b067_12 : decode cJ2_getChar_3b067 12 = .ok (.invokestatic 48, 3) := dz_invokestatic (yu2 zE_cJ2_getChar_3b067 0 12 (by decide +kernel))
theorem dJ2_getChar_3b067_15 : decode cJ2_getChar_3b067 15 = .ok (.if_icmp .lt 13, 3) := dz_if_icmp_lt (ys2 zE_cJ2_getChar_3b067 0 15 (by decide +kernel))
theorem dJ2_getChar_3b067_18 : decode cJ2_getChar_3b067 18 = .ok (.new 52, 3) := dz_new (yu2 zE_cJ2_getChar_3b067 0 18 (by decide +kernel))
theorem dJ2_getChar_3b067_21 : decode cJ2_getChar_3b067 21 = .ok (.dup, 1) := dz_dup (y0 zE_cJ2_getChar_3b067 0 21 (by decide +kernel))
theorem dJ2_getChar_3b067_22 : decode cJ2_getChar_3b067 22 = .ok (.ldc 54, 2) := dz_ldc (yu1 zE_cJ2_getChar_3b067 0 22 (by decide +kernel))
theorem dJ2_getChar_3b067_24 : decode cJ2_getChar_3b067 24 = .ok (.invokespecial 56, 3) := dz_invokespecial (yu2 zE_cJ2_getChar_3b067 0 24 (by decide +kernel))
theorem dJ2_getChar_3b067_27 : decode cJ2_getChar_3b067 27 = .ok (.athrow, 1) := dz_athrow (y0 zE_cJ2_getChar_3b067 0 27 (by decide +kernel))
theorem dJ2_getChar_3b067_28 : decode cJ2_getChar_3b067 28 = .ok (.iload_n 1, 1) := dz_iload_n_1 (y0 zE_cJ2_getChar_3b067 0 28 (by decide +kernel))
theorem dJ2_getChar_3b067_29 : decode cJ2_getChar_3b067 29 = .ok (.iconst 1, 1) := dz_iconst_1 (y0 zE_cJ2_getChar_3b067 0 29 (by decide +kernel))
theorem dJ2_getChar_3b067_30 : decode cJ2_getChar_3b067 30 = .ok (.ishl, 1) := dz_ishl (y0 zE_cJ2_getChar_3b067 0 30 (by decide +kernel))
theorem dJ2_getChar_3b067_31 : decode cJ2_getChar_3b067 31 = .ok (.istore_n 1, 1) := dz_istore_n_1 (y0 zE_cJ2_getChar_3b067 0 31 (by decide +kernel))
theorem dJ2_getChar_3b067_32 : decode cJ2_getChar_3b067 32 = .ok (.aload_n 0, 1) := dz_aload_n_0 (y0 zE_cJ2_getChar_3b067 0 32 (by decide +kernel))
theorem dJ2_getChar_3b067_33 : decode cJ2_getChar_3b067 33 = .ok (.iload_n 1, 1) := dz_iload_n_1 (y0 zE_cJ2_getChar_3b067 0 33 (by decide +kernel))
theorem dJ2_getChar_3b067_34 : decode cJ2_getChar_3b067 34 = .ok (.iinc 1 1, 3) := dz_iinc (yii zE_cJ2_getChar_3b067 0 34 (by decide +kernel))
theorem dJ2_getChar_3b067_37 : decode cJ2_getChar_3b067 37 = .ok (.baload, 1) := dz_baload (y0 zE_cJ2_getChar_3b067 0 37 (by decide +kernel))
theorem dJ2_getChar_3b067_38 : decode cJ2_getChar_3b067 38 = .ok (.sipush 255, 3) := dz_sipush (ys2 zE_cJ2_getChar_3b067 0 38 (by decide +kernel))
theorem dJ2_getChar_3b067_41 : decode cJ2_getChar_3b067 41 = .ok (.iand, 1) := dz_iand (y0 zE_cJ2_getChar_3b067 0 41 (by decide +kernel))
theorem dJ2_getChar_3b067_42 : decode cJ2_getChar_3b067 42 = .ok (.getstatic 59, 3) := dz_getstatic (yu2 zE_cJ2_getChar_3b067 0 42 (by decide +kernel))
theorem dJ2_getChar_3b067_45 : decode cJ2_getChar_3b067 45 = .ok (.ishl, 1) := dz_ishl (y0 zE_cJ2_getChar_3b067 0 45 (by decide +kernel))
theorem dJ2_getChar_3b067_46 : decode cJ2_getChar_3b067 46 = .ok (.aload_n 0, 1) := dz_aload_n_0 (y0 zE_cJ2_getChar_3b067 0 46 (by decide +kernel))
theorem dJ2_getChar_3b067_47 : decode cJ2_getChar_3b067 47 = .ok (.iload_n 1, 1) := dz_iload_n_1 (y0 zE_cJ2_getChar_3b067 0 47 (by decide +kernel))
theorem dJ2_getChar_3b067_48 : decode cJ2_getChar_3b067 48 = .ok (.baload, 1) := dz_baload (y0 zE_cJ2_getChar_3b067 0 48 (by decide +kernel))
theorem dJ2_getChar_3b067_49 : decode cJ2_getChar_3b067 49 = .ok (.sipush 255, 3) := dz_sipush (ys2 zE_cJ2_getChar_3b067 0 49 (by decide +kernel))
theorem dJ2_getChar_3b067_52 : decode cJ2_getChar_3b067 52 = .ok (.iand, 1) := dz_iand (y0 zE_cJ2_getChar_3b067 0 52 (by decide +kernel))
theorem dJ2_getChar_3b067_53 : decode cJ2_getChar_3b067 53 = .ok (.getstatic 63, 3) := dz_getstatic (yu2 zE_cJ2_getChar_3b067 0 53 (by decide +kernel))
theorem dJ2_getChar_3b067_56 : decode cJ2_getChar_3b067 56 = .ok (.ishl, 1) := dz_ishl (y0 zE_cJ2_getChar_3b067 0 56 (by decide +kernel))
theorem dJ2_getChar_3b067_57 : decode cJ2_getChar_3b067 57 = .ok (.ior, 1) := dz_ior (y0 zE_cJ2_getChar_3b067 0 57 (by decide +kernel))
theorem dJ2_getChar_3b067_58 : decode cJ2_getChar_3b067 58 = .ok (.i2c, 1) := dz_i2c (y0 zE_cJ2_getChar_3b067 0 58 (by decide +kernel))
theorem dJ2_getChar_3b067_59 : decode cJ2_getChar_3b067 59 = .ok (.ireturn, 1) := dz_ireturn (y0 zE_cJ2_getChar_3b067 0 59 (by decide +kernel))
theorem dJ2_length_9d52b_0 : decode cJ2_length_9d52b 0 = .ok (.aload_n 0, 1) := dkT (by decide +kernel)
theorem dJ2_length_9d52b_1 : decode cJ2_length_9d52b 1 = .ok (.arraylength, 1) := dkT (by decide +kernel)
theorem dJ2_length_9d52b_2 : decode cJ2_length_9d52b 2 = .ok (.iconst 1, 1) := dkT (by decide +kernel)
theorem dJ2_length_9d52b_3 : decode cJ2_length_9d52b 3 = .ok (.ishr, 1) := dkT (by decide +kernel)
theorem dJ2_length_9d52b_4 : decode cJ2_length_9d52b 4 = .ok (.ireturn, 1) := dkT (by decide +kernel)
theorem dJ2_coderFromArrayLen_85cad_0 : decode cJ2_coderFromArrayLen_85cad 0 = .ok (.iload_n 1, 1) := dkT (by decide +kernel)
theorem dJ2_coderFromArrayLen_85cad_1 : decode cJ2_coderFromArrayLen_85cad 1 = .ok (.aload_n 0, 1) := dkT (by decide +kernel)
theorem dJ2_coderFromArrayLen_85cad_2 : decode cJ2_coderFromArrayLen_85cad 2 = .ok (.arraylength, 1) := dkT (by decide +kernel)
theorem dJ2_coderFromArrayLen_85cad_3 : decode cJ2_coderFromArrayLen_85cad 3 = .ok (.isub, 1) := dkT (by decide +kernel)
theorem dJ2_coderFromArrayLen_85cad_4 : decode cJ2_coderFromArrayLen_85cad 4 = .ok (.bipush 31, 2) := dkT (by decide +kernel)
theorem dJ2_coderFromArrayLen_85cad_6 : decode cJ2_coderFromArrayLen_85cad 6 = .ok (.iushr, 1) := dkT (by decide +kernel)
theorem dJ2_coderFromArrayLen_85cad_7 : decode cJ2_coderFromArrayLen_85cad 7 = .ok (.i2b, 1) := dkT (by decide +kernel)
theorem dJ2_coderFromArrayLen_85cad_8 : decode cJ2_coderFromArrayLen_85cad 8 = .ok (.ireturn, 1) := dkT (by decide +kernel)
theorem gd_wsJ2_compress_39247 : wsJ2_compress_39247.all goodWord = true := by decide +kernel
set_option maxRecDepth 20000 in
theorem ggJ2_compress_39247_J2_compress_5af95 : GoodIn wsJ2_compress_39247 wsJ2_compress_5af95 := gi_q gd_wsJ2_compress_39247 _ [(5, 3), (4, 1), (8, 19)] rfl
set_option maxRecDepth 20000 in
theorem gJ2_compress_39247_J2_compress_5af95 : GoodIn wsJ2_compress_39247 (va_wsS RJ2 123 yJ2_compress_5af95 wsJ2_compress_5af95) := goodIn_app (gi_q gd_wsJ2_compress_39247 _ [(2, 3)] rfl) ggJ2_compress_39247_J2_compress_5af95
set_option maxRecDepth 20000 in
theorem ggJ2_compress_39247_J2_newBytesLength_0f7a4 : GoodIn wsJ2_compress_39247 wsJ2_newBytesLength_0f7a4 := gi_q gd_wsJ2_compress_39247 _ [(29, 2)] rfl
set_option maxRecDepth 20000 in
theorem gJ2_compress_39247_J2_newBytesLength_0f7a4 : GoodIn wsJ2_compress_39247 (va_wsS RJ2 11 yJ2_newBytesLength_0f7a4 wsJ2_newBytesLength_0f7a4) := goodIn_app (gi_q gd_wsJ2_compress_39247 _ [(27, 2), (4, 1)] rfl) ggJ2_compress_39247_J2_newBytesLength_0f7a4
set_option maxRecDepth 20000 in
theorem ggJ2_compress_39247_J7_copyOfRange_39247 : GoodIn wsJ2_compress_39247 wsJ7_copyOfRange_39247 := gi_q gd_wsJ2_compress_39247 _ [(34, 9), (33, 1), (43, 1), (1, 1), (44, 18)] rfl
set_option maxRecDepth 20000 in
theorem gJ2_compress_39247_J7_copyOfRange_39247 : GoodIn wsJ2_compress_39247 (va_wsS RJ2 126 yJ7_copyOfRange_39247 wsJ7_copyOfRange_39247) := goodIn_app (gi_q gd_wsJ2_compress_39247 _ [(31, 3)] rfl) ggJ2_compress_39247_J7_copyOfRange_39247
set_option maxRecDepth 20000 in
theorem ggJ2_compress_39247_J2_getChar_3b067 : GoodIn wsJ2_compress_39247 wsJ2_getChar_3b067 := gi_q gd_wsJ2_compress_39247 _ [(23, 4), (9, 2), (4, 1), (11, 1)] rfl
set_option maxRecDepth 20000 in
theorem gJ2_compress_39247_J2_getChar_3b067 : GoodIn wsJ2_compress_39247 (va_wsS RJ2 71 yJ2_getChar_3b067 wsJ2_getChar_3b067) := goodIn_app (gi_q gd_wsJ2_compress_39247 _ [(21, 2), (4, 1)] rfl) ggJ2_compress_39247_J2_getChar_3b067
def zT_cJ2_compress_39247 : List (List Nat) := [[28, 188, 8, 78, 42, 27, 45, 3, 28, 184, 0, 123, 54, 4, 21, 4, 28, 159, 0, 47, 42, 27, 4, 120, 27, 28, 96, 184, 0, 11, 184, 0, 126, 58, 5, 25, 5, 21, 4, 184, 0, 71, 17, 0, 255, 163, 0, 16, 25, 5, 3, 45, 3, 28, 184, 0, 123, 28, 159, 0, 6, 25, 5, 176, 45, 176], [45, 176]]
theorem zE_cJ2_compress_39247 : zTab cJ2_compress_39247.data.toList zT_cJ2_compress_39247 = true := by decide +kernel
theorem dJ2_compress_39247_0 : decode cJ2_compress_39247 0 = .ok (.iload_n 2, 1) := dz_iload_n_2 (y0 zE_cJ2_compress_39247 0 0 (by decide +kernel))
theorem dJ2_compress_39247_1 : decode cJ2_compress_39247 1 = .ok (.newarray .byte, 2) := dkT (by decide +kernel)
theorem dJ2_compress_39247_3 : decode cJ2_compress_39247 3 = .ok (.astore_n 3, 1) := dz_astore_n_3 (y0 zE_cJ2_compress_39247 0 3 (by decide +kernel))
theorem dJ2_compress_39247_4 : decode cJ2_compress_39247 4 = .ok (.aload_n 0, 1) := dz_aload_n_0 (y0 zE_cJ2_compress_39247 0 4 (by decide +kernel))
theorem dJ2_compress_39247_5 : decode cJ2_compress_39247 5 = .ok (.iload_n 1, 1) := dz_iload_n_1 (y0 zE_cJ2_compress_39247 0 5 (by decide +kernel))
theorem dJ2_compress_39247_6 : decode cJ2_compress_39247 6 = .ok (.aload_n 3, 1) := dz_aload_n_3 (y0 zE_cJ2_compress_39247 0 6 (by decide +kernel))
theorem dJ2_compress_39247_7 : decode cJ2_compress_39247 7 = .ok (.iconst 0, 1) := dz_iconst_0 (y0 zE_cJ2_compress_39247 0 7 (by decide +kernel))
theorem dJ2_compress_39247_8 : decode cJ2_compress_39247 8 = .ok (.iload_n 2, 1) := dz_iload_n_2 (y0 zE_cJ2_compress_39247 0 8 (by decide +kernel))
theorem dJ2_compress_39247_9 : decode cJ2_compress_39247 9 = .ok (.invokestatic 123, 3) := dz_invokestatic (yu2 zE_cJ2_compress_39247 0 9 (by decide +kernel))
theorem dJ2_compress_39247_12 : decode cJ2_compress_39247 12 = .ok (.istore 4, 2) := dz_istore (yu1 zE_cJ2_compress_39247 0 12 (by decide +kernel))
theorem dJ2_compress_39247_14 : decode cJ2_compress_39247 14 = .ok (.iload 4, 2) := dz_iload (yu1 zE_cJ2_compress_39247 0 14 (by decide +kernel))
theorem dJ2_compress_39247_16 : decode cJ2_compress_39247 16 = .ok (.iload_n 2, 1) := dz_iload_n_2 (y0 zE_cJ2_compress_39247 0 16 (by decide +kernel))
theorem dJ2_compress_39247_17 : decode cJ2_compress_39247 17 = .ok (.if_icmp .eq 47, 3) := dz_if_icmp_eq (ys2 zE_cJ2_compress_39247 0 17 (by decide +kernel))
theorem dJ2_compress_39247_20 : decode cJ2_compress_39247 20 = .ok (.aload_n 0, 1) := dz_aload_n_0 (y0 zE_cJ2_compress_39247 0 20 (by decide +kernel))
theorem dJ2_compress_39247_21 : decode cJ2_compress_39247 21 = .ok (.iload_n 1, 1) := dz_iload_n_1 (y0 zE_cJ2_compress_39247 0 21 (by decide +kernel))
theorem dJ2_compress_39247_22 : decode cJ2_compress_39247 22 = .ok (.iconst 1, 1) := dz_iconst_1 (y0 zE_cJ2_compress_39247 0 22 (by decide +kernel))
theorem dJ2_compress_39247_23 : decode cJ2_compress_39247 23 = .ok (.ishl, 1) := dz_ishl (y0 zE_cJ2_compress_39247 0 23 (by decide +kernel))
theorem dJ2_compress_39247_24 : decode cJ2_compress_39247 24 = .ok (.iload_n 1, 1) := dz_iload_n_1 (y0 zE_cJ2_compress_39247 0 24 (by decide +kernel))
theorem dJ2_compress_39247_25 : decode cJ2_compress_39247 25 = .ok (.iload_n 2, 1) := dz_iload_n_2 (y0 zE_cJ2_compress_39247 0 25 (by decide +kernel))
theorem dJ2_compress_39247_26 : decode cJ2_compress_39247 26 = .ok (.iadd, 1) := dz_iadd (y0 zE_cJ2_compress_39247 0 26 (by decide +kernel))
theorem dJ2_compress_39247_27 : decode cJ2_compress_39247 27 = .ok (.invokestatic 11, 3) := dz_invokestatic (yu2 zE_cJ2_compress_39247 0 27 (by decide +kernel))
theorem dJ2_compress_39247_30 : decode cJ2_compress_39247 30 = .ok (.invokestatic 126, 3) := dz_invokestatic (yu2 zE_cJ2_compress_39247 0 30 (by decide +kernel))
theorem dJ2_compress_39247_33 : decode cJ2_compress_39247 33 = .ok (.astore 5, 2) := dz_astore (yu1 zE_cJ2_compress_39247 0 33 (by decide +kernel))
theorem dJ2_compress_39247_35 : decode cJ2_compress_39247 35 = .ok (.aload 5, 2) := dz_aload (yu1 zE_cJ2_compress_39247 0 35 (by decide +kernel))
theorem dJ2_compress_39247_37 : decode cJ2_compress_39247 37 = .ok (.iload 4, 2) := dz_iload (yu1 zE_cJ2_compress_39247 0 37 (by decide +kernel))
theorem dJ2_compress_39247_39 : decode cJ2_compress_39247 39 = .ok (.invokestatic 71, 3) := dz_invokestatic (yu2 zE_cJ2_compress_39247 0 39 (by decide +kernel))
theorem dJ2_compress_39247_42 : decode cJ2_compress_39247 42 = .ok (.sipush 255, 3) := dz_sipush (ys2 zE_cJ2_compress_39247 0 42 (by decide +kernel))
theorem dJ2_compress_39247_45 : decode cJ2_compress_39247 45 = .ok (.if_icmp .gt 16, 3) := dz_if_icmp_gt (ys2 zE_cJ2_compress_39247 0 45 (by decide +kernel))
theorem dJ2_compress_39247_48 : decode cJ2_compress_39247 48 = .ok (.aload 5, 2) := dz_aload (yu1 zE_cJ2_compress_39247 0 48 (by decide +kernel))
theorem dJ2_compress_39247_50 : decode cJ2_compress_39247 50 = .ok (.iconst 0, 1) := dz_iconst_0 (y0 zE_cJ2_compress_39247 0 50 (by decide +kernel))
theorem dJ2_compress_39247_51 : decode cJ2_compress_39247 51 = .ok (.aload_n 3, 1) := dz_aload_n_3 (y0 zE_cJ2_compress_39247 0 51 (by decide +kernel))
theorem dJ2_compress_39247_52 : decode cJ2_compress_39247 52 = .ok (.iconst 0, 1) := dz_iconst_0 (y0 zE_cJ2_compress_39247 0 52 (by decide +kernel))
theorem dJ2_compress_39247_53 : decode cJ2_compress_39247 53 = .ok (.iload_n 2, 1) := dz_iload_n_2 (y0 zE_cJ2_compress_39247 0 53 (by decide +kernel))
theorem dJ2_compress_39247_54 : decode cJ2_compress_39247 54 = .ok (.invokestatic 123, 3) := dz_invokestatic (yu2 zE_cJ2_compress_39247 0 54 (by decide +kernel))
theorem dJ2_compress_39247_57 : decode cJ2_compress_39247 57 = .ok (.iload_n 2, 1) := dz_iload_n_2 (y0 zE_cJ2_compress_39247 0 57 (by decide +kernel))
theorem dJ2_compress_39247_58 : decode cJ2_compress_39247 58 = .ok (.if_icmp .eq 6, 3) := dz_if_icmp_eq (ys2 zE_cJ2_compress_39247 0 58 (by decide +kernel))
theorem dJ2_compress_39247_61 : decode cJ2_compress_39247 61 = .ok (.aload 5, 2) := dz_aload (yu1 zE_cJ2_compress_39247 0 61 (by decide +kernel))
theorem dJ2_compress_39247_63 : decode cJ2_compress_39247 63 = .ok (.areturn, 1) := dz_areturn (y0 zE_cJ2_compress_39247 0 63 (by decide +kernel))
theorem dJ2_compress_39247_64 : decode cJ2_compress_39247 64 = .ok (.aload_n 3, 1) := dz_aload_n_3 (y0 zE_cJ2_compress_39247 1 0 (by decide +kernel))
theorem dJ2_compress_39247_65 : decode cJ2_compress_39247 65 = .ok (.areturn, 1) := dz_areturn (y0 zE_cJ2_compress_39247 1 1 (by decide +kernel))
theorem gd_wsJ2_compress_5af95 : wsJ2_compress_5af95.all goodWord = true := by decide +kernel
set_option maxRecDepth 20000 in
theorem ggJ2_compress_5af95_J2_checkBoundsOffCount_d044e : GoodIn wsJ2_compress_5af95 wsJ2_checkBoundsOffCount_d044e := gi_q gd_wsJ2_compress_5af95 _ [(4, 3), (3, 1), (7, 10)] rfl
set_option maxRecDepth 20000 in
theorem gJ2_compress_5af95_J2_checkBoundsOffCount_d044e : GoodIn wsJ2_compress_5af95 (va_wsS RJ2 173 yJ2_checkBoundsOffCount_d044e wsJ2_checkBoundsOffCount_d044e) := goodIn_app (gi_q gd_wsJ2_compress_5af95 _ [(1, 3)] rfl) ggJ2_compress_5af95_J2_checkBoundsOffCount_d044e
set_option maxRecDepth 20000 in
theorem ggJ2_compress_5af95_J2_getChar_3b067 : GoodIn wsJ2_compress_5af95 wsJ2_getChar_3b067 := gi_q gd_wsJ2_compress_5af95 _ [(19, 4), (5, 2), (3, 1), (7, 1)] rfl
set_option maxRecDepth 20000 in
theorem gJ2_compress_5af95_J2_getChar_3b067 : GoodIn wsJ2_compress_5af95 (va_wsS RJ2 71 yJ2_getChar_3b067 wsJ2_getChar_3b067) := goodIn_app (gi_q gd_wsJ2_compress_5af95 _ [(17, 2), (3, 1)] rfl) ggJ2_compress_5af95_J2_getChar_3b067
def zT_cJ2_compress_5af95 : List (List Nat) := [[27, 21, 4, 42, 184, 0, 173, 3, 54, 5, 21, 5, 21, 4, 162, 0, 39, 42, 27, 184, 0, 71, 54, 6, 21, 6, 17, 0, 255, 164, 0, 6, 21, 5, 172, 44, 29, 21, 6, 145, 84, 132, 1, 1, 132, 3, 1, 132, 5, 1, 167, 255, 216, 21, 4, 172]]
theorem zE_cJ2_compress_5af95 : zTab cJ2_compress_5af95.data.toList zT_cJ2_compress_5af95 = true := by decide +kernel
theorem dJ2_compress_5af95_0 : decode cJ2_compress_5af95 0 = .ok (.iload_n 1, 1) := dz_iload_n_1 (y0 zE_cJ2_compress_5af95 0 0 (by decide +kernel))
theorem dJ2_compress_5af95_1 : decode cJ2_compress_5af95 1 = .ok (.iload 4, 2) := dz_iload (yu1 zE_cJ2_compress_5af95 0 1 (by decide +kernel))
theorem dJ2_compress_5af95_3 : decode cJ2_compress_5af95 3 = .ok (.aload_n 0, 1) := dz_aload_n_0 (y0 zE_cJ2_compress_5af95 0 3 (by decide +kernel))
theorem dJ2_compress_5af95_4 : decode cJ2_compress_5af95 4 = .ok (.invokestatic 173, 3) := dz_invokestatic (yu2 zE_cJ2_compress_5af95 0 4 (by decide +kernel))
theorem dJ2_compress_5af95_7 : decode cJ2_compress_5af95 7 = .ok (.iconst 0, 1) := dz_iconst_0 (y0 zE_cJ2_compress_5af95 0 7 (by decide +kernel))
theorem dJ2_compress_5af95_8 : decode cJ2_compress_5af95 8 = .ok (.istore 5, 2) := dz_istore (yu1 zE_cJ2_compress_5af95 0 8 (by decide +kernel))
theorem dJ2_compress_5af95_10 : decode cJ2_compress_5af95 10 = .ok (.iload 5, 2) := dz_iload (yu1 zE_cJ2_compress_5af95 0 10 (by decide +kernel))
theorem dJ2_compress_5af95_12 : decode cJ2_compress_5af95 12 = .ok (.iload 4, 2) := dz_iload (yu1 zE_cJ2_compress_5af95 0 12 (by decide +kernel))
theorem dJ2_compress_5af95_14 : decode cJ2_compress_5af95 14 = .ok (.if_icmp .ge 39, 3) := dz_if_icmp_ge (ys2 zE_cJ2_compress_5af95 0 14 (by decide +kernel))
theorem dJ2_compress_5af95_17 : decode cJ2_compress_5af95 17 = .ok (.aload_n 0, 1) := dz_aload_n_0 (y0 zE_cJ2_compress_5af95 0 17 (by decide +kernel))
theorem dJ2_compress_5af95_18 : decode cJ2_compress_5af95 18 = .ok (.iload_n 1, 1) := dz_iload_n_1 (y0 zE_cJ2_compress_5af95 0 18 (by decide +kernel))
theorem dJ2_compress_5af95_19 : decode cJ2_compress_5af95 19 = .ok (.invokestatic 71, 3) := dz_invokestatic (yu2 zE_cJ2_compress_5af95 0 19 (by decide +kernel))
theorem dJ2_compress_5af95_22 : decode cJ2_compress_5af95 22 = .ok (.istore 6, 2) := dz_istore (yu1 zE_cJ2_compress_5af95 0 22 (by decide +kernel))
theorem dJ2_compress_5af95_24 : decode cJ2_compress_5af95 24 = .ok (.iload 6, 2) := dz_iload (yu1 zE_cJ2_compress_5af95 0 24 (by decide +kernel))
theorem dJ2_compress_5af95_26 : decode cJ2_compress_5af95 26 = .ok (.sipush 255, 3) := dz_sipush (ys2 zE_cJ2_compress_5af95 0 26 (by decide +kernel))
theorem dJ2_compress_5af95_29 : decode cJ2_compress_5af95 29 = .ok (.if_icmp .le 6, 3) := dz_if_icmp_le (ys2 zE_cJ2_compress_5af95 0 29 (by decide +kernel))
theorem dJ2_compress_5af95_32 : decode cJ2_compress_5af95 32 = .ok (.iload 5, 2) := dz_iload (yu1 zE_cJ2_compress_5af95 0 32 (by decide +kernel))
theorem dJ2_compress_5af95_34 : decode cJ2_compress_5af95 34 = .ok (.ireturn, 1) := dz_ireturn (y0 zE_cJ2_compress_5af95 0 34 (by decide +kernel))
theorem dJ2_compress_5af95_35 : decode cJ2_compress_5af95 35 = .ok (.aload_n 2, 1) := dz_aload_n_2 (y0 zE_cJ2_compress_5af95 0 35 (by decide +kernel))
theorem dJ2_compress_5af95_36 : decode cJ2_compress_5af95 36 = .ok (.iload_n 3, 1) := dz_iload_n_3 (y0 zE_cJ2_compress_5af95 0 36 (by decide +kernel))
theorem dJ2_compress_5af95_37 : decode cJ2_compress_5af95 37 = .ok (.iload 6, 2) := dz_iload (yu1 zE_cJ2_compress_5af95 0 37 (by decide +kernel))
theorem dJ2_compress_5af95_39 : decode cJ2_compress_5af95 39 = .ok (.i2b, 1) := dz_i2b (y0 zE_cJ2_compress_5af95 0 39 (by decide +kernel))
theorem dJ2_compress_5af95_40 : decode cJ2_compress_5af95 40 = .ok (.bastore, 1) := dz_bastore (y0 zE_cJ2_compress_5af95 0 40 (by decide +kernel))
theorem dJ2_compress_5af95_41 : decode cJ2_compress_5af95 41 = .ok (.iinc 1 1, 3) := dz_iinc (yii zE_cJ2_compress_5af95 0 41 (by decide +kernel))
theorem dJ2_compress_5af95_44 : decode cJ2_compress_5af95 44 = .ok (.iinc 3 1, 3) := dz_iinc (yii zE_cJ2_compress_5af95 0 44 (by decide +kernel))
theorem dJ2_compress_5af95_47 : decode cJ2_compress_5af95 47 = .ok (.iinc 5 1, 3) := dz_iinc (yii zE_cJ2_compress_5af95 0 47 (by decide +kernel))
theorem dJ2_compress_5af95_50 : decode cJ2_compress_5af95 50 = .ok (.goto (-40), 3) := dz_goto (ys2 zE_cJ2_compress_5af95 0 50 (by decide +kernel))
theorem dJ2_compress_5af95_53 : decode cJ2_compress_5af95 53 = .ok (.iload 4, 2) := dz_iload (yu1 zE_cJ2_compress_5af95 0 53 (by decide +kernel))
theorem dJ2_compress_5af95_55 : decode cJ2_compress_5af95 55 = .ok (.ireturn, 1) := dz_ireturn (y0 zE_cJ2_compress_5af95 0 55 (by decide +kernel))
theorem gd_wsJ2_putCharSB_b72d1 : wsJ2_putCharSB_b72d1.all goodWord = true := by decide +kernel
set_option maxRecDepth 20000 in
theorem ggJ2_putCharSB_b72d1_J2_checkIndex_2214a : GoodIn wsJ2_putCharSB_b72d1 wsJ2_checkIndex_2214a := gi_q gd_wsJ2_putCharSB_b72d1 _ [(4, 3), (3, 1), (7, 10)] rfl
set_option maxRecDepth 20000 in
theorem gJ2_putCharSB_b72d1_J2_checkIndex_2214a : GoodIn wsJ2_putCharSB_b72d1 (va_wsS RJ2 67 yJ2_checkIndex_2214a wsJ2_checkIndex_2214a) := goodIn_app (gi_q gd_wsJ2_putCharSB_b72d1 _ [(1, 3)] rfl) ggJ2_putCharSB_b72d1_J2_checkIndex_2214a
set_option maxRecDepth 20000 in
theorem ggJ2_putCharSB_b72d1_J2_putChar_b72d1 : GoodIn wsJ2_putCharSB_b72d1 wsJ2_putChar_b72d1 := gi_q gd_wsJ2_putCharSB_b72d1 _ [(19, 4), (5, 2), (3, 1), (7, 1)] rfl
set_option maxRecDepth 20000 in
theorem gJ2_putCharSB_b72d1_J2_putChar_b72d1 : GoodIn wsJ2_putCharSB_b72d1 (va_wsS RJ2 111 yJ2_putChar_b72d1 wsJ2_putChar_b72d1) := goodIn_app (gi_q gd_wsJ2_putCharSB_b72d1 _ [(17, 2), (3, 1)] rfl) ggJ2_putCharSB_b72d1_J2_putChar_b72d1
theorem dJ2_putCharSB_b72d1_0 : decode cJ2_putCharSB_b72d1 0 = .ok (.iload_n 1, 1) := dkT (by decide +kernel)
theorem dJ2_putCharSB_b72d1_1 : decode cJ2_putCharSB_b72d1 1 = .ok (.aload_n 0, 1) := dkT (by decide +kernel)
theorem dJ2_putCharSB_b72d1_2 : decode cJ2_putCharSB_b72d1 2 = .ok (.invokestatic 67, 3) := dkT (by decide +kernel)
theorem dJ2_putCharSB_b72d1_5 : decode cJ2_putCharSB_b72d1 5 = .ok (.aload_n 0, 1) := dkT (by decide +kernel)
theorem dJ2_putCharSB_b72d1_6 : decode cJ2_putCharSB_b72d1 6 = .ok (.iload_n 1, 1) := dkT (by decide +kernel)
theorem dJ2_putCharSB_b72d1_7 : decode cJ2_putCharSB_b72d1 7 = .ok (.iload_n 2, 1) := dkT (by decide +kernel)
theorem dJ2_putCharSB_b72d1_8 : decode cJ2_putCharSB_b72d1 8 = .ok (.invokestatic 111, 3) := dkT (by decide +kernel)
theorem dJ2_putCharSB_b72d1_11 : decode cJ2_putCharSB_b72d1 11 = .ok (.return_, 1) := dkT (by decide +kernel)
theorem gd_wsJ2_getChars_46870 : wsJ2_getChars_46870.all goodWord = true := by decide +kernel
set_option maxRecDepth 20000 in
theorem ggJ2_getChars_46870_J2_checkBoundsBeginEnd_d044e : GoodIn wsJ2_getChars_46870 wsJ2_checkBoundsBeginEnd_d044e := gi_q gd_wsJ2_getChars_46870 _ [(5, 3), (4, 1), (8, 10)] rfl
set_option maxRecDepth 20000 in
theorem gJ2_getChars_46870_J2_checkBoundsBeginEnd_d044e : GoodIn wsJ2_getChars_46870 (va_wsS RJ2 96 yJ2_checkBoundsBeginEnd_d044e wsJ2_checkBoundsBeginEnd_d044e) := goodIn_app (gi_q gd_wsJ2_getChars_46870 _ [(2, 3)] rfl) ggJ2_getChars_46870_J2_checkBoundsBeginEnd_d044e
set_option maxRecDepth 20000 in
theorem ggJ2_getChars_46870_J2_getChars_ba4f3 : GoodIn wsJ2_getChars_46870 wsJ2_getChars_ba4f3 := gi_q gd_wsJ2_getChars_46870 _ [(20, 5), (4, 1), (25, 1), (1, 1), (26, 2), (6, 3)] rfl
set_option maxRecDepth 20000 in
theorem gJ2_getChars_46870_J2_getChars_ba4f3 : GoodIn wsJ2_getChars_46870 (va_wsS RJ2 393 yJ2_getChars_ba4f3 wsJ2_getChars_ba4f3) := goodIn_app (gi_q gd_wsJ2_getChars_46870 _ [(18, 2), (4, 1)] rfl) ggJ2_getChars_46870_J2_getChars_ba4f3
def zT_cJ2_getChars_46870 : List (List Nat) := [[27, 28, 45, 184, 0, 96, 26, 28, 45, 184, 1, 137, 54, 4, 178, 0, 44, 154, 0, 17, 27, 21, 4, 159, 0, 11, 187, 0, 52, 89, 183, 0, 66, 191, 21, 4, 172]]
theorem zE_cJ2_getChars_46870 : zTab cJ2_getChars_46870.data.toList zT_cJ2_getChars_46870 = true := by decide +kernel
theorem dJ2_getChars_46870_0 : decode cJ2_getChars_46870 0 = .ok (.iload_n 1, 1) := dz_iload_n_1 (y0 zE_cJ2_getChars_46870 0 0 (by decide +kernel))
theorem dJ2_getChars_46870_1 : decode cJ2_getChars_46870 1 = .ok (.iload_n 2, 1) := dz_iload_n_2 (y0 zE_cJ2_getChars_46870 0 1 (by decide +kernel))
theorem dJ2_getChars_46870_2 : decode cJ2_getChars_46870 2 = .ok (.aload_n 3, 1) := dz_aload_n_3 (y0 zE_cJ2_getChars_46870 0 2 (by decide +kernel))
theorem dJ2_getChars_46870_3 : decode cJ2_getChars_46870 3 = .ok (.invokestatic 96, 3) := dz_invokestatic (yu2 zE_cJ2_getChars_46870 0 3 (by decide +kernel))
theorem dJ2_getChars_46870_6 : decode cJ2_getChars_46870 6 = .ok (.iload_n 0, 1) := dz_iload_n_0 (y0 zE_cJ2_getChars_46870 0 6 (by decide +kernel))
theorem dJ2_getChars_46870_7 : decode cJ2_getChars_46870 7 = .ok (.iload_n 2, 1) := dz_iload_n_2 (y0 zE_cJ2_getChars_46870 0 7 (by decide +kernel))
theorem dJ2_getChars_46870_8 : decode cJ2_getChars_46870 8 = .ok (.aload_n 3, 1) := dz_aload_n_3 (y0 zE_cJ2_getChars_46870 0 8 (by decide +kernel))
theorem dJ2_getChars_46870_9 : decode cJ2_getChars_46870 9 = .ok (.invokestatic 393, 3) := dz_invokestatic (yu2 zE_cJ2_getChars_46870 0 9 (by decide +kernel))
theorem dJ2_getChars_46870_12 : decode cJ2_getChars_46870 12 = .ok (.istore 4, 2) := dz_istore (yu1 zE_cJ2_getChars_46870 0 12 (by decide +kernel))
theorem dJ2_getChars_46870_14 : decode cJ2_getChars_46870 14 = .ok (.getstatic 44, 3) := dz_getstatic (yu2 zE_cJ2_getChars_46870 0 14 (by decide +kernel))
theorem dJ2_getChars_46870_17 : decode cJ2_getChars_46870 17 = .ok (.ifCond .ne 17, 3) := dz_ifCond_ne (ys2 zE_cJ2_getChars_46870 0 17 (by decide +kernel))
theorem dJ2_getChars_46870_20 : decode cJ2_getChars_46870 20 = .ok (.iload_n 1, 1) := dz_iload_n_1 (y0 zE_cJ2_getChars_46870 0 20 (by decide +kernel))
theorem dJ2_getChars_46870_21 : decode cJ2_getChars_46870 21 = .ok (.iload 4, 2) := dz_iload (yu1 zE_cJ2_getChars_46870 0 21 (by decide +kernel))
theorem dJ2_getChars_46870_23 : decode cJ2_getChars_46870 23 = .ok (.if_icmp .eq 11, 3) := dz_if_icmp_eq (ys2 zE_cJ2_getChars_46870 0 23 (by decide +kernel))
theorem dJ2_getChars_46870_26 : decode cJ2_getChars_46870 26 = .ok (.new 52, 3) := dz_new (yu2 zE_cJ2_getChars_46870 0 26 (by decide +kernel))
theorem dJ2_getChars_46870_29 : decode cJ2_getChars_46870 29 = .ok (.dup, 1) := dz_dup (y0 zE_cJ2_getChars_46870 0 29 (by decide +kernel))
theorem dJ2_getChars_46870_30 : decode cJ2_getChars_46870 30 = .ok (.invokespecial 66, 3) := dz_invokespecial (yu2 zE_cJ2_getChars_46870 0 30 (by decide +kernel))
theorem dJ2_getChars_46870_33 : decode cJ2_getChars_46870 33 = .ok (.athrow, 1) := dz_athrow (y0 zE_cJ2_getChars_46870 0 33 (by decide +kernel))
theorem dJ2_getChars_46870_34 : decode cJ2_getChars_46870 34 = .ok (.iload 4, 2) := dz_iload (yu1 zE_cJ2_getChars_46870 0 34 (by decide +kernel))
theorem dJ2_getChars_46870_36 : decode cJ2_getChars_46870 36 = .ok (.ireturn, 1) := dz_ireturn (y0 zE_cJ2_getChars_46870 0 36 (by decide +kernel))
theorem gd_wsJ2_putCharsAt_cd4e5 : wsJ2_putCharsAt_cd4e5.all goodWord = true := by decide +kernel
set_option maxRecDepth 20000 in
theorem ggJ2_putCharsAt_cd4e5_J2_checkBoundsBeginEnd_d044e : GoodIn wsJ2_putCharsAt_cd4e5 wsJ2_checkBoundsBeginEnd_d044e := gi_q gd_wsJ2_putCharsAt_cd4e5 _ [(5, 3), (4, 1), (8, 10)] rfl
set_option maxRecDepth 20000 in
theorem gJ2_putCharsAt_cd4e5_J2_checkBoundsBeginEnd_d044e : GoodIn wsJ2_putCharsAt_cd4e5 (va_wsS RJ2 96 yJ2_checkBoundsBeginEnd_d044e wsJ2_checkBoundsBeginEnd_d044e) := goodIn_app (gi_q gd_wsJ2_putCharsAt_cd4e5 _ [(2, 3)] rfl) ggJ2_putCharsAt_cd4e5_J2_checkBoundsBeginEnd_d044e
set_option maxRecDepth 20000 in
theorem ggJ2_putCharsAt_cd4e5_J2_putChar_b72d1 : GoodIn wsJ2_putCharsAt_cd4e5 wsJ2_putChar_b72d1 := gi_q gd_wsJ2_putCharsAt_cd4e5 _ [(20, 1), (1, 1), (21, 2), (6, 2), (4, 1), (8, 1)] rfl
set_option maxRecDepth 20000 in
theorem gJ2_putCharsAt_cd4e5_J2_putChar_b72d1 : GoodIn wsJ2_putCharsAt_cd4e5 (va_wsS RJ2 111 yJ2_putChar_b72d1 wsJ2_putChar_b72d1) := goodIn_app (gi_q gd_wsJ2_putCharsAt_cd4e5 _ [(18, 2), (4, 1)] rfl) ggJ2_putCharsAt_cd4e5_J2_putChar_b72d1
def zT_cJ2_putCharsAt_cd4e5 : List (List Nat) := [[27, 7, 96, 54, 6, 27, 21, 6, 42, 184, 0, 96, 42, 27, 132, 1, 1, 28, 184, 0, 111, 42, 27, 132, 1, 1, 29, 184, 0, 111, 42, 27, 132, 1, 1, 21, 4, 184, 0, 111, 42, 27, 132, 1, 1, 21, 5, 184, 0, 111, 178, 0, 44, 154, 0, 17, 27, 21, 6, 159, 0, 11, 187, 0, 52, 89, 183, 0], [52, 89, 183, 0, 66, 191, 21, 6, 172]]
theorem zE_cJ2_putCharsAt_cd4e5 : zTab cJ2_putCharsAt_cd4e5.data.toList zT_cJ2_putCharsAt_cd4e5 = true := by decide +kernel
theorem dJ2_putCharsAt_cd4e5_0 : decode cJ2_putCharsAt_cd4e5 0 = .ok (.iload_n 1, 1) := dz_iload_n_1 (y0 zE_cJ2_putCharsAt_cd4e5 0 0 (by decide +kernel))
theorem dJ2_putCharsAt_cd4e5_1 : decode cJ2_putCharsAt_cd4e5 1 = .ok (.iconst 4, 1) := dz_iconst_4 (y0 zE_cJ2_putCharsAt_cd4e5 0 1 (by decide +kernel))
theorem dJ2_putCharsAt_cd4e5_2 : decode cJ2_putCharsAt_cd4e5 2 = .ok (.iadd, 1) := dz_iadd (y0 zE_cJ2_putCharsAt_cd4e5 0 2 (by decide +kernel))
theorem dJ2_putCharsAt_cd4e5_3 : decode cJ2_putCharsAt_cd4e5 3 = .ok (.istore 6, 2) := dz_istore (yu1 zE_cJ2_putCharsAt_cd4e5 0 3 (by decide +kernel))
theorem dJ2_putCharsAt_cd4e5_5 : decode cJ2_putCharsAt_cd4e5 5 = .ok (.iload_n 1, 1) := dz_iload_n_1 (y0 zE_cJ2_putCharsAt_cd4e5 0 5 (by decide +kernel))
theorem dJ2_putCharsAt_cd4e5_6 : decode cJ2_putCharsAt_cd4e5 6 = .ok (.iload 6, 2) := dz_iload (yu1 zE_cJ2_putCharsAt_cd4e5 0 6 (by decide +kernel))
theorem dJ2_putCharsAt_cd4e5_8 : decode cJ2_putCharsAt_cd4e5 8 = .ok (.aload_n 0, 1) := dz_aload_n_0 (y0 zE_cJ2_putCharsAt_cd4e5 0 8 (by decide +kernel))
theorem dJ2_putCharsAt_cd4e5_9 : decode cJ2_putCharsAt_cd4e5 9 = .ok (.invokestatic 96, 3) := dz_invokestatic (yu2 zE_cJ2_putCharsAt_cd4e5 0 9 (by decide +kernel))
theorem dJ2_putCharsAt_cd4e5_12 : decode cJ2_putCharsAt_cd4e5 12 = .ok (.aload_n 0, 1) := dz_aload_n_0 (y0 zE_cJ2_putCharsAt_cd4e5 0 12 (by decide +kernel))
theorem dJ2_putCharsAt_cd4e5_13 : decode cJ2_putCharsAt_cd4e5 13 = .ok (.iload_n 1, 1) := dz_iload_n_1 (y0 zE_cJ2_putCharsAt_cd4e5 0 13 (by decide +kernel))
theorem dJ2_putCharsAt_cd4e5_14 : decode cJ2_putCharsAt_cd4e5 14 = .ok (.iinc 1 1, 3) := dz_iinc (yii zE_cJ2_putCharsAt_cd4e5 0 14 (by decide +kernel))
theorem dJ2_putCharsAt_cd4e5_17 : decode cJ2_putCharsAt_cd4e5 17 = .ok (.iload_n 2, 1) := dz_iload_n_2 (y0 zE_cJ2_putCharsAt_cd4e5 0 17 (by decide +kernel))
theorem dJ2_putCharsAt_cd4e5_18 : decode cJ2_putCharsAt_cd4e5 18 = .ok (.invokestatic 111, 3) := dz_invokestatic (yu2 zE_cJ2_putCharsAt_cd4e5 0 18 (by decide +kernel))
theorem dJ2_putCharsAt_cd4e5_21 : decode cJ2_putCharsAt_cd4e5 21 = .ok (.aload_n 0, 1) := dz_aload_n_0 (y0 zE_cJ2_putCharsAt_cd4e5 0 21 (by decide +kernel))
theorem dJ2_putCharsAt_cd4e5_22 : decode cJ2_putCharsAt_cd4e5 22 = .ok (.iload_n 1, 1) := dz_iload_n_1 (y0 zE_cJ2_putCharsAt_cd4e5 0 22 (by decide +kernel))
theorem dJ2_putCharsAt_cd4e5_23 : decode cJ2_putCharsAt_cd4e5 23 = .ok (.iinc 1 1, 3) := dz_iinc (yii zE_cJ2_putCharsAt_cd4e5 0 23 (by decide +kernel))
theorem dJ2_putCharsAt_cd4e5_26 : decode cJ2_putCharsAt_cd4e5 26 = .ok (.iload_n 3, 1) := dz_iload_n_3 (y0 zE_cJ2_putCharsAt_cd4e5 0 26 (by decide +kernel))
theorem dJ2_putCharsAt_cd4e5_27 : decode cJ2_putCharsAt_cd4e5 27 = .ok (.invokestatic 111, 3) := dz_invokestatic (yu2 zE_cJ2_putCharsAt_cd4e5 0 27 (by decide +kernel))
theorem dJ2_putCharsAt_cd4e5_30 : decode cJ2_putCharsAt_cd4e5 30 = .ok (.aload_n 0, 1) := dz_aload_n_0 (y0 zE_cJ2_putCharsAt_cd4e5 0 30 (by decide +kernel))
theorem dJ2_putCharsAt_cd4e5_31 : decode cJ2_putCharsAt_cd4e5 31 = .ok (.iload_n 1, 1) := dz_iload_n_1 (y0 zE_cJ2_putCharsAt_cd4e5 0 31 (by decide +kernel))
theorem dJ2_putCharsAt_cd4e5_32 : decode cJ2_putCharsAt_cd4e5 32 = .ok (.iinc 1 1, 3) := dz_iinc (yii zE_cJ2_putCharsAt_cd4e5 0 32 (by decide +kernel))
theorem dJ2_putCharsAt_cd4e5_35 : decode cJ2_putCharsAt_cd4e5 35 = .ok (.iload 4, 2) := dz_iload (yu1 zE_cJ2_putCharsAt_cd4e5 0 35 (by decide +kernel))
theorem dJ2_putCharsAt_cd4e5_37 : decode cJ2_putCharsAt_cd4e5 37 = .ok (.invokestatic 111, 3) := dz_invokestatic (yu2 zE_cJ2_putCharsAt_cd4e5 0 37 (by decide +kernel))
theorem dJ2_putCharsAt_cd4e5_40 : decode cJ2_putCharsAt_cd4e5 40 = .ok (.aload_n 0, 1) := dz_aload_n_0 (y0 zE_cJ2_putCharsAt_cd4e5 0 40 (by decide +kernel))
theorem dJ2_putCharsAt_cd4e5_41 : decode cJ2_putCharsAt_cd4e5 41 = .ok (.iload_n 1, 1) := dz_iload_n_1 (y0 zE_cJ2_putCharsAt_cd4e5 0 41 (by decide +kernel))
theorem dJ2_putCharsAt_cd4e5_42 : decode cJ2_putCharsAt_cd4e5 42 = .ok (.iinc 1 1, 3) := dz_iinc (yii zE_cJ2_putCharsAt_cd4e5 0 42 (by decide +kernel))
theorem dJ2_putCharsAt_cd4e5_45 : decode cJ2_putCharsAt_cd4e5 45 = .ok (.iload 5, 2) := dz_iload (yu1 zE_cJ2_putCharsAt_cd4e5 0 45 (by decide +kernel))
theorem dJ2_putCharsAt_cd4e5_47 : decode cJ2_putCharsAt_cd4e5 47 = .ok (.invokestatic 111, 3) := dz_invokestatic (yu2 zE_cJ2_putCharsAt_cd4e5 0 47 (by decide +kernel))
theorem dJ2_putCharsAt_cd4e5_50 : decode cJ2_putCharsAt_cd4e5 50 = .ok (.getstatic 44, 3) := dz_getstatic (yu2 zE_cJ2_putCharsAt_cd4e5 0 50 (by decide +kernel))
theorem dJ2_putCharsAt_cd4e5_53 : decode cJ2_putCharsAt_cd4e5 53 = .ok (.ifCond .ne 17, 3) := dz_ifCond_ne (ys2 zE_cJ2_putCharsAt_cd4e5 0 53 (by decide +kernel))
theorem dJ2_putCharsAt_cd4e5_56 : decode cJ2_putCharsAt_cd4e5 56 = .ok (.iload_n 1, 1) := dz_iload_n_1 (y0 zE_cJ2_putCharsAt_cd4e5 0 56 (by decide +kernel))
theorem dJ2_putCharsAt_cd4e5_57 : decode cJ2_putCharsAt_cd4e5 57 = .ok (.iload 6, 2) := dz_iload (yu1 zE_cJ2_putCharsAt_cd4e5 0 57 (by decide +kernel))
theorem dJ2_putCharsAt_cd4e5_59 : decode cJ2_putCharsAt_cd4e5 59 = .ok (.if_icmp .eq 11, 3) := dz_if_icmp_eq (ys2 zE_cJ2_putCharsAt_cd4e5 0 59 (by decide +kernel))
theorem dJ2_putCharsAt_cd4e5_62 : decode cJ2_putCharsAt_cd4e5 62 = .ok (.new 52, 3) := dz_new (yu2 zE_cJ2_putCharsAt_cd4e5 0 62 (by decide +kernel))
theorem dJ2_putCharsAt_cd4e5_65 : decode cJ2_putCharsAt_cd4e5 65 = .ok (.dup, 1) := dz_dup (y0 zE_cJ2_putCharsAt_cd4e5 1 1 (by decide +kernel))
theorem dJ2_putCharsAt_cd4e5_66 : decode cJ2_putCharsAt_cd4e5 66 = .ok (.invokespecial 66, 3) := dz_invokespecial (yu2 zE_cJ2_putCharsAt_cd4e5 1 2 (by decide +kernel))
theorem dJ2_putCharsAt_cd4e5_69 : decode cJ2_putCharsAt_cd4e5 69 = .ok (.athrow, 1) := dz_athrow (y0 zE_cJ2_putCharsAt_cd4e5 1 5 (by decide +kernel))
theorem dJ2_putCharsAt_cd4e5_70 : decode cJ2_putCharsAt_cd4e5 70 = .ok (.iload 6, 2) := dz_iload (yu1 zE_cJ2_putCharsAt_cd4e5 1 6 (by decide +kernel))
theorem dJ2_putCharsAt_cd4e5_72 : decode cJ2_putCharsAt_cd4e5 72 = .ok (.ireturn, 1) := dz_ireturn (y0 zE_cJ2_putCharsAt_cd4e5 1 8 (by decide +kernel))
theorem gd_wsJ2_inflate_0e8fd : wsJ2_inflate_0e8fd.all goodWord = true := by decide +kernel
set_option maxRecDepth 20000 in
theorem ggJ2_inflate_0e8fd_J2_checkBoundsOffCount_d044e : GoodIn wsJ2_inflate_0e8fd wsJ2_checkBoundsOffCount_d044e := gi_q gd_wsJ2_inflate_0e8fd _ [(4, 3), (3, 1), (7, 10)] rfl
set_option maxRecDepth 20000 in
theorem gJ2_inflate_0e8fd_J2_checkBoundsOffCount_d044e : GoodIn wsJ2_inflate_0e8fd (va_wsS RJ2 173 yJ2_checkBoundsOffCount_d044e wsJ2_checkBoundsOffCount_d044e) := goodIn_app (gi_q gd_wsJ2_inflate_0e8fd _ [(1, 3)] rfl) ggJ2_inflate_0e8fd_J2_checkBoundsOffCount_d044e
set_option maxRecDepth 20000 in
theorem ggJ2_inflate_0e8fd_J2_putChar_b72d1 : GoodIn wsJ2_inflate_0e8fd wsJ2_putChar_b72d1 := gi_q gd_wsJ2_inflate_0e8fd _ [(19, 4), (5, 2), (3, 1), (7, 1)] rfl
set_option maxRecDepth 20000 in
theorem gJ2_inflate_0e8fd_J2_putChar_b72d1 : GoodIn wsJ2_inflate_0e8fd (va_wsS RJ2 111 yJ2_putChar_b72d1 wsJ2_putChar_b72d1) := goodIn_app (gi_q gd_wsJ2_inflate_0e8fd _ [(17, 2), (3, 1)] rfl) ggJ2_inflate_0e8fd_J2_putChar_b72d1
def zT_cJ2_inflate_0e8fd : List (List Nat) := [[29, 21, 4, 44, 184, 0, 173, 3, 54, 5, 21, 5, 21, 4, 162, 0, 27, 44, 29, 132, 3, 1, 42, 27, 132, 1, 1, 51, 17, 0, 255, 126, 184, 0, 111, 132, 5, 1, 167, 255, 228, 177]]
theorem zE_cJ2_inflate_0e8fd : zTab cJ2_inflate_0e8fd.data.toList zT_cJ2_inflate_0e8fd = true := by decide +kernel
theorem dJ2_inflate_0e8fd_0 : decode cJ2_inflate_0e8fd 0 = .ok (.iload_n 3, 1) := dz_iload_n_3 (y0 zE_cJ2_inflate_0e8fd 0 0 (by decide +kernel))
theorem dJ2_inflate_0e8fd_1 : decode cJ2_inflate_0e8fd 1 = .ok (.iload 4, 2) := dz_iload (yu1 zE_cJ2_inflate_0e8fd 0 1 (by decide +kernel))
theorem dJ2_inflate_0e8fd_3 : decode cJ2_inflate_0e8fd 3 = .ok (.aload_n 2, 1) := dz_aload_n_2 (y0 zE_cJ2_inflate_0e8fd 0 3 (by decide +kernel))
theorem dJ2_inflate_0e8fd_4 : decode cJ2_inflate_0e8fd 4 = .ok (.invokestatic 173, 3) := dz_invokestatic (yu2 zE_cJ2_inflate_0e8fd 0 4 (by decide +kernel))
theorem dJ2_inflate_0e8fd_7 : decode cJ2_inflate_0e8fd 7 = .ok (.iconst 0, 1) := dz_iconst_0 (y0 zE_cJ2_inflate_0e8fd 0 7 (by decide +kernel))
theorem dJ2_inflate_0e8fd_8 : decode cJ2_inflate_0e8fd 8 = .ok (.istore 5, 2) := dz_istore (yu1 zE_cJ2_inflate_0e8fd 0 8 (by decide +kernel))
theorem dJ2_inflate_0e8fd_10 : decode cJ2_inflate_0e8fd 10 = .ok (.iload 5, 2) := dz_iload (yu1 zE_cJ2_inflate_0e8fd 0 10 (by decide +kernel))
theorem dJ2_inflate_0e8fd_12 : decode cJ2_inflate_0e8fd 12 = .ok (.iload 4, 2) := dz_iload (yu1 zE_cJ2_inflate_0e8fd 0 12 (by decide +kernel))
theorem dJ2_inflate_0e8fd_14 : decode cJ2_inflate_0e8fd 14 = .ok (.if_icmp .ge 27, 3) := dz_if_icmp_ge (ys2 zE_cJ2_inflate_0e8fd 0 14 (by decide +kernel))
theorem dJ2_inflate_0e8fd_17 : decode cJ2_inflate_0e8fd 17 = .ok (.aload_n 2, 1) := dz_aload_n_2 (y0 zE_cJ2_inflate_0e8fd 0 17 (by decide +kernel))
theorem dJ2_inflate_0e8fd_18 : decode cJ2_inflate_0e8fd 18 = .ok (.iload_n 3, 1) := dz_iload_n_3 (y0 zE_cJ2_inflate_0e8fd 0 18 (by decide +kernel))
theorem dJ2_inflate_0e8fd_19 : decode cJ2_inflate_0e8fd 19 = .ok (.iinc 3 1, 3) := dz_iinc (yii zE_cJ2_inflate_0e8fd 0 19 (by decide +kernel))
theorem dJ2_inflate_0e8fd_22 : decode cJ2_inflate_0e8fd 22 = .ok (.aload_n 0, 1) := dz_aload_n_0 (y0 zE_cJ2_inflate_0e8fd 0 22 (by decide +kernel))
theorem dJ2_inflate_0e8fd_23 : decode cJ2_inflate_0e8fd 23 = .ok (.iload_n 1, 1) := dz_iload_n_1 (y0 zE_cJ2_inflate_0e8fd 0 23 (by decide +kernel))
theorem dJ2_inflate_0e8fd_24 : decode cJ2_inflate_0e8fd 24 = .ok (.iinc 1 1, 3) := dz_iinc (yii zE_cJ2_inflate_0e8fd 0 24 (by decide +kernel))
theorem dJ2_inflate_0e8fd_27 : decode cJ2_inflate_0e8fd 27 = .ok (.baload, 1) := dz_baload (y0 zE_cJ2_inflate_0e8fd 0 27 (by decide +kernel))
theorem dJ2_inflate_0e8fd_28 : decode cJ2_inflate_0e8fd 28 = .ok (.sipush 255, 3) := dz_sipush (ys2 zE_cJ2_inflate_0e8fd 0 28 (by decide +kernel))
theorem dJ2_inflate_0e8fd_31 : decode cJ2_inflate_0e8fd 31 = .ok (.iand, 1) := dz_iand (y0 zE_cJ2_inflate_0e8fd 0 31 (by decide +kernel))
theorem dJ2_inflate_0e8fd_32 : decode cJ2_inflate_0e8fd 32 = .ok (.invokestatic 111, 3) := dz_invokestatic (yu2 zE_cJ2_inflate_0e8fd 0 32 (by decide +kernel))
theorem dJ2_inflate_0e8fd_35 : decode cJ2_inflate_0e8fd 35 = .ok (.iinc 5 1, 3) := dz_iinc (yii zE_cJ2_inflate_0e8fd 0 35 (by decide +kernel))
theorem dJ2_inflate_0e8fd_38 : decode cJ2_inflate_0e8fd 38 = .ok (.goto (-28), 3) := dz_goto (ys2 zE_cJ2_inflate_0e8fd 0 38 (by decide +kernel))
theorem dJ2_inflate_0e8fd_41 : decode cJ2_inflate_0e8fd 41 = .ok (.return_, 1) := dz_return (y0 zE_cJ2_inflate_0e8fd 0 41 (by decide +kernel))
theorem gd_wsJ2_getChars_ba4f3 : wsJ2_getChars_ba4f3.all goodWord = true := by decide +kernel
set_option maxRecDepth 20000 in
theorem ggJ2_getChars_ba4f3_J2_putChar_b72d1 : GoodIn wsJ2_getChars_ba4f3 wsJ2_putChar_b72d1 := gi_q gd_wsJ2_getChars_ba4f3 _ [(6, 6), (5, 1), (12, 1)] rfl
set_option maxRecDepth 20000 in
theorem gJ2_getChars_ba4f3_J2_putChar_b72d1 : GoodIn wsJ2_getChars_ba4f3 (va_wsS RJ2 111 yJ2_putChar_b72d1 wsJ2_putChar_b72d1) := goodIn_app (gi_q gd_wsJ2_getChars_ba4f3 _ [(3, 3)] rfl) ggJ2_getChars_ba4f3_J2_putChar_b72d1
def zT_cJ2_getChars_ba4f3 : List (List Nat) := [[27, 54, 5, 26, 156, 0, 7, 4, 167, 0, 4, 3, 54, 6, 21, 6, 154, 0, 6, 26, 116, 59, 26, 16, 156, 163, 0, 51, 26, 16, 100, 108, 62, 29, 16, 100, 104, 26, 100, 54, 4, 29, 59, 44, 132, 5, 255, 21, 5, 178, 1, 147, 21, 4, 51, 184, 0, 111, 44, 132, 5, 255, 21, 5, 178, 1, 151, 21], [178, 1, 151, 21, 4, 51, 184, 0, 111, 167, 255, 205, 44, 132, 5, 255, 21, 5, 178, 1, 147, 26, 116, 51, 184, 0, 111, 26, 16, 247, 162, 0, 18, 44, 132, 5, 255, 21, 5, 178, 1, 151, 26, 116, 51, 184, 0, 111, 21, 6, 153, 0, 14, 44, 132, 5, 255, 21, 5, 16, 45, 184, 0, 111, 21, 5, 172], [21, 5, 172]]
theorem zE_cJ2_getChars_ba4f3 : zTab cJ2_getChars_ba4f3.data.toList zT_cJ2_getChars_ba4f3 = true := by decide +kernel
theorem dJ2_getChars_ba4f3_0 : decode cJ2_getChars_ba4f3 0 = .ok (.iload_n 1, 1) := dz_iload_n_1 (y0 zE_cJ2_getChars_ba4f3 0 0 (by decide +kernel))
theorem dJ2_getChars_ba4f3_1 : decode cJ2_getChars_ba4f3 1 = .ok (.istore 5, 2) := dz_istore (yu1 zE_cJ2_getChars_ba4f3 0 1 (by decide +kernel))
theorem dJ2_getChars_ba4f3_3 : decode cJ2_getChars_ba4f3 3 = .ok (.iload_n 0, 1) := dz_iload_n_0 (y0 zE_cJ2_getChars_ba4f3 0 3 (by decide +kernel))
theorem dJ2_getChars_ba4f3_4 : decode cJ2_getChars_ba4f3 4 = .ok (.ifCond .ge 7, 3) := dz_ifCond_ge (ys2 zE_cJ2_getChars_ba4f3 0 4 (by decide +kernel))
theorem dJ2_getChars_ba4f3_7 : decode cJ2_getChars_ba4f3 7 = .ok (.iconst 1, 1) := dz_iconst_1 (y0 zE_cJ2_getChars_ba4f3 0 7 (by decide +kernel))
theorem dJ2_getChars_ba4f3_8 : decode cJ2_getChars_ba4f3 8 = .ok (.goto 4, 3) := dz_goto (ys2 zE_cJ2_getChars_ba4f3 0 8 (by decide +kernel))
theorem dJ2_getChars_ba4f3_11 : decode cJ2_getChars_ba4f3 11 = .ok (.iconst 0, 1) := dz_iconst_0 (y0 zE_cJ2_getChars_ba4f3 0 11 (by decide +kernel))
theorem dJ2_getChars_ba4f3_12 : decode cJ2_getChars_ba4f3 12 = .ok (.istore 6, 2) := dz_istore (yu1 zE_cJ2_getChars_ba4f3 0 12 (by decide +kernel))
theorem dJ2_getChars_ba4f3_14 : decode cJ2_getChars_ba4f3 14 = .ok (.iload 6, 2) := dz_iload (yu1 zE_cJ2_getChars_ba4f3 0 14 (by decide +kernel))
theorem dJ2_getChars_ba4f3_16 : decode cJ2_getChars_ba4f3 16 = .ok (.ifCond .ne 6, 3) := dz_ifCond_ne (ys2 zE_cJ2_getChars_ba4f3 0 16 (by decide +kernel))
theorem dJ2_getChars_ba4f3_19 : decode cJ2_getChars_ba4f3 19 = .ok (.iload_n 0, 1) := dz_iload_n_0 (y0 zE_cJ2_getChars_ba4f3 0 19 (by decide +kernel))
theorem dJ2_getChars_ba4f3_20 : decode cJ2_getChars_ba4f3 20 = .ok (.ineg, 1) := dz_ineg (y0 zE_cJ2_getChars_ba4f3 0 20 (by decide +kernel))
theorem dJ2_getChars_ba4f3_21 : decode cJ2_getChars_ba4f3 21 = .ok (.istore_n 0, 1) := dz_istore_n_0 (y0 zE_cJ2_getChars_ba4f3 0 21 (by decide +kernel))
theorem dJ2_getChars_ba4f3_22 : decode cJ2_getChars_ba4f3 22 = .ok (.iload_n 0, 1) := dz_iload_n_0 (y0 zE_cJ2_getChars_ba4f3 0 22 (by decide +kernel))
theorem dJ2_getChars_ba4f3_23 : decode cJ2_getChars_ba4f3 23 = .ok (.bipush (-100), 2) := dz_bipush (ys1 zE_cJ2_getChars_ba4f3 0 23 (by decide +kernel))
theorem dJ2_getChars_ba4f3_25 : decode cJ2_getChars_ba4f3 25 = .ok (.if_icmp .gt 51, 3) := dz_if_icmp_gt (ys2 zE_cJ2_getChars_ba4f3 0 25 (by decide +kernel))
theorem dJ2_getChars_ba4f3_28 : decode cJ2_getChars_ba4f3 28 = .ok (.iload_n 0, 1) := dz_iload_n_0 (y0 zE_cJ2_getChars_ba4f3 0 28 (by decide +kernel))
theorem dJ2_getChars_ba4f3_29 : decode cJ2_getChars_ba4f3 29 = .ok (.bipush 100, 2) := dz_bipush (ys1 zE_cJ2_getChars_ba4f3 0 29 (by decide +kernel))
theorem dJ2_getChars_ba4f3_31 : decode cJ2_getChars_ba4f3 31 = .ok (.idiv, 1) := dz_idiv (y0 zE_cJ2_getChars_ba4f3 0 31 (by decide +kernel))
theorem dJ2_getChars_ba4f3_32 : decode cJ2_getChars_ba4f3 32 = .ok (.istore_n 3, 1) := dz_istore_n_3 (y0 zE_cJ2_getChars_ba4f3 0 32 (by decide +kernel))
theorem dJ2_getChars_ba4f3_33 : decode cJ2_getChars_ba4f3 33 = .ok (.iload_n 3, 1) := dz_iload_n_3 (y0 zE_cJ2_getChars_ba4f3 0 33 (by decide +kernel))
theorem dJ2_getChars_ba4f3_34 : decode cJ2_getChars_ba4f3 34 = .ok (.bipush 100, 2) := dz_bipush (ys1 zE_cJ2_getChars_ba4f3 0 34 (by decide +kernel))
theorem dJ2_getChars_ba4f3_36 : decode cJ2_getChars_ba4f3 36 = .ok (.imul, 1) := dz_imul (y0 zE_cJ2_getChars_ba4f3 0 36 (by decide +kernel))
theorem dJ2_getChars_ba4f3_37 : decode cJ2_getChars_ba4f3 37 = .ok (.iload_n 0, 1) := dz_iload_n_0 (y0 zE_cJ2_getChars_ba4f3 0 37 (by decide +kernel))
theorem dJ2_getChars_ba4f3_38 : decode cJ2_getChars_ba4f3 38 = .ok (.isub, 1) := dz_isub (y0 zE_cJ2_getChars_ba4f3 0 38 (by decide +kernel))
theorem dJ2_getChars_ba4f3_39 : decode cJ2_getChars_ba4f3 39 = .ok (.istore 4, 2) := dz_istore (yu1 zE_cJ2_getChars_ba4f3 0 39 (by decide +kernel))
theorem dJ2_getChars_ba4f3_41 : decode cJ2_getChars_ba4f3 41 = .ok (.iload_n 3, 1) := dz_iload_n_3 (y0 zE_cJ2_getChars_ba4f3 0 41 (by decide +kernel))
theorem dJ2_getChars_ba4f3_42 : decode cJ2_getChars_ba4f3 42 = .ok (.istore_n 0, 1) := dz_istore_n_0 (y0 zE_cJ2_getChars_ba4f3 0 42 (by decide +kernel))
theorem dJ2_getChars_ba4f3_43 : decode cJ2_getChars_ba4f3 43 = .ok (.aload_n 2, 1) := dz_aload_n_2 (y0 zE_cJ2_getChars_ba4f3 0 43 (by decide +kernel))
theorem dJ2_getChars_ba4f3_44 : decode cJ2_getChars_ba4f3 44 = .ok (.iinc 5 (-1), 3) := dz_iinc (yii zE_cJ2_getChars_ba4f3 0 44 (by decide +kernel))
theorem dJ2_getChars_ba4f3_47 : decode cJ2_getChars_ba4f3 47 = .ok (.iload 5, 2) := dz_iload (yu1 zE_cJ2_getChars_ba4f3 0 47 (by decide +kernel))
theorem dJ2_getChars_ba4f3_49 : decode cJ2_getChars_ba4f3 49 = .ok (.getstatic 403, 3) := dz_getstatic (yu2 zE_cJ2_getChars_ba4f3 0 49 (by decide +kernel))
theorem dJ2_getChars_ba4f3_52 : decode cJ2_getChars_ba4f3 52 = .ok (.iload 4, 2) := dz_iload (yu1 zE_cJ2_getChars_ba4f3 0 52 (by decide +kernel))
theorem dJ2_getChars_ba4f3_54 : decode cJ2_getChars_ba4f3 54 = .ok (.baload, 1) := dz_baload (y0 zE_cJ2_getChars_ba4f3 0 54 (by decide +kernel))
theorem dJ2_getChars_ba4f3_55 : decode cJ2_getChars_ba4f3 55 = .ok (.invokestatic 111, 3) := dz_invokestatic (yu2 zE_cJ2_getChars_ba4f3 0 55 (by decide +kernel))
theorem dJ2_getChars_ba4f3_58 : decode cJ2_getChars_ba4f3 58 = .ok (.aload_n 2, 1) := dz_aload_n_2 (y0 zE_cJ2_getChars_ba4f3 0 58 (by decide +kernel))
theorem dJ2_getChars_ba4f3_59 : decode cJ2_getChars_ba4f3 59 = .ok (.iinc 5 (-1), 3) := dz_iinc (yii zE_cJ2_getChars_ba4f3 0 59 (by decide +kernel))
theorem dJ2_getChars_ba4f3_62 : decode cJ2_getChars_ba4f3 62 = .ok (.iload 5, 2) := dz_iload (yu1 zE_cJ2_getChars_ba4f3 0 62 (by decide +kernel))
theorem dJ2_getChars_ba4f3_64 : decode cJ2_getChars_ba4f3 64 = .ok (.getstatic 407, 3) := dz_getstatic (yu2 zE_cJ2_getChars_ba4f3 1 0 (by decide +kernel))
theorem dJ2_getChars_ba4f3_67 : decode cJ2_getChars_ba4f3 67 = .ok (.iload 4, 2) := dz_iload (yu1 zE_cJ2_getChars_ba4f3 1 3 (by decide +kernel))
theorem dJ2_getChars_ba4f3_69 : decode cJ2_getChars_ba4f3 69 = .ok (.baload, 1) := dz_baload (y0 zE_cJ2_getChars_ba4f3 1 5 (by decide +kernel))
theorem dJ2_getChars_ba4f3_70 : decode cJ2_getChars_ba4f3 70 = .ok (.invokestatic 111, 3) := dz_invokestatic (yu2 zE_cJ2_getChars_ba4f3 1 6 (by decide +kernel))
theorem dJ2_getChars_ba4f3_73 : decode cJ2_getChars_ba4f3 73 = .ok (.goto (-51), 3) := dz_goto (ys2 zE_cJ2_getChars_ba4f3 1 9 (by decide +kernel))
theorem dJ2_getChars_ba4f3_76 : decode cJ2_getChars_ba4f3 76 = .ok (.aload_n 2, 1) := dz_aload_n_2 (y0 zE_cJ2_getChars_ba4f3 1 12 (by decide +kernel))
theorem dJ2_getChars_ba4f3_77 : decode cJ2_getChars_ba4f3 77 = .ok (.iinc 5 (-1), 3) := dz_iinc (yii zE_cJ2_getChars_ba4f3 1 13 (by decide +kernel))
theorem dJ2_getChars_ba4f3_80 : decode cJ2_getChars_ba4f3 80 = .ok (.iload 5, 2) := dz_iload (yu1 zE_cJ2_getChars_ba4f3 1 16 (by decide +kernel))
theorem dJ2_getChars_ba4f3_82 : decode cJ2_getChars_ba4f3 82 = .ok (.getstatic 403, 3) := dz_getstatic (yu2 zE_cJ2_getChars_ba4f3 1 18 (by decide +kernel))
theorem dJ2_getChars_ba4f3_85 : decode cJ2_getChars_ba4f3 85 = .ok (.iload_n 0, 1) := dz_iload_n_0 (y0 zE_cJ2_getChars_ba4f3 1 21 (by decide +kernel))
theorem dJ2_getChars_ba4f3_86 : decode cJ2_getChars_ba4f3 86 = .ok (.ineg, 1) := dz_ineg (y0 zE_cJ2_getChars_ba4f3 1 22 (by decide +kernel))
theorem dJ2_getChars_ba4f3_87 : decode cJ2_getChars_ba4f3 87 = .ok (.baload, 1) := dz_baload (y0 zE_cJ2_getChars_ba4f3 1 23 (by decide +kernel))
theorem dJ2_getChars_ba4f3_88 : decode cJ2_getChars_ba4f3 88 = .ok (.invokestatic 111, 3) := dz_invokestatic (yu2 zE_cJ2_getChars_ba4f3 1 24 (by decide +kernel))
theorem dJ2_getChars_ba4f3_91 : decode cJ2_getChars_ba4f3 91 = .ok (.iload_n 0, 1) := dz_iload_n_0 (y0 zE_cJ2_getChars_ba4f3 1 27 (by decide +kernel))
theorem dJ2_getChars_ba4f3_92 : decode cJ2_getChars_ba4f3 92 = .ok (.bipush (-9), 2) := dz_bipush (ys1 zE_cJ2_getChars_ba4f3 1 28 (by decide +kernel))
theorem dJ2_getChars_ba4f3_94 : decode cJ2_getChars_ba4f3 94 = .ok (.if_icmp .ge 18, 3) := dz_if_icmp_ge (ys2 zE_cJ2_getChars_ba4f3 1 30 (by decide +kernel))
theorem dJ2_getChars_ba4f3_97 : decode cJ2_getChars_ba4f3 97 = .ok (.aload_n 2, 1) := dz_aload_n_2 (y0 zE_cJ2_getChars_ba4f3 1 33 (by decide +kernel))
theorem dJ2_getChars_ba4f3_98 : decode cJ2_getChars_ba4f3 98 = .ok (.iinc 5 (-1), 3) := dz_iinc (yii zE_cJ2_getChars_ba4f3 1 34 (by decide +kernel))
theorem dJ2_getChars_ba4f3_101 : decode cJ2_getChars_ba4f3 101 = .ok (.iload 5, 2) := dz_iload (yu1 zE_cJ2_getChars_ba4f3 1 37 (by decide +kernel))
theorem dJ2_getChars_ba4f3_103 : decode cJ2_getChars_ba4f3 103 = .ok (.getstatic 407, 3) := dz_getstatic (yu2 zE_cJ2_getChars_ba4f3 1 39 (by decide +kernel))
theorem dJ2_getChars_ba4f3_106 : decode cJ2_getChars_ba4f3 106 = .ok (.iload_n 0, 1) := dz_iload_n_0 (y0 zE_cJ2_getChars_ba4f3 1 42 (by decide +kernel))
theorem dJ2_getChars_ba4f3_107 : decode cJ2_getChars_ba4f3 107 = .ok (.ineg, 1) := dz_ineg (y0 zE_cJ2_getChars_ba4f3 1 43 (by decide +kernel))
theorem dJ2_getChars_ba4f3_108 : decode cJ2_getChars_ba4f3 108 = .ok (.baload, 1) := dz_baload (y0 zE_cJ2_getChars_ba4f3 1 44 (by decide +kernel))
theorem dJ2_getChars_ba4f3_109 : decode cJ2_getChars_ba4f3 109 = .ok (.invokestatic 111, 3) := dz_invokestatic (yu2 zE_cJ2_getChars_ba4f3 1 45 (by decide +kernel))
theorem dJ2_getChars_ba4f3_112 : decode cJ2_getChars_ba4f3 112 = .ok (.iload 6, 2) := dz_iload (yu1 zE_cJ2_getChars_ba4f3 1 48 (by decide +kernel))
theorem dJ2_getChars_ba4f3_114 : decode cJ2_getChars_ba4f3 114 = .ok (.ifCond .eq 14, 3) := dz_ifCond_eq (ys2 zE_cJ2_getChars_ba4f3 1 50 (by decide +kernel))
theorem dJ2_getChars_ba4f3_117 : decode cJ2_getChars_ba4f3 117 = .ok (.aload_n 2, 1) := dz_aload_n_2 (y0 zE_cJ2_getChars_ba4f3 1 53 (by decide +kernel))
theorem dJ2_getChars_ba4f3_118 : decode cJ2_getChars_ba4f3 118 = .ok (.iinc 5 (-1), 3) := dz_iinc (yii zE_cJ2_getChars_ba4f3 1 54 (by decide +kernel))
theorem dJ2_getChars_ba4f3_121 : decode cJ2_getChars_ba4f3 121 = .ok (.iload 5, 2) := dz_iload (yu1 zE_cJ2_getChars_ba4f3 1 57 (by decide +kernel))
theorem dJ2_getChars_ba4f3_123 : decode cJ2_getChars_ba4f3 123 = .ok (.bipush 45, 2) := dz_bipush (ys1 zE_cJ2_getChars_ba4f3 1 59 (by decide +kernel))
theorem dJ2_getChars_ba4f3_125 : decode cJ2_getChars_ba4f3 125 = .ok (.invokestatic 111, 3) := dz_invokestatic (yu2 zE_cJ2_getChars_ba4f3 1 61 (by decide +kernel))
theorem dJ2_getChars_ba4f3_128 : decode cJ2_getChars_ba4f3 128 = .ok (.iload 5, 2) := dz_iload (yu1 zE_cJ2_getChars_ba4f3 2 0 (by decide +kernel))
theorem dJ2_getChars_ba4f3_130 : decode cJ2_getChars_ba4f3 130 = .ok (.ireturn, 1) := dz_ireturn (y0 zE_cJ2_getChars_ba4f3 2 2 (by decide +kernel))
theorem gd_wsJ2_checkIndex_2214a : wsJ2_checkIndex_2214a.all goodWord = true := by decide +kernel
set_option maxRecDepth 20000 in
theorem ggJ2_checkIndex_2214a_J2_length_9d52b : GoodIn wsJ2_checkIndex_2214a wsJ2_length_9d52b := gi_q gd_wsJ2_checkIndex_2214a _ [(4, 1)] rfl
set_option maxRecDepth 20000 in
theorem gJ2_checkIndex_2214a_J2_length_9d52b : GoodIn wsJ2_checkIndex_2214a (va_wsS RJ2 48 yJ2_length_9d52b wsJ2_length_9d52b) := goodIn_app (gi_q gd_wsJ2_checkIndex_2214a _ [(1, 3)] rfl) ggJ2_checkIndex_2214a_J2_length_9d52b
set_option maxRecDepth 20000 in
theorem ggJ2_checkIndex_2214a_J0_checkIndex_df160 : GoodIn wsJ2_checkIndex_2214a wsJ0_checkIndex_df160 := gi_q gd_wsJ2_checkIndex_2214a _ [(8, 6)] rfl
set_option maxRecDepth 20000 in
theorem gJ2_checkIndex_2214a_J0_checkIndex_df160 : GoodIn wsJ2_checkIndex_2214a (va_wsS RJ2 414 yJ0_checkIndex_df160 wsJ0_checkIndex_df160) := goodIn_app (gi_q gd_wsJ2_checkIndex_2214a _ [(5, 3)] rfl) ggJ2_checkIndex_2214a_J0_checkIndex_df160
theorem dJ2_checkIndex_2214a_0 : decode cJ2_checkIndex_2214a 0 = .ok (.iload_n 0, 1) := dkT (by decide +kernel)
theorem dJ2_checkIndex_2214a_1 : decode cJ2_checkIndex_2214a 1 = .ok (.aload_n 1, 1) := dkT (by decide +kernel)
theorem dJ2_checkIndex_2214a_2 : decode cJ2_checkIndex_2214a 2 = .ok (.invokestatic 48, 3) := dkT (by decide +kernel)
theorem dJ2_checkIndex_2214a_5 : decode cJ2_checkIndex_2214a 5 = .ok (.invokestatic 414, 3) := dkT (by decide +kernel)
theorem dJ2_checkIndex_2214a_8 : decode cJ2_checkIndex_2214a 8 = .ok (.return_, 1) := dkT (by decide +kernel)
theorem gd_wsJ2_checkBoundsBeginEnd_d044e : wsJ2_checkBoundsBeginEnd_d044e.all goodWord = true := by decide +kernel
set_option maxRecDepth 20000 in
theorem ggJ2_checkBoundsBeginEnd_d044e_J2_length_9d52b : GoodIn wsJ2_checkBoundsBeginEnd_d044e wsJ2_length_9d52b := gi_q gd_wsJ2_checkBoundsBeginEnd_d044e _ [(4, 1)] rfl
set_option maxRecDepth 20000 in
theorem gJ2_checkBoundsBeginEnd_d044e_J2_length_9d52b : GoodIn wsJ2_checkBoundsBeginEnd_d044e (va_wsS RJ2 48 yJ2_length_9d52b wsJ2_length_9d52b) := goodIn_app (gi_q gd_wsJ2_checkBoundsBeginEnd_d044e _ [(1, 3)] rfl) ggJ2_checkBoundsBeginEnd_d044e_J2_length_9d52b
set_option maxRecDepth 20000 in
theorem ggJ2_checkBoundsBeginEnd_d044e_J0_checkBoundsBeginEnd_23922 : GoodIn wsJ2_checkBoundsBeginEnd_d044e wsJ0_checkBoundsBeginEnd_23922 := gi_q gd_wsJ2_checkBoundsBeginEnd_d044e _ [(8, 6)] rfl
set_option maxRecDepth 20000 in
theorem gJ2_checkBoundsBeginEnd_d044e_J0_checkBoundsBeginEnd_23922 : GoodIn wsJ2_checkBoundsBeginEnd_d044e (va_wsS RJ2 241 yJ0_checkBoundsBeginEnd_23922 wsJ0_checkBoundsBeginEnd_23922) := goodIn_app (gi_q gd_wsJ2_checkBoundsBeginEnd_d044e _ [(5, 3)] rfl) ggJ2_checkBoundsBeginEnd_d044e_J0_checkBoundsBeginEnd_23922
theorem dJ2_checkBoundsBeginEnd_d044e_0 : decode cJ2_checkBoundsBeginEnd_d044e 0 = .ok (.iload_n 0, 1) := dkT (by decide +kernel)
theorem dJ2_checkBoundsBeginEnd_d044e_1 : decode cJ2_checkBoundsBeginEnd_d044e 1 = .ok (.iload_n 1, 1) := dkT (by decide +kernel)
theorem dJ2_checkBoundsBeginEnd_d044e_2 : decode cJ2_checkBoundsBeginEnd_d044e 2 = .ok (.aload_n 2, 1) := dkT (by decide +kernel)
theorem dJ2_checkBoundsBeginEnd_d044e_3 : decode cJ2_checkBoundsBeginEnd_d044e 3 = .ok (.invokestatic 48, 3) := dkT (by decide +kernel)
theorem dJ2_checkBoundsBeginEnd_d044e_6 : decode cJ2_checkBoundsBeginEnd_d044e 6 = .ok (.invokestatic 241, 3) := dkT (by decide +kernel)
theorem dJ2_checkBoundsBeginEnd_d044e_9 : decode cJ2_checkBoundsBeginEnd_d044e 9 = .ok (.return_, 1) := dkT (by decide +kernel)
theorem gd_wsJ2_checkBoundsOffCount_d044e : wsJ2_checkBoundsOffCount_d044e.all goodWord = true := by decide +kernel
set_option maxRecDepth 20000 in
theorem ggJ2_checkBoundsOffCount_d044e_J2_length_9d52b : GoodIn wsJ2_checkBoundsOffCount_d044e wsJ2_length_9d52b := gi_q gd_wsJ2_checkBoundsOffCount_d044e _ [(4, 1)] rfl
set_option maxRecDepth 20000 in
theorem gJ2_checkBoundsOffCount_d044e_J2_length_9d52b : GoodIn wsJ2_checkBoundsOffCount_d044e (va_wsS RJ2 48 yJ2_length_9d52b wsJ2_length_9d52b) := goodIn_app (gi_q gd_wsJ2_checkBoundsOffCount_d044e _ [(1, 3)] rfl) ggJ2_checkBoundsOffCount_d044e_J2_length_9d52b
set_option maxRecDepth 20000 in
theorem ggJ2_checkBoundsOffCount_d044e_J0_checkBoundsOffCount_cabcc : GoodIn wsJ2_checkBoundsOffCount_d044e wsJ0_checkBoundsOffCount_cabcc := gi_q gd_wsJ2_checkBoundsOffCount_d044e _ [(8, 6)] rfl
set_option maxRecDepth 20000 in
theorem gJ2_checkBoundsOffCount_d044e_J0_checkBoundsOffCount_cabcc : GoodIn wsJ2_checkBoundsOffCount_d044e (va_wsS RJ2 419 yJ0_checkBoundsOffCount_cabcc wsJ0_checkBoundsOffCount_cabcc) := goodIn_app (gi_q gd_wsJ2_checkBoundsOffCount_d044e _ [(5, 3)] rfl) ggJ2_checkBoundsOffCount_d044e_J0_checkBoundsOffCount_cabcc
theorem dJ2_checkBoundsOffCount_d044e_0 : decode cJ2_checkBoundsOffCount_d044e 0 = .ok (.iload_n 0, 1) := dkT (by decide +kernel)
theorem dJ2_checkBoundsOffCount_d044e_1 : decode cJ2_checkBoundsOffCount_d044e 1 = .ok (.iload_n 1, 1) := dkT (by decide +kernel)
theorem dJ2_checkBoundsOffCount_d044e_2 : decode cJ2_checkBoundsOffCount_d044e 2 = .ok (.aload_n 2, 1) := dkT (by decide +kernel)
theorem dJ2_checkBoundsOffCount_d044e_3 : decode cJ2_checkBoundsOffCount_d044e 3 = .ok (.invokestatic 48, 3) := dkT (by decide +kernel)
theorem dJ2_checkBoundsOffCount_d044e_6 : decode cJ2_checkBoundsOffCount_d044e 6 = .ok (.invokestatic 419, 3) := dkT (by decide +kernel)
theorem dJ2_checkBoundsOffCount_d044e_9 : decode cJ2_checkBoundsOffCount_d044e 9 = .ok (.pop, 1) := dkT (by decide +kernel)
theorem dJ2_checkBoundsOffCount_d044e_10 : decode cJ2_checkBoundsOffCount_d044e 10 = .ok (.return_, 1) := dkT (by decide +kernel)
theorem dJxa1e45_init_da8c8_0 : decode cJxa1e45_init_da8c8 0 = .ok (.aload_n 0, 1) := dkT (by decide +kernel)
theorem dJxa1e45_init_da8c8_1 : decode cJxa1e45_init_da8c8 1 = .ok (.invokespecial 1, 3) := dkT (by decide +kernel)
theorem dJxa1e45_init_da8c8_4 : decode cJxa1e45_init_da8c8 4 = .ok (.return_, 1) := dkT (by decide +kernel)
theorem gd_wsJxc12de_init_da8c8 : wsJxc12de_init_da8c8.all goodWord = true := by decide +kernel
set_option maxRecDepth 20000 in
theorem ggJxc12de_init_da8c8_Jxa1e45_init_da8c8 : GoodIn wsJxc12de_init_da8c8 wsJxa1e45_init_da8c8 := gi_q gd_wsJxc12de_init_da8c8 _ [(5, 4)] rfl
set_option maxRecDepth 20000 in
theorem gJxc12de_init_da8c8_Jxa1e45_init_da8c8 : GoodIn wsJxc12de_init_da8c8 (wsJxa1e45_init_da8c8) := ggJxc12de_init_da8c8_Jxa1e45_init_da8c8
theorem dJxc12de_init_da8c8_0 : decode cJxc12de_init_da8c8 0 = .ok (.aload_n 0, 1) := dkT (by decide +kernel)
theorem dJxc12de_init_da8c8_1 : decode cJxc12de_init_da8c8 1 = .ok (.invokespecial 1, 3) := dkT (by decide +kernel)
theorem dJxc12de_init_da8c8_4 : decode cJxc12de_init_da8c8 4 = .ok (.aload_n 0, 1) := dkT (by decide +kernel)
theorem dJxc12de_init_da8c8_5 : decode cJxc12de_init_da8c8 5 = .ok (.iconst 0, 1) := dkT (by decide +kernel)
theorem dJxc12de_init_da8c8_6 : decode cJxc12de_init_da8c8 6 = .ok (.putfield 7, 3) := dkT (by decide +kernel)
theorem dJxc12de_init_da8c8_9 : decode cJxc12de_init_da8c8 9 = .ok (.return_, 1) := dkT (by decide +kernel)
def zT_cJx35411_init_45d68 : List (List Nat) := [[42, 43, 181, 0, 1, 42, 183, 0, 7, 42, 2, 181, 0, 13, 42, 42, 180, 0, 1, 180, 0, 17, 181, 0, 22, 177]]
theorem zE_cJx35411_init_45d68 : zTab cJx35411_init_45d68.data.toList zT_cJx35411_init_45d68 = true := by decide +kernel
theorem dJx35411_init_45d68_0 : decode cJx35411_init_45d68 0 = .ok (.aload_n 0, 1) := dz_aload_n_0 (y0 zE_cJx35411_init_45d68 0 0 (by decide +kernel))
theorem dJx35411_init_45d68_1 : decode cJx35411_init_45d68 1 = .ok (.aload_n 1, 1) := dz_aload_n_1 (y0 zE_cJx35411_init_45d68 0 1 (by decide +kernel))
theorem dJx35411_init_45d68_2 : decode cJx35411_init_45d68 2 = .ok (.putfield 1, 3) := dz_putfield (yu2 zE_cJx35411_init_45d68 0 2 (by decide +kernel))
theorem dJx35411_init_45d68_5 : decode cJx35411_init_45d68 5 = .ok (.aload_n 0, 1) := dz_aload_n_0 (y0 zE_cJx35411_init_45d68 0 5 (by decide +kernel))
theorem dJx35411_init_45d68_6 : decode cJx35411_init_45d68 6 = .ok (.invokespecial 7, 3) := dz_invokespecial (yu2 zE_cJx35411_init_45d68 0 6 (by decide +kernel))
theorem dJx35411_init_45d68_9 : decode cJx35411_init_45d68 9 = .ok (.aload_n 0, 1) := dz_aload_n_0 (y0 zE_cJx35411_init_45d68 0 9 (by decide +kernel))
theorem dJx35411_init_45d68_10 : decode cJx35411_init_45d68 10 = .ok (.iconst (-1), 1) := dz_iconst_m1 (y0 zE_cJx35411_init_45d68 0 10 (by decide +kernel))
theorem dJx35411_init_45d68_11 : decode cJx35411_init_45d68 11 = .ok (.putfield 13, 3) := dz_putfield (yu2 zE_cJx35411_init_45d68 0 11 (by decide +kernel))
theorem dJx35411_init_45d68_14 : decode cJx35411_init_45d68 14 = .ok (.aload_n 0, 1) := dz_aload_n_0 (y0 zE_cJx35411_init_45d68 0 14 (by decide +kernel))
theorem dJx35411_init_45d68_15 : decode cJx35411_init_45d68 15 = .ok (.aload_n 0, 1) := dz_aload_n_0 (y0 zE_cJx35411_init_45d68 0 15 (by decide +kernel))
theorem dJx35411_init_45d68_16 : decode cJx35411_init_45d68 16 = .ok (.getfield 1, 3) := dz_getfield (yu2 zE_cJx35411_init_45d68 0 16 (by decide +kernel))
theorem dJx35411_init_45d68_19 : decode cJx35411_init_45d68 19 = .ok (.getfield 17, 3) := dz_getfield (yu2 zE_cJx35411_init_45d68 0 19 (by decide +kernel))
theorem dJx35411_init_45d68_22 : decode cJx35411_init_45d68 22 = .ok (.putfield 22, 3) := dz_putfield (yu2 zE_cJx35411_init_45d68 0 22 (by decide +kernel))
theorem dJx35411_init_45d68_25 : decode cJx35411_init_45d68 25 = .ok (.return_, 1) := dz_return (y0 zE_cJx35411_init_45d68 0 25 (by decide +kernel))
theorem dJx35411_hasNext_aae02_0 : decode cJx35411_hasNext_aae02 0 = .ok (.aload_n 0, 1) := dkT (by decide +kernel)
theorem dJx35411_hasNext_aae02_1 : decode cJx35411_hasNext_aae02 1 = .ok (.getfield 25, 3) := dkT (by decide +kernel)
theorem dJx35411_hasNext_aae02_4 : decode cJx35411_hasNext_aae02 4 = .ok (.aload_n 0, 1) := dkT (by decide +kernel)
theorem dJx35411_hasNext_aae02_5 : decode cJx35411_hasNext_aae02 5 = .ok (.getfield 1, 3) := dkT (by decide +kernel)
theorem dJx35411_hasNext_aae02_8 : decode cJx35411_hasNext_aae02 8 = .ok (.getfield 28, 3) := dkT (by decide +kernel)
theorem dJx35411_hasNext_aae02_11 : decode cJx35411_hasNext_aae02 11 = .ok (.if_icmp .eq 7, 3) := dkT (by decide +kernel)
theorem dJx35411_hasNext_aae02_14 : decode cJx35411_hasNext_aae02 14 = .ok (.iconst 1, 1) := dkT (by decide +kernel)
theorem dJx35411_hasNext_aae02_15 : decode cJx35411_hasNext_aae02 15 = .ok (.goto 4, 3) := dkT (by decide +kernel)
theorem dJx35411_hasNext_aae02_18 : decode cJx35411_hasNext_aae02 18 = .ok (.iconst 0, 1) := dkT (by decide +kernel)
theorem dJx35411_hasNext_aae02_19 : decode cJx35411_hasNext_aae02 19 = .ok (.ireturn, 1) := dkT (by decide +kernel)
theorem gd_wsJx35411_next_0502b : wsJx35411_next_0502b.all goodWord = true := by decide +kernel
set_option maxRecDepth 20000 in
theorem ggJx35411_next_0502b_Jx35411_checkForComodification_da8c8 : GoodIn wsJx35411_next_0502b wsJx35411_checkForComodification_da8c8 := gi_q gd_wsJx35411_next_0502b _ [(9, 1), (2, 1), (10, 10)] rfl
set_option maxRecDepth 20000 in
theorem gJx35411_next_0502b_Jx35411_checkForComodification_da8c8 : GoodIn wsJx35411_next_0502b (wsV RJx35411 31 RJx35411 yJx35411_checkForComodification_da8c8 wsJx35411_checkForComodification_da8c8) := goodIn_app (gi_q gd_wsJx35411_next_0502b _ [(5, 4)] rfl) ggJx35411_next_0502b_Jx35411_checkForComodification_da8c8
def zT_cJx35411_next_0502b : List (List Nat) := [[42, 182, 0, 31, 42, 180, 0, 25, 60, 27, 42, 180, 0, 1, 180, 0, 28, 161, 0, 11, 187, 0, 34, 89, 183, 0, 36, 191, 42, 180, 0, 1, 180, 0, 37, 77, 27, 44, 190, 161, 0, 11, 187, 0, 41, 89, 183, 0, 43, 191, 42, 27, 4, 96, 181, 0, 25, 44, 42, 27, 90, 181, 0, 13, 50, 176], [50, 176]]
theorem zE_cJx35411_next_0502b : zTab cJx35411_next_0502b.data.toList zT_cJx35411_next_0502b = true := by decide +kernel
theorem dJx35411_next_0502b_0 : decode cJx35411_next_0502b 0 = .ok (.aload_n 0, 1) := dz_aload_n_0 (y0 zE_cJx35411_next_0502b 0 0 (by decide +kernel))
theorem dJx35411_next_0502b_1 : decode cJx35411_next_0502b 1 = .ok (.invokevirtual 31, 3) := dz_invokevirtual (yu2 zE_cJx35411_next_0502b 0 1 (by decide +kernel))
theorem dJx35411_next_0502b_4 : decode cJx35411_next_0502b 4 = .ok (.aload_n 0, 1) := dz_aload_n_0 (y0 zE_cJx35411_next_0502b 0 4 (by decide +kernel))
theorem dJx35411_next_0502b_5 : decode cJx35411_next_0502b 5 = .ok (.getfield 25, 3) := dz_getfield (yu2 zE_cJx35411_next_0502b 0 5 (by decide +kernel))
theorem dJx35411_next_0502b_8 : decode cJx35411_next_0502b 8 = .ok (.istore_n 1, 1) := dz_istore_n_1 (y0 zE_cJx35411_next_0502b 0 8 (by decide +kernel))
theorem dJx35411_next_0502b_9 : decode cJx35411_next_0502b 9 = .ok (.iload_n 1, 1) := dz_iload_n_1 (y0 zE_cJx35411_next_0502b 0 9 (by decide +kernel))
theorem dJx35411_next_0502b_10 : decode cJx35411_next_0502b 10 = .ok (.aload_n 0, 1) := dz_aload_n_0 (y0 zE_cJx35411_next_0502b 0 10 (by decide +kernel))
theorem dJx35411_next_0502b_11 : decode cJx35411_next_0502b 11 = .ok (.getfield 1, 3) := dz_getfield (yu2 zE_cJx35411_next_0502b 0 11 (by decide +kernel))
theorem dJx35411_next_0502b_14 : decode cJx35411_next_0502b 14 = .ok (.getfield 28, 3) := dz_getfield (yu2 zE_cJx35411_next_0502b 0 14 (by decide +kernel))
theorem dJx35411_next_0502b_17 : decode cJx35411_next_0502b 17 = .ok (.if_icmp .lt 11, 3) := dz_if_icmp_lt (ys2 zE_cJx35411_next_0502b 0 17 (by decide +kernel))
theorem dJx35411_next_0502b_20 : decode cJx35411_next_0502b 20 = .ok (.new 34, 3) := dz_new (yu2 zE_cJx35411_next_0502b 0 20 (by decide +kernel))
theorem dJx35411_next_0502b_23 : decode cJx35411_next_0502b 23 = .ok (.dup, 1) := dz_dup (y0 zE_cJx35411_next_0502b 0 23 (by decide +kernel))
theorem dJx35411_next_0502b_24 : decode cJx35411_next_0502b 24 = .ok (.invokespecial 36, 3) := dz_invokespecial (yu2 zE_cJx35411_next_0502b 0 24 (by decide +kernel))
theorem dJx35411_next_0502b_27 : decode cJx35411_next_0502b 27 = .ok (.athrow, 1) := dz_athrow (y0 zE_cJx35411_next_0502b 0 27 (by decide +kernel))
theorem dJx35411_next_0502b_28 : decode cJx35411_next_0502b 28 = .ok (.aload_n 0, 1) := dz_aload_n_0 (y0 zE_cJx35411_next_0502b 0 28 (by decide +kernel))
theorem dJx35411_next_0502b_29 : decode cJx35411_next_0502b 29 = .ok (.getfield 1, 3) := dz_getfield (yu2 zE_cJx35411_next_0502b 0 29 (by decide +kernel))
theorem dJx35411_next_0502b_32 : decode cJx35411_next_0502b 32 = .ok (.getfield 37, 3) := dz_getfield (yu2 zE_cJx35411_next_0502b 0 32 (by decide +kernel))
theorem dJx35411_next_0502b_35 : decode cJx35411_next_0502b 35 = .ok (.astore_n 2, 1) := dz_astore_n_2 (y0 zE_cJx35411_next_0502b 0 35 (by decide +kernel))
theorem dJx35411_next_0502b_36 : decode cJx35411_next_0502b 36 = .ok (.iload_n 1, 1) := dz_iload_n_1 (y0 zE_cJx35411_next_0502b 0 36 (by decide +kernel))
theorem dJx35411_next_0502b_37 : decode cJx35411_next_0502b 37 = .ok (.aload_n 2, 1) := dz_aload_n_2 (y0 zE_cJx35411_next_0502b 0 37 (by decide +kernel))
theorem dJx35411_next_0502b_38 : decode cJx35411_next_0502b 38 = .ok (.arraylength, 1) := dz_arraylength (y0 zE_cJx35411_next_0502b 0 38 (by decide +kernel))
theorem dJx35411_next_0502b_39 : decode cJx35411_next_0502b 39 = .ok (.if_icmp .lt 11, 3) := dz_if_icmp_lt (ys2 zE_cJx35411_next_0502b 0 39 (by decide +kernel))
theorem dJx35411_next_0502b_42 : decode cJx35411_next_0502b 42 = .ok (.new 41, 3) := dz_new (yu2 zE_cJx35411_next_0502b 0 42 (by decide +kernel))
theorem dJx35411_next_0502b_45 : decode cJx35411_next_0502b 45 = .ok (.dup, 1) := dz_dup (y0 zE_cJx35411_next_0502b 0 45 (by decide +kernel))
theorem dJx35411_next_0502b_46 : decode cJx35411_next_0502b 46 = .ok (.invokespecial 43, 3) := dz_invokespecial (yu2 zE_cJx35411_next_0502b 0 46 (by decide +kernel))
theorem dJx35411_next_0502b_49 : decode cJx35411_next_0502b 49 = .ok (.athrow, 1) := dz_athrow (y0 zE_cJx35411_next_0502b 0 49 (by decide +kernel))
theorem dJx35411_next_0502b_50 : decode cJx35411_next_0502b 50 = .ok (.aload_n 0, 1) := dz_aload_n_0 (y0 zE_cJx35411_next_0502b 0 50 (by decide +kernel))
theorem dJx35411_next_0502b_51 : decode cJx35411_next_0502b 51 = .ok (.iload_n 1, 1) := dz_iload_n_1 (y0 zE_cJx35411_next_0502b 0 51 (by decide +kernel))
theorem dJx35411_next_0502b_52 : decode cJx35411_next_0502b 52 = .ok (.iconst 1, 1) := dz_iconst_1 (y0 zE_cJx35411_next_0502b 0 52 (by decide +kernel))
theorem dJx35411_next_0502b_53 : decode cJx35411_next_0502b 53 = .ok (.iadd, 1) := dz_iadd (y0 zE_cJx35411_next_0502b 0 53 (by decide +kernel))
theorem dJx35411_next_0502b_54 : decode cJx35411_next_0502b 54 = .ok (.putfield 25, 3) := dz_putfield (yu2 zE_cJx35411_next_0502b 0 54 (by decide +kernel))
theorem dJx35411_next_0502b_57 : decode cJx35411_next_0502b 57 = .ok (.aload_n 2, 1) := dz_aload_n_2 (y0 zE_cJx35411_next_0502b 0 57 (by decide +kernel))
theorem dJx35411_next_0502b_58 : decode cJx35411_next_0502b 58 = .ok (.aload_n 0, 1) := dz_aload_n_0 (y0 zE_cJx35411_next_0502b 0 58 (by decide +kernel))
theorem dJx35411_next_0502b_59 : decode cJx35411_next_0502b 59 = .ok (.iload_n 1, 1) := dz_iload_n_1 (y0 zE_cJx35411_next_0502b 0 59 (by decide +kernel))
theorem dJx35411_next_0502b_60 : decode cJx35411_next_0502b 60 = .ok (.dup_x1, 1) := dz_dup_x1 (y0 zE_cJx35411_next_0502b 0 60 (by decide +kernel))
theorem dJx35411_next_0502b_61 : decode cJx35411_next_0502b 61 = .ok (.putfield 13, 3) := dz_putfield (yu2 zE_cJx35411_next_0502b 0 61 (by decide +kernel))
theorem dJx35411_next_0502b_64 : decode cJx35411_next_0502b 64 = .ok (.aaload, 1) := dz_aaload (y0 zE_cJx35411_next_0502b 1 0 (by decide +kernel))
theorem dJx35411_next_0502b_65 : decode cJx35411_next_0502b 65 = .ok (.areturn, 1) := dz_areturn (y0 zE_cJx35411_next_0502b 1 1 (by decide +kernel))
theorem dJx35411_checkForComodification_da8c8_0 : decode cJx35411_checkForComodification_da8c8 0 = .ok (.aload_n 0, 1) := dkT (by decide +kernel)
theorem dJx35411_checkForComodification_da8c8_1 : decode cJx35411_checkForComodification_da8c8 1 = .ok (.getfield 1, 3) := dkT (by decide +kernel)
theorem dJx35411_checkForComodification_da8c8_4 : decode cJx35411_checkForComodification_da8c8 4 = .ok (.getfield 17, 3) := dkT (by decide +kernel)
theorem dJx35411_checkForComodification_da8c8_7 : decode cJx35411_checkForComodification_da8c8 7 = .ok (.aload_n 0, 1) := dkT (by decide +kernel)
theorem dJx35411_checkForComodification_da8c8_8 : decode cJx35411_checkForComodification_da8c8 8 = .ok (.getfield 22, 3) := dkT (by decide +kernel)
theorem dJx35411_checkForComodification_da8c8_11 : decode cJx35411_checkForComodification_da8c8 11 = .ok (.if_icmp .eq 11, 3) := dkT (by decide +kernel)
theorem dJx35411_checkForComodification_da8c8_14 : decode cJx35411_checkForComodification_da8c8 14 = .ok (.new 41, 3) := dkT (by decide +kernel)
theorem dJx35411_checkForComodification_da8c8_17 : decode cJx35411_checkForComodification_da8c8 17 = .ok (.dup, 1) := dkT (by decide +kernel)
theorem dJx35411_checkForComodification_da8c8_18 : decode cJx35411_checkForComodification_da8c8 18 = .ok (.invokespecial 43, 3) := dkT (by decide +kernel)
theorem dJx35411_checkForComodification_da8c8_21 : decode cJx35411_checkForComodification_da8c8 21 = .ok (.athrow, 1) := dkT (by decide +kernel)
theorem dJx35411_checkForComodification_da8c8_22 : decode cJx35411_checkForComodification_da8c8 22 = .ok (.return_, 1) := dkT (by decide +kernel)
theorem gd_wsJx4a65c_init_da8c8 : wsJx4a65c_init_da8c8.all goodWord = true := by decide +kernel
set_option maxRecDepth 20000 in
theorem ggJx4a65c_init_da8c8_Jxc12de_init_da8c8 : GoodIn wsJx4a65c_init_da8c8 wsJxc12de_init_da8c8 := gi_q gd_wsJx4a65c_init_da8c8 _ [(6, 12)] rfl
set_option maxRecDepth 20000 in
theorem gJx4a65c_init_da8c8_Jxc12de_init_da8c8 : GoodIn wsJx4a65c_init_da8c8 (wsJxc12de_init_da8c8) := ggJx4a65c_init_da8c8_Jxc12de_init_da8c8
theorem dJx4a65c_init_da8c8_0 : decode cJx4a65c_init_da8c8 0 = .ok (.aload_n 0, 1) := dkT (by decide +kernel)
theorem dJx4a65c_init_da8c8_1 : decode cJx4a65c_init_da8c8 1 = .ok (.invokespecial 1, 3) := dkT (by decide +kernel)
theorem dJx4a65c_init_da8c8_4 : decode cJx4a65c_init_da8c8 4 = .ok (.aload_n 0, 1) := dkT (by decide +kernel)
theorem dJx4a65c_init_da8c8_5 : decode cJx4a65c_init_da8c8 5 = .ok (.getstatic 39, 3) := dkT (by decide +kernel)
theorem dJx4a65c_init_da8c8_8 : decode cJx4a65c_init_da8c8 8 = .ok (.putfield 9, 3) := dkT (by decide +kernel)
theorem dJx4a65c_init_da8c8_11 : decode cJx4a65c_init_da8c8 11 = .ok (.return_, 1) := dkT (by decide +kernel)
theorem gd_wsJx4a65c_grow_92f84 : wsJx4a65c_grow_92f84.all goodWord = true := by decide +kernel
set_option maxRecDepth 20000 in
theorem ggJx4a65c_grow_92f84_J8_newLength_cabcc : GoodIn wsJx4a65c_grow_92f84 wsJ8_newLength_cabcc := gi_q gd_wsJx4a65c_grow_92f84 _ [(11, 2), (4, 3), (13, 3), (10, 1), (16, 1)] rfl
set_option maxRecDepth 20000 in
theorem gJx4a65c_grow_92f84_J8_newLength_cabcc : GoodIn wsJx4a65c_grow_92f84 (va_wsS RJx4a65c 73 yJ8_newLength_cabcc wsJ8_newLength_cabcc) := goodIn_app (gi_q gd_wsJx4a65c_grow_92f84 _ [(8, 3)] rfl) ggJx4a65c_grow_92f84_J8_newLength_cabcc
set_option maxRecDepth 20000 in
theorem ggJx4a65c_grow_92f84_J7_copyOf_1904c : GoodIn wsJx4a65c_grow_92f84 wsJ7_copyOf_1904c := gi_q gd_wsJx4a65c_grow_92f84 _ [(20, 7), (19, 1), (27, 5), (5, 1), (32, 5)] rfl
set_option maxRecDepth 20000 in
theorem gJx4a65c_grow_92f84_J7_copyOf_1904c : GoodIn wsJx4a65c_grow_92f84 (va_wsS RJx4a65c 66 yJ7_copyOf_1904c wsJ7_copyOf_1904c) := goodIn_app (gi_q gd_wsJx4a65c_grow_92f84 _ [(17, 3)] rfl) ggJx4a65c_grow_92f84_J7_copyOf_1904c
def zT_cJx4a65c_grow_92f84 : List (List Nat) := [[42, 180, 0, 9, 190, 61, 28, 157, 0, 13, 42, 180, 0, 9, 178, 0, 39, 165, 0, 28, 28, 27, 28, 100, 28, 4, 122, 184, 0, 73, 62, 42, 42, 180, 0, 9, 29, 184, 0, 66, 90, 181, 0, 9, 176, 42, 16, 10, 27, 184, 0, 79, 189, 0, 7, 90, 181, 0, 9, 176]]
theorem zE_cJx4a65c_grow_92f84 : zTab cJx4a65c_grow_92f84.data.toList zT_cJx4a65c_grow_92f84 = true := by decide +kernel
theorem dJx4a65c_grow_92f84_0 : decode cJx4a65c_grow_92f84 0 = .ok (.aload_n 0, 1) := dz_aload_n_0 (y0 zE_cJx4a65c_grow_92f84 0 0 (by decide +kernel))
theorem dJx4a65c_grow_92f84_1 : decode cJx4a65c_grow_92f84 1 = .ok (.getfield 9, 3) := dz_getfield (yu2 zE_cJx4a65c_grow_92f84 0 1 (by decide +kernel))
theorem dJx4a65c_grow_92f84_4 : decode cJx4a65c_grow_92f84 4 = .ok (.arraylength, 1) := dz_arraylength (y0 zE_cJx4a65c_grow_92f84 0 4 (by decide +kernel))
theorem dJx4a65c_grow_92f84_5 : decode cJx4a65c_grow_92f84 5 = .ok (.istore_n 2, 1) := dz_istore_n_2 (y0 zE_cJx4a65c_grow_92f84 0 5 (by decide +kernel))
theorem dJx4a65c_grow_92f84_6 : decode cJx4a65c_grow_92f84 6 = .ok (.iload_n 2, 1) := dz_iload_n_2 (y0 zE_cJx4a65c_grow_92f84 0 6 (by decide +kernel))
theorem dJx4a65c_grow_92f84_7 : decode cJx4a65c_grow_92f84 7 = .ok (.ifCond .gt 13, 3) := dz_ifCond_gt (ys2 zE_cJx4a65c_grow_92f84 0 7 (by decide +kernel))
theorem dJx4a65c_grow_92f84_10 : decode cJx4a65c_grow_92f84 10 = .ok (.aload_n 0, 1) := dz_aload_n_0 (y0 zE_cJx4a65c_grow_92f84 0 10 (by decide +kernel))
theorem dJx4a65c_grow_92f84_11 : decode cJx4a65c_grow_92f84 11 = .ok (.getfield 9, 3) := dz_getfield (yu2 zE_cJx4a65c_grow_92f84 0 11 (by decide +kernel))
theorem dJx4a65c_grow_92f84_14 : decode cJx4a65c_grow_92f84 14 = .ok (.getstatic 39, 3) := dz_getstatic (yu2 zE_cJx4a65c_grow_92f84 0 14 (by decide +kernel))
theorem dJx4a65c_grow_92f84_17 : decode cJx4a65c_grow_92f84 17 = .ok (.if_acmp .eq 28, 3) := dz_if_acmp_eq (ys2 zE_cJx4a65c_grow_92f84 0 17 (by decide +kernel))
theorem dJx4a65c_grow_92f84_20 : decode cJx4a65c_grow_92f84 20 = .ok (.iload_n 2, 1) := dz_iload_n_2 (y0 zE_cJx4a65c_grow_92f84 0 20 (by decide +kernel))
theorem dJx4a65c_grow_92f84_21 : decode cJx4a65c_grow_92f84 21 = .ok (.iload_n 1, 1) := dz_iload_n_1 (y0 zE_cJx4a65c_grow_92f84 0 21 (by decide +kernel))
theorem dJx4a65c_grow_92f84_22 : decode cJx4a65c_grow_92f84 22 = .ok (.iload_n 2, 1) := dz_iload_n_2 (y0 zE_cJx4a65c_grow_92f84 0 22 (by decide +kernel))
theorem dJx4a65c_grow_92f84_23 : decode cJx4a65c_grow_92f84 23 = .ok (.isub, 1) := dz_isub (y0 zE_cJx4a65c_grow_92f84 0 23 (by decide +kernel))
theorem dJx4a65c_grow_92f84_24 : decode cJx4a65c_grow_92f84 24 = .ok (.iload_n 2, 1) := dz_iload_n_2 (y0 zE_cJx4a65c_grow_92f84 0 24 (by decide +kernel))
theorem dJx4a65c_grow_92f84_25 : decode cJx4a65c_grow_92f84 25 = .ok (.iconst 1, 1) := dz_iconst_1 (y0 zE_cJx4a65c_grow_92f84 0 25 (by decide +kernel))
theorem dJx4a65c_grow_92f84_26 : decode cJx4a65c_grow_92f84 26 = .ok (.ishr, 1) := dz_ishr (y0 zE_cJx4a65c_grow_92f84 0 26 (by decide +kernel))
theorem dJx4a65c_grow_92f84_27 : decode cJx4a65c_grow_92f84 27 = .ok (.invokestatic 73, 3) := dz_invokestatic (yu2 zE_cJx4a65c_grow_92f84 0 27 (by decide +kernel))
theorem dJx4a65c_grow_92f84_30 : decode cJx4a65c_grow_92f84 30 = .ok (.istore_n 3, 1) := dz_istore_n_3 (y0 zE_cJx4a65c_grow_92f84 0 30 (by decide +kernel))
theorem dJx4a65c_grow_92f84_31 : decode cJx4a65c_grow_92f84 31 = .ok (.aload_n 0, 1) := dz_aload_n_0 (y0 zE_cJx4a65c_grow_92f84 0 31 (by decide +kernel))
theorem dJx4a65c_grow_92f84_32 : decode cJx4a65c_grow_92f84 32 = .ok (.aload_n 0, 1) := dz_aload_n_0 (y0 zE_cJx4a65c_grow_92f84 0 32 (by decide +kernel))
theorem dJx4a65c_grow_92f84_33 : decode cJx4a65c_grow_92f84 33 = .ok (.getfield 9, 3) := dz_getfield (yu2 zE_cJx4a65c_grow_92f84 0 33 (by decide +kernel))
theorem dJx4a65c_grow_92f84_36 : decode cJx4a65c_grow_92f84 36 = .ok (.iload_n 3, 1) := dz_iload_n_3 (y0 zE_cJx4a65c_grow_92f84 0 36 (by decide +kernel))
theorem dJx4a65c_grow_92f84_37 : decode cJx4a65c_grow_92f84 37 = .ok (.invokestatic 66, 3) := dz_invokestatic (yu2 zE_cJx4a65c_grow_92f84 0 37 (by decide +kernel))
theorem dJx4a65c_grow_92f84_40 : decode cJx4a65c_grow_92f84 40 = .ok (.dup_x1, 1) := dz_dup_x1 (y0 zE_cJx4a65c_grow_92f84 0 40 (by decide +kernel))
theorem dJx4a65c_grow_92f84_41 : decode cJx4a65c_grow_92f84 41 = .ok (.putfield 9, 3) := dz_putfield (yu2 zE_cJx4a65c_grow_92f84 0 41 (by decide +kernel))
theorem dJx4a65c_grow_92f84_44 : decode cJx4a65c_grow_92f84 44 = .ok (.areturn, 1) := dz_areturn (y0 zE_cJx4a65c_grow_92f84 0 44 (by decide +kernel))
theorem dJx4a65c_grow_92f84_45 : decode cJx4a65c_grow_92f84 45 = .ok (.aload_n 0, 1) := dz_aload_n_0 (y0 zE_cJx4a65c_grow_92f84 0 45 (by decide +kernel))
theorem dJx4a65c_grow_92f84_46 : decode cJx4a65c_grow_92f84 46 = .ok (.bipush 10, 2) := dz_bipush (ys1 zE_cJx4a65c_grow_92f84 0 46 (by decide +kernel))
theorem dJx4a65c_grow_92f84_48 : decode cJx4a65c_grow_92f84 48 = .ok (.iload_n 1, 1) := dz_iload_n_1 (y0 zE_cJx4a65c_grow_92f84 0 48 (by decide +kernel))
theorem dJx4a65c_grow_92f84_49 : decode cJx4a65c_grow_92f84 49 = .ok (.invokestatic 79, 3) := dz_invokestatic (yu2 zE_cJx4a65c_grow_92f84 0 49 (by decide +kernel))
theorem dJx4a65c_grow_92f84_52 : decode cJx4a65c_grow_92f84 52 = .ok (.anewarray 7, 3) := dz_anewarray (yu2 zE_cJx4a65c_grow_92f84 0 52 (by decide +kernel))
theorem dJx4a65c_grow_92f84_55 : decode cJx4a65c_grow_92f84 55 = .ok (.dup_x1, 1) := dz_dup_x1 (y0 zE_cJx4a65c_grow_92f84 0 55 (by decide +kernel))
theorem dJx4a65c_grow_92f84_56 : decode cJx4a65c_grow_92f84 56 = .ok (.putfield 9, 3) := dz_putfield (yu2 zE_cJx4a65c_grow_92f84 0 56 (by decide +kernel))
theorem dJx4a65c_grow_92f84_59 : decode cJx4a65c_grow_92f84 59 = .ok (.areturn, 1) := dz_areturn (y0 zE_cJx4a65c_grow_92f84 0 59 (by decide +kernel))
theorem gd_wsJx4a65c_grow_d5877 : wsJx4a65c_grow_d5877.all goodWord = true := by decide +kernel
set_option maxRecDepth 20000 in
theorem ggJx4a65c_grow_d5877_Jx4a65c_grow_92f84 : GoodIn wsJx4a65c_grow_d5877 wsJx4a65c_grow_92f84 := gi_q gd_wsJx4a65c_grow_d5877 _ [(6, 40)] rfl
set_option maxRecDepth 20000 in
theorem gJx4a65c_grow_d5877_Jx4a65c_grow_92f84 : GoodIn wsJx4a65c_grow_d5877 (wsV RJx4a65c 69 RJx4a65c yJx4a65c_grow_92f84 wsJx4a65c_grow_92f84) := goodIn_app (gi_q gd_wsJx4a65c_grow_d5877 _ [(2, 4)] rfl) ggJx4a65c_grow_d5877_Jx4a65c_grow_92f84
theorem dJx4a65c_grow_d5877_0 : decode cJx4a65c_grow_d5877 0 = .ok (.aload_n 0, 1) := dkT (by decide +kernel)
theorem dJx4a65c_grow_d5877_1 : decode cJx4a65c_grow_d5877 1 = .ok (.aload_n 0, 1) := dkT (by decide +kernel)
theorem dJx4a65c_grow_d5877_2 : decode cJx4a65c_grow_d5877 2 = .ok (.getfield 48, 3) := dkT (by decide +kernel)
theorem dJx4a65c_grow_d5877_5 : decode cJx4a65c_grow_d5877 5 = .ok (.iconst 1, 1) := dkT (by decide +kernel)
theorem dJx4a65c_grow_d5877_6 : decode cJx4a65c_grow_d5877 6 = .ok (.iadd, 1) := dkT (by decide +kernel)
theorem dJx4a65c_grow_d5877_7 : decode cJx4a65c_grow_d5877 7 = .ok (.invokevirtual 69, 3) := dkT (by decide +kernel)
theorem dJx4a65c_grow_d5877_10 : decode cJx4a65c_grow_d5877 10 = .ok (.areturn, 1) := dkT (by decide +kernel)
theorem dJx4a65c_size_8abf5_0 : decode cJx4a65c_size_8abf5 0 = .ok (.aload_n 0, 1) := dkT (by decide +kernel)
theorem dJx4a65c_size_8abf5_1 : decode cJx4a65c_size_8abf5 1 = .ok (.getfield 48, 3) := dkT (by decide +kernel)
theorem dJx4a65c_size_8abf5_4 : decode cJx4a65c_size_8abf5 4 = .ok (.ireturn, 1) := dkT (by decide +kernel)
theorem dJx4a65c_isEmpty_aae02_0 : decode cJx4a65c_isEmpty_aae02 0 = .ok (.aload_n 0, 1) := dkT (by decide +kernel)
theorem dJx4a65c_isEmpty_aae02_1 : decode cJx4a65c_isEmpty_aae02 1 = .ok (.getfield 48, 3) := dkT (by decide +kernel)
theorem dJx4a65c_isEmpty_aae02_4 : decode cJx4a65c_isEmpty_aae02 4 = .ok (.ifCond .ne 7, 3) := dkT (by decide +kernel)
theorem dJx4a65c_isEmpty_aae02_7 : decode cJx4a65c_isEmpty_aae02 7 = .ok (.iconst 1, 1) := dkT (by decide +kernel)
theorem dJx4a65c_isEmpty_aae02_8 : decode cJx4a65c_isEmpty_aae02 8 = .ok (.goto 4, 3) := dkT (by decide +kernel)
theorem dJx4a65c_isEmpty_aae02_11 : decode cJx4a65c_isEmpty_aae02 11 = .ok (.iconst 0, 1) := dkT (by decide +kernel)
theorem dJx4a65c_isEmpty_aae02_12 : decode cJx4a65c_isEmpty_aae02 12 = .ok (.ireturn, 1) := dkT (by decide +kernel)
theorem dJx4a65c_elementData_915e3_0 : decode cJx4a65c_elementData_915e3 0 = .ok (.aload_n 0, 1) := dkT (by decide +kernel)
theorem dJx4a65c_elementData_915e3_1 : decode cJx4a65c_elementData_915e3 1 = .ok (.getfield 9, 3) := dkT (by decide +kernel)
theorem dJx4a65c_elementData_915e3_4 : decode cJx4a65c_elementData_915e3 4 = .ok (.iload_n 1, 1) := dkT (by decide +kernel)
theorem dJx4a65c_elementData_915e3_5 : decode cJx4a65c_elementData_915e3 5 = .ok (.aaload, 1) := dkT (by decide +kernel)
theorem dJx4a65c_elementData_915e3_6 : decode cJx4a65c_elementData_915e3 6 = .ok (.areturn, 1) := dkT (by decide +kernel)
theorem gd_wsJx4a65c_get_915e3 : wsJx4a65c_get_915e3.all goodWord = true := by decide +kernel
set_option maxRecDepth 20000 in
theorem ggJx4a65c_get_915e3_J15_checkIndex_7cf53 : GoodIn wsJx4a65c_get_915e3 wsJ15_checkIndex_7cf53 := gi_q gd_wsJx4a65c_get_915e3 _ [(5, 5)] rfl
set_option maxRecDepth 20000 in
theorem gJx4a65c_get_915e3_J15_checkIndex_7cf53 : GoodIn wsJx4a65c_get_915e3 (va_wsS RJx4a65c 118 yJ15_checkIndex_7cf53 wsJ15_checkIndex_7cf53) := goodIn_app (gi_q gd_wsJx4a65c_get_915e3 _ [(2, 3)] rfl) ggJx4a65c_get_915e3_J15_checkIndex_7cf53
set_option maxRecDepth 20000 in
theorem ggJx4a65c_get_915e3_Jx4a65c_elementData_915e3 : GoodIn wsJx4a65c_get_915e3 wsJx4a65c_elementData_915e3 := gi_q gd_wsJx4a65c_get_915e3 _ [(14, 5)] rfl
set_option maxRecDepth 20000 in
theorem gJx4a65c_get_915e3_Jx4a65c_elementData_915e3 : GoodIn wsJx4a65c_get_915e3 (wsV RJx4a65c 123 RJx4a65c yJx4a65c_elementData_915e3 wsJx4a65c_elementData_915e3) := goodIn_app (gi_q gd_wsJx4a65c_get_915e3 _ [(10, 4)] rfl) ggJx4a65c_get_915e3_Jx4a65c_elementData_915e3
theorem dJx4a65c_get_915e3_0 : decode cJx4a65c_get_915e3 0 = .ok (.iload_n 1, 1) := dkT (by decide +kernel)
theorem dJx4a65c_get_915e3_1 : decode cJx4a65c_get_915e3 1 = .ok (.aload_n 0, 1) := dkT (by decide +kernel)
theorem dJx4a65c_get_915e3_2 : decode cJx4a65c_get_915e3 2 = .ok (.getfield 48, 3) := dkT (by decide +kernel)
theorem dJx4a65c_get_915e3_5 : decode cJx4a65c_get_915e3 5 = .ok (.invokestatic 118, 3) := dkT (by decide +kernel)
theorem dJx4a65c_get_915e3_8 : decode cJx4a65c_get_915e3 8 = .ok (.pop, 1) := dkT (by decide +kernel)
theorem dJx4a65c_get_915e3_9 : decode cJx4a65c_get_915e3 9 = .ok (.aload_n 0, 1) := dkT (by decide +kernel)
theorem dJx4a65c_get_915e3_10 : decode cJx4a65c_get_915e3 10 = .ok (.iload_n 1, 1) := dkT (by decide +kernel)
theorem dJx4a65c_get_915e3_11 : decode cJx4a65c_get_915e3 11 = .ok (.invokevirtual 123, 3) := dkT (by decide +kernel)
theorem dJx4a65c_get_915e3_14 : decode cJx4a65c_get_915e3 14 = .ok (.areturn, 1) := dkT (by decide +kernel)
theorem gd_wsJx4a65c_add_72be8 : wsJx4a65c_add_72be8.all goodWord = true := by decide +kernel
set_option maxRecDepth 20000 in
theorem ggJx4a65c_add_72be8_Jx4a65c_grow_d5877 : GoodIn wsJx4a65c_add_72be8 wsJx4a65c_grow_d5877 := gi_q gd_wsJx4a65c_add_72be8 _ [(6, 1), (1, 1), (7, 3), (5, 1), (10, 40)] rfl
set_option maxRecDepth 20000 in
theorem gJx4a65c_add_72be8_Jx4a65c_grow_d5877 : GoodIn wsJx4a65c_add_72be8 (wsV RJx4a65c 129 RJx4a65c yJx4a65c_grow_d5877 wsJx4a65c_grow_d5877) := goodIn_app (gi_q gd_wsJx4a65c_add_72be8 _ [(2, 4)] rfl) ggJx4a65c_add_72be8_Jx4a65c_grow_d5877
theorem dJx4a65c_add_72be8_0 : decode cJx4a65c_add_72be8 0 = .ok (.iload_n 3, 1) := dkT (by decide +kernel)
theorem dJx4a65c_add_72be8_1 : decode cJx4a65c_add_72be8 1 = .ok (.aload_n 2, 1) := dkT (by decide +kernel)
theorem dJx4a65c_add_72be8_2 : decode cJx4a65c_add_72be8 2 = .ok (.arraylength, 1) := dkT (by decide +kernel)
theorem dJx4a65c_add_72be8_3 : decode cJx4a65c_add_72be8 3 = .ok (.if_icmp .ne 8, 3) := dkT (by decide +kernel)
theorem dJx4a65c_add_72be8_6 : decode cJx4a65c_add_72be8 6 = .ok (.aload_n 0, 1) := dkT (by decide +kernel)
theorem dJx4a65c_add_72be8_7 : decode cJx4a65c_add_72be8 7 = .ok (.invokevirtual 129, 3) := dkT (by decide +kernel)
theorem dJx4a65c_add_72be8_10 : decode cJx4a65c_add_72be8 10 = .ok (.astore_n 2, 1) := dkT (by decide +kernel)
theorem dJx4a65c_add_72be8_11 : decode cJx4a65c_add_72be8 11 = .ok (.aload_n 2, 1) := dkT (by decide +kernel)
theorem dJx4a65c_add_72be8_12 : decode cJx4a65c_add_72be8 12 = .ok (.iload_n 3, 1) := dkT (by decide +kernel)
theorem dJx4a65c_add_72be8_13 : decode cJx4a65c_add_72be8 13 = .ok (.aload_n 1, 1) := dkT (by decide +kernel)
theorem dJx4a65c_add_72be8_14 : decode cJx4a65c_add_72be8 14 = .ok (.aastore, 1) := dkT (by decide +kernel)
theorem dJx4a65c_add_72be8_15 : decode cJx4a65c_add_72be8 15 = .ok (.aload_n 0, 1) := dkT (by decide +kernel)
theorem dJx4a65c_add_72be8_16 : decode cJx4a65c_add_72be8 16 = .ok (.iload_n 3, 1) := dkT (by decide +kernel)
theorem dJx4a65c_add_72be8_17 : decode cJx4a65c_add_72be8 17 = .ok (.iconst 1, 1) := dkT (by decide +kernel)
theorem dJx4a65c_add_72be8_18 : decode cJx4a65c_add_72be8 18 = .ok (.iadd, 1) := dkT (by decide +kernel)
theorem dJx4a65c_add_72be8_19 : decode cJx4a65c_add_72be8 19 = .ok (.putfield 48, 3) := dkT (by decide +kernel)
theorem dJx4a65c_add_72be8_22 : decode cJx4a65c_add_72be8 22 = .ok (.return_, 1) := dkT (by decide +kernel)
theorem gd_wsJx4a65c_add_9ea2d : wsJx4a65c_add_9ea2d.all goodWord = true := by decide +kernel
set_option maxRecDepth 20000 in
theorem ggJx4a65c_add_9ea2d_Jx4a65c_add_72be8 : GoodIn wsJx4a65c_add_9ea2d wsJx4a65c_add_72be8 := gi_q gd_wsJx4a65c_add_9ea2d _ [(9, 1), (4, 1), (10, 3), (8, 1), (13, 5), (3, 1), (18, 38)] rfl
set_option maxRecDepth 20000 in
theorem gJx4a65c_add_9ea2d_Jx4a65c_add_72be8 : GoodIn wsJx4a65c_add_9ea2d (wsV RJx4a65c 131 RJx4a65c yJx4a65c_add_72be8 wsJx4a65c_add_72be8) := goodIn_app (gi_q gd_wsJx4a65c_add_9ea2d _ [(5, 4)] rfl) ggJx4a65c_add_9ea2d_Jx4a65c_add_72be8
def zT_cJx4a65c_add_9ea2d : List (List Nat) := [[42, 89, 180, 0, 63, 4, 96, 181, 0, 63, 42, 43, 42, 180, 0, 9, 42, 180, 0, 48, 182, 0, 131, 4, 172]]
theorem zE_cJx4a65c_add_9ea2d : zTab cJx4a65c_add_9ea2d.data.toList zT_cJx4a65c_add_9ea2d = true := by decide +kernel
theorem dJx4a65c_add_9ea2d_0 : decode cJx4a65c_add_9ea2d 0 = .ok (.aload_n 0, 1) := dz_aload_n_0 (y0 zE_cJx4a65c_add_9ea2d 0 0 (by decide +kernel))
theorem dJx4a65c_add_9ea2d_1 : decode cJx4a65c_add_9ea2d 1 = .ok (.dup, 1) := dz_dup (y0 zE_cJx4a65c_add_9ea2d 0 1 (by decide +kernel))
theorem dJx4a65c_add_9ea2d_2 : decode cJx4a65c_add_9ea2d 2 = .ok (.getfield 63, 3) := dz_getfield (yu2 zE_cJx4a65c_add_9ea2d 0 2 (by decide +kernel))
theorem dJx4a65c_add_9ea2d_5 : decode cJx4a65c_add_9ea2d 5 = .ok (.iconst 1, 1) := dz_iconst_1 (y0 zE_cJx4a65c_add_9ea2d 0 5 (by decide +kernel))
theorem dJx4a65c_add_9ea2d_6 : decode cJx4a65c_add_9ea2d 6 = .ok (.iadd, 1) := dz_iadd (y0 zE_cJx4a65c_add_9ea2d 0 6 (by decide +kernel))
theorem dJx4a65c_add_9ea2d_7 : decode cJx4a65c_add_9ea2d 7 = .ok (.putfield 63, 3) := dz_putfield (yu2 zE_cJx4a65c_add_9ea2d 0 7 (by decide +kernel))
theorem dJx4a65c_add_9ea2d_10 : decode cJx4a65c_add_9ea2d 10 = .ok (.aload_n 0, 1) := dz_aload_n_0 (y0 zE_cJx4a65c_add_9ea2d 0 10 (by decide +kernel))
theorem dJx4a65c_add_9ea2d_11 : decode cJx4a65c_add_9ea2d 11 = .ok (.aload_n 1, 1) := dz_aload_n_1 (y0 zE_cJx4a65c_add_9ea2d 0 11 (by decide +kernel))
theorem dJx4a65c_add_9ea2d_12 : decode cJx4a65c_add_9ea2d 12 = .ok (.aload_n 0, 1) := dz_aload_n_0 (y0 zE_cJx4a65c_add_9ea2d 0 12 (by decide +kernel))
theorem dJx4a65c_add_9ea2d_13 : decode cJx4a65c_add_9ea2d 13 = .ok (.getfield 9, 3) := dz_getfield (yu2 zE_cJx4a65c_add_9ea2d 0 13 (by decide +kernel))
theorem dJx4a65c_add_9ea2d_16 : decode cJx4a65c_add_9ea2d 16 = .ok (.aload_n 0, 1) := dz_aload_n_0 (y0 zE_cJx4a65c_add_9ea2d 0 16 (by decide +kernel))
theorem dJx4a65c_add_9ea2d_17 : decode cJx4a65c_add_9ea2d 17 = .ok (.getfield 48, 3) := dz_getfield (yu2 zE_cJx4a65c_add_9ea2d 0 17 (by decide +kernel))
theorem dJx4a65c_add_9ea2d_20 : decode cJx4a65c_add_9ea2d 20 = .ok (.invokevirtual 131, 3) := dz_invokevirtual (yu2 zE_cJx4a65c_add_9ea2d 0 20 (by decide +kernel))
theorem dJx4a65c_add_9ea2d_23 : decode cJx4a65c_add_9ea2d 23 = .ok (.iconst 1, 1) := dz_iconst_1 (y0 zE_cJx4a65c_add_9ea2d 0 23 (by decide +kernel))
theorem dJx4a65c_add_9ea2d_24 : decode cJx4a65c_add_9ea2d 24 = .ok (.ireturn, 1) := dz_ireturn (y0 zE_cJx4a65c_add_9ea2d 0 24 (by decide +kernel))
theorem gd_wsJx4a65c_iterator_32c93 : wsJx4a65c_iterator_32c93.all goodWord = true := by decide +kernel
set_option maxRecDepth 20000 in
theorem ggJx4a65c_iterator_32c93_Jx35411_init_45d68 : GoodIn wsJx4a65c_iterator_32c93 wsJx35411_init_45d68 := gi_q gd_wsJx4a65c_iterator_32c93 _ [(6, 16)] rfl
set_option maxRecDepth 20000 in
theorem gJx4a65c_iterator_32c93_Jx35411_init_45d68 : GoodIn wsJx4a65c_iterator_32c93 (wsJx35411_init_45d68) := ggJx4a65c_iterator_32c93_Jx35411_init_45d68
theorem dJx4a65c_iterator_32c93_0 : decode cJx4a65c_iterator_32c93 0 = .ok (.new 267, 3) := dkT (by decide +kernel)
theorem dJx4a65c_iterator_32c93_3 : decode cJx4a65c_iterator_32c93 3 = .ok (.dup, 1) := dkT (by decide +kernel)
theorem dJx4a65c_iterator_32c93_4 : decode cJx4a65c_iterator_32c93 4 = .ok (.aload_n 0, 1) := dkT (by decide +kernel)
theorem dJx4a65c_iterator_32c93_5 : decode cJx4a65c_iterator_32c93 5 = .ok (.invokespecial 269, 3) := dkT (by decide +kernel)
theorem dJx4a65c_iterator_32c93_8 : decode cJx4a65c_iterator_32c93 8 = .ok (.areturn, 1) := dkT (by decide +kernel)
theorem gd_wsJ7_copyOf_1904c : wsJ7_copyOf_1904c.all goodWord = true := by decide +kernel
set_option maxRecDepth 20000 in
theorem ggJ7_copyOf_1904c_J7_copyOf_6403c : GoodIn wsJ7_copyOf_1904c wsJ7_copyOf_6403c := gi_q gd_wsJ7_copyOf_1904c _ [(8, 11)] rfl
set_option maxRecDepth 20000 in
theorem gJ7_copyOf_1904c_J7_copyOf_6403c : GoodIn wsJ7_copyOf_1904c (va_wsS RJ7 300 yJ7_copyOf_6403c wsJ7_copyOf_6403c) := goodIn_app (gi_q gd_wsJ7_copyOf_1904c _ [(5, 3)] rfl) ggJ7_copyOf_1904c_J7_copyOf_6403c
theorem dJ7_copyOf_1904c_0 : decode cJ7_copyOf_1904c 0 = .ok (.aload_n 0, 1) := dkT (by decide +kernel)
theorem dJ7_copyOf_1904c_1 : decode cJ7_copyOf_1904c 1 = .ok (.iload_n 1, 1) := dkT (by decide +kernel)
theorem dJ7_copyOf_1904c_2 : decode cJ7_copyOf_1904c 2 = .ok (.aload_n 0, 1) := dkT (by decide +kernel)
theorem dJ7_copyOf_1904c_3 : decode cJ7_copyOf_1904c 3 = .ok (.invokevirtual 86, 3) := dkT (by decide +kernel)
theorem dJ7_copyOf_1904c_6 : decode cJ7_copyOf_1904c 6 = .ok (.invokestatic 300, 3) := dkT (by decide +kernel)
theorem dJ7_copyOf_1904c_9 : decode cJ7_copyOf_1904c 9 = .ok (.areturn, 1) := dkT (by decide +kernel)
def zT_cJ7_copyOf_6403c : List (List Nat) := [[44, 18, 110, 166, 0, 10, 27, 189, 0, 2, 167, 0, 14, 44, 182, 0, 90, 27, 184, 0, 95, 192, 0, 110, 78, 42, 3, 45, 3, 42, 190, 27, 184, 1, 48, 184, 0, 150, 45, 176]]
theorem zE_cJ7_copyOf_6403c : zTab cJ7_copyOf_6403c.data.toList zT_cJ7_copyOf_6403c = true := by decide +kernel
theorem dJ7_copyOf_6403c_0 : decode cJ7_copyOf_6403c 0 = .ok (.aload_n 2, 1) := dz_aload_n_2 (y0 zE_cJ7_copyOf_6403c 0 0 (by decide +kernel))
theorem dJ7_copyOf_6403c_1 : decode cJ7_copyOf_6403c 1 = .ok (.ldc 110, 2) := dz_ldc (yu1 zE_cJ7_copyOf_6403c 0 1 (by decide +kernel))
theorem dJ7_copyOf_6403c_3 : decode cJ7_copyOf_6403c 3 = .ok (.if_acmp .ne 10, 3) := dz_if_acmp_ne (ys2 zE_cJ7_copyOf_6403c 0 3 (by decide +kernel))
theorem dJ7_copyOf_6403c_6 : decode cJ7_copyOf_6403c 6 = .ok (.iload_n 1, 1) := dz_iload_n_1 (y0 zE_cJ7_copyOf_6403c 0 6 (by decide +kernel))
theorem dJ7_copyOf_6403c_7 : decode cJ7_copyOf_6403c 7 = .ok (.anewarray 2, 3) := dz_anewarray (yu2 zE_cJ7_copyOf_6403c 0 7 (by decide +kernel))
theorem dJ7_copyOf_6403c_10 : decode cJ7_copyOf_6403c 10 = .ok (.goto 14, 3) := dz_goto (ys2 zE_cJ7_copyOf_6403c 0 10 (by decide +kernel))
theorem dJ7_copyOf_6403c_13 : decode cJ7_copyOf_6403c 13 = .ok (.aload_n 2, 1) := dz_aload_n_2 (y0 zE_cJ7_copyOf_6403c 0 13 (by decide +kernel))
theorem dJ7_copyOf_6403c_14 : decode cJ7_copyOf_6403c 14 = .ok (.invokevirtual 90, 3) := dz_invokevirtual (yu2 zE_cJ7_copyOf_6403c 0 14 (by decide +kernel))
theorem dJ7_copyOf_6403c_17 : decode cJ7_copyOf_6403c 17 = .ok (.iload_n 1, 1) := dz_iload_n_1 (y0 zE_cJ7_copyOf_6403c 0 17 (by decide +kernel))
theorem dJ7_copyOf_6403c_18 : decode cJ7_copyOf_6403c 18 = .ok (.invokestatic 95, 3) := dz_invokestatic (yu2 zE_cJ7_copyOf_6403c 0 18 (by decide +kernel))
theorem dJ7_copyOf_6403c_21 : decode cJ7_copyOf_6403c 21 = .ok (.checkcast 110, 3) := dz_checkcast (yu2 zE_cJ7_copyOf_6403c 0 21 (by decide +kernel))
theorem dJ7_copyOf_6403c_24 : decode cJ7_copyOf_6403c 24 = .ok (.astore_n 3, 1) := dz_astore_n_3 (y0 zE_cJ7_copyOf_6403c 0 24 (by decide +kernel))
theorem dJ7_copyOf_6403c_25 : decode cJ7_copyOf_6403c 25 = .ok (.aload_n 0, 1) := dz_aload_n_0 (y0 zE_cJ7_copyOf_6403c 0 25 (by decide +kernel))
theorem dJ7_copyOf_6403c_26 : decode cJ7_copyOf_6403c 26 = .ok (.iconst 0, 1) := dz_iconst_0 (y0 zE_cJ7_copyOf_6403c 0 26 (by decide +kernel))
theorem dJ7_copyOf_6403c_27 : decode cJ7_copyOf_6403c 27 = .ok (.aload_n 3, 1) := dz_aload_n_3 (y0 zE_cJ7_copyOf_6403c 0 27 (by decide +kernel))
theorem dJ7_copyOf_6403c_28 : decode cJ7_copyOf_6403c 28 = .ok (.iconst 0, 1) := dz_iconst_0 (y0 zE_cJ7_copyOf_6403c 0 28 (by decide +kernel))
theorem dJ7_copyOf_6403c_29 : decode cJ7_copyOf_6403c 29 = .ok (.aload_n 0, 1) := dz_aload_n_0 (y0 zE_cJ7_copyOf_6403c 0 29 (by decide +kernel))
theorem dJ7_copyOf_6403c_30 : decode cJ7_copyOf_6403c 30 = .ok (.arraylength, 1) := dz_arraylength (y0 zE_cJ7_copyOf_6403c 0 30 (by decide +kernel))
theorem dJ7_copyOf_6403c_31 : decode cJ7_copyOf_6403c 31 = .ok (.iload_n 1, 1) := dz_iload_n_1 (y0 zE_cJ7_copyOf_6403c 0 31 (by decide +kernel))
theorem dJ7_copyOf_6403c_32 : decode cJ7_copyOf_6403c 32 = .ok (.invokestatic 304, 3) := dz_invokestatic (yu2 zE_cJ7_copyOf_6403c 0 32 (by decide +kernel))
theorem dJ7_copyOf_6403c_35 : decode cJ7_copyOf_6403c 35 = .ok (.invokestatic 150, 3) := dz_invokestatic (yu2 zE_cJ7_copyOf_6403c 0 35 (by decide +kernel))
theorem dJ7_copyOf_6403c_38 : decode cJ7_copyOf_6403c 38 = .ok (.aload_n 3, 1) := dz_aload_n_3 (y0 zE_cJ7_copyOf_6403c 0 38 (by decide +kernel))
theorem dJ7_copyOf_6403c_39 : decode cJ7_copyOf_6403c 39 = .ok (.areturn, 1) := dz_areturn (y0 zE_cJ7_copyOf_6403c 0 39 (by decide +kernel))
def zT_cJ7_copyOf_9075b : List (List Nat) := [[27, 42, 190, 160, 0, 11, 42, 182, 1, 54, 192, 1, 55, 176, 27, 188, 8, 77, 42, 3, 44, 3, 42, 190, 27, 184, 1, 48, 184, 0, 150, 44, 176]]
theorem zE_cJ7_copyOf_9075b : zTab cJ7_copyOf_9075b.data.toList zT_cJ7_copyOf_9075b = true := by decide +kernel
theorem dJ7_copyOf_9075b_0 : decode cJ7_copyOf_9075b 0 = .ok (.iload_n 1, 1) := dz_iload_n_1 (y0 zE_cJ7_copyOf_9075b 0 0 (by decide +kernel))
theorem dJ7_copyOf_9075b_1 : decode cJ7_copyOf_9075b 1 = .ok (.aload_n 0, 1) := dz_aload_n_0 (y0 zE_cJ7_copyOf_9075b 0 1 (by decide +kernel))
theorem dJ7_copyOf_9075b_2 : decode cJ7_copyOf_9075b 2 = .ok (.arraylength, 1) := dz_arraylength (y0 zE_cJ7_copyOf_9075b 0 2 (by decide +kernel))
theorem dJ7_copyOf_9075b_3 : decode cJ7_copyOf_9075b 3 = .ok (.if_icmp .ne 11, 3) := dz_if_icmp_ne (ys2 zE_cJ7_copyOf_9075b 0 3 (by decide +kernel))
theorem dJ7_copyOf_9075b_6 : decode cJ7_copyOf_9075b 6 = .ok (.aload_n 0, 1) := dz_aload_n_0 (y0 zE_cJ7_copyOf_9075b 0 6 (by decide +kernel))
theorem dJ7_copyOf_9075b_7 : decode cJ7_copyOf_9075b 7 = .ok (.invokevirtual 310, 3) := dz_invokevirtual (yu2 zE_cJ7_copyOf_9075b 0 7 (by decide +kernel))
theorem dJ7_copyOf_9075b_10 : decode cJ7_copyOf_9075b 10 = .ok (.checkcast 311, 3) := dz_checkcast (yu2 zE_cJ7_copyOf_9075b 0 10 (by decide +kernel))
theorem dJ7_copyOf_9075b_13 : decode cJ7_copyOf_9075b 13 = .ok (.areturn, 1) := dz_areturn (y0 zE_cJ7_copyOf_9075b 0 13 (by decide +kernel))
theorem dJ7_copyOf_9075b_14 : decode cJ7_copyOf_9075b 14 = .ok (.iload_n 1, 1) := dz_iload_n_1 (y0 zE_cJ7_copyOf_9075b 0 14 (by decide +kernel))
theorem dJ7_copyOf_9075b_15 : decode cJ7_copyOf_9075b 15 = .ok (.newarray .byte, 2) := dkT (by decide +kernel)
theorem dJ7_copyOf_9075b_17 : decode cJ7_copyOf_9075b 17 = .ok (.astore_n 2, 1) := dz_astore_n_2 (y0 zE_cJ7_copyOf_9075b 0 17 (by decide +kernel))
theorem dJ7_copyOf_9075b_18 : decode cJ7_copyOf_9075b 18 = .ok (.aload_n 0, 1) := dz_aload_n_0 (y0 zE_cJ7_copyOf_9075b 0 18 (by decide +kernel))
theorem dJ7_copyOf_9075b_19 : decode cJ7_copyOf_9075b 19 = .ok (.iconst 0, 1) := dz_iconst_0 (y0 zE_cJ7_copyOf_9075b 0 19 (by decide +kernel))
theorem dJ7_copyOf_9075b_20 : decode cJ7_copyOf_9075b 20 = .ok (.aload_n 2, 1) := dz_aload_n_2 (y0 zE_cJ7_copyOf_9075b 0 20 (by decide +kernel))
theorem dJ7_copyOf_9075b_21 : decode cJ7_copyOf_9075b 21 = .ok (.iconst 0, 1) := dz_iconst_0 (y0 zE_cJ7_copyOf_9075b 0 21 (by decide +kernel))
theorem dJ7_copyOf_9075b_22 : decode cJ7_copyOf_9075b 22 = .ok (.aload_n 0, 1) := dz_aload_n_0 (y0 zE_cJ7_copyOf_9075b 0 22 (by decide +kernel))
theorem dJ7_copyOf_9075b_23 : decode cJ7_copyOf_9075b 23 = .ok (.arraylength, 1) := dz_arraylength (y0 zE_cJ7_copyOf_9075b 0 23 (by decide +kernel))
theorem dJ7_copyOf_9075b_24 : decode cJ7_copyOf_9075b 24 = .ok (.iload_n 1, 1) := dz_iload_n_1 (y0 zE_cJ7_copyOf_9075b 0 24 (by decide +kernel))
theorem dJ7_copyOf_9075b_25 : decode cJ7_copyOf_9075b 25 = .ok (.invokestatic 304, 3) := dz_invokestatic (yu2 zE_cJ7_copyOf_9075b 0 25 (by decide +kernel))
theorem dJ7_copyOf_9075b_28 : decode cJ7_copyOf_9075b 28 = .ok (.invokestatic 150, 3) := dz_invokestatic (yu2 zE_cJ7_copyOf_9075b 0 28 (by decide +kernel))
theorem dJ7_copyOf_9075b_31 : decode cJ7_copyOf_9075b 31 = .ok (.aload_n 2, 1) := dz_aload_n_2 (y0 zE_cJ7_copyOf_9075b 0 31 (by decide +kernel))
theorem dJ7_copyOf_9075b_32 : decode cJ7_copyOf_9075b 32 = .ok (.areturn, 1) := dz_areturn (y0 zE_cJ7_copyOf_9075b 0 32 (by decide +kernel))
def zT_cJ7_checkLength_df160 : List (List Nat) := [[27, 26, 162, 0, 35, 187, 0, 43, 89, 187, 0, 45, 89, 183, 0, 47, 26, 182, 0, 54, 19, 1, 81, 182, 0, 50, 27, 182, 0, 54, 182, 0, 61, 183, 0, 65, 191, 177]]
theorem zE_cJ7_checkLength_df160 : zTab cJ7_checkLength_df160.data.toList zT_cJ7_checkLength_df160 = true := by decide +kernel
theorem dJ7_checkLength_df160_0 : decode cJ7_checkLength_df160 0 = .ok (.iload_n 1, 1) := dz_iload_n_1 (y0 zE_cJ7_checkLength_df160 0 0 (by decide +kernel))
theorem dJ7_checkLength_df160_1 : decode cJ7_checkLength_df160 1 = .ok (.iload_n 0, 1) := dz_iload_n_0 (y0 zE_cJ7_checkLength_df160 0 1 (by decide +kernel))
theorem dJ7_checkLength_df160_2 : decode cJ7_checkLength_df160 2 = .ok (.if_icmp .ge 35, 3) := dz_if_icmp_ge (ys2 zE_cJ7_checkLength_df160 0 2 (by decide +kernel))
theorem dJ7_checkLength_df160_5 : decode cJ7_checkLength_df160 5 = .ok (.new 43, 3) := dz_new (yu2 zE_cJ7_checkLength_df160 0 5 (by decide +kernel))
theorem dJ7_checkLength_df160_8 : decode cJ7_checkLength_df160 8 = .ok (.dup, 1) := dz_dup (y0 zE_cJ7_checkLength_df160 0 8 (by decide +kernel))
theorem dJ7_checkLength_df160_9 : decode cJ7_checkLength_df160 9 = .ok (.new 45, 3) := dz_new (yu2 zE_cJ7_checkLength_df160 0 9 (by decide +kernel))
theorem dJ7_checkLength_df160_12 : decode cJ7_checkLength_df160 12 = .ok (.dup, 1) := dz_dup (y0 zE_cJ7_checkLength_df160 0 12 (by decide +kernel))
theorem dJ7_checkLength_df160_13 : decode cJ7_checkLength_df160 13 = .ok (.invokespecial 47, 3) := dz_invokespecial (yu2 zE_cJ7_checkLength_df160 0 13 (by decide +kernel))
theorem dJ7_checkLength_df160_16 : decode cJ7_checkLength_df160 16 = .ok (.iload_n 0, 1) := dz_iload_n_0 (y0 zE_cJ7_checkLength_df160 0 16 (by decide +kernel))
theorem dJ7_checkLength_df160_17 : decode cJ7_checkLength_df160 17 = .ok (.invokevirtual 54, 3) := dz_invokevirtual (yu2 zE_cJ7_checkLength_df160 0 17 (by decide +kernel))
theorem dJ7_checkLength_df160_20 : decode cJ7_checkLength_df160 20 = .ok (.ldc_w 337, 3) := dz_ldc_w (yu2 zE_cJ7_checkLength_df160 0 20 (by decide +kernel))
theorem dJ7_checkLength_df160_23 : decode cJ7_checkLength_df160 23 = .ok (.invokevirtual 50, 3) := dz_invokevirtual (yu2 zE_cJ7_checkLength_df160 0 23 (by decide +kernel))
theorem dJ7_checkLength_df160_26 : decode cJ7_checkLength_df160 26 = .ok (.iload_n 1, 1) := dz_iload_n_1 (y0 zE_cJ7_checkLength_df160 0 26 (by decide +kernel))
theorem dJ7_checkLength_df160_27 : decode cJ7_checkLength_df160 27 = .ok (.invokevirtual 54, 3) := dz_invokevirtual (yu2 zE_cJ7_checkLength_df160 0 27 (by decide +kernel))
theorem dJ7_checkLength_df160_30 : decode cJ7_checkLength_df160 30 = .ok (.invokevirtual 61, 3) := dz_invokevirtual (yu2 zE_cJ7_checkLength_df160 0 30 (by decide +kernel))
theorem dJ7_checkLength_df160_33 : decode cJ7_checkLength_df160 33 = .ok (.invokespecial 65, 3) := dz_invokespecial (yu2 zE_cJ7_checkLength_df160 0 33 (by decide +kernel))
theorem dJ7_checkLength_df160_36 : decode cJ7_checkLength_df160 36 = .ok (.athrow, 1) := dz_athrow (y0 zE_cJ7_checkLength_df160 0 36 (by decide +kernel))
theorem dJ7_checkLength_df160_37 : decode cJ7_checkLength_df160 37 = .ok (.return_, 1) := dz_return (y0 zE_cJ7_checkLength_df160 0 37 (by decide +kernel))
theorem gd_wsJ7_copyOfRange_39247 : wsJ7_copyOfRange_39247.all goodWord = true := by decide +kernel
set_option maxRecDepth 20000 in
theorem ggJ7_copyOfRange_39247_J7_copyOfRangeByte_39247 : GoodIn wsJ7_copyOfRange_39247 wsJ7_copyOfRangeByte_39247 := gi_q gd_wsJ7_copyOfRange_39247 _ [(10, 12), (9, 1), (22, 8)] rfl
set_option maxRecDepth 20000 in
theorem gJ7_copyOfRange_39247_J7_copyOfRangeByte_39247 : GoodIn wsJ7_copyOfRange_39247 (va_wsS RJ7 339 yJ7_copyOfRangeByte_39247 wsJ7_copyOfRangeByte_39247) := goodIn_app (gi_q gd_wsJ7_copyOfRange_39247 _ [(7, 3)] rfl) ggJ7_copyOfRange_39247_J7_copyOfRangeByte_39247
def zT_cJ7_copyOfRange_39247 : List (List Nat) := [[27, 154, 0, 9, 28, 42, 190, 159, 0, 10, 42, 27, 28, 184, 1, 83, 176, 42, 182, 1, 54, 192, 1, 55, 176]]
theorem zE_cJ7_copyOfRange_39247 : zTab cJ7_copyOfRange_39247.data.toList zT_cJ7_copyOfRange_39247 = true := by decide +kernel
theorem dJ7_copyOfRange_39247_0 : decode cJ7_copyOfRange_39247 0 = .ok (.iload_n 1, 1) := dz_iload_n_1 (y0 zE_cJ7_copyOfRange_39247 0 0 (by decide +kernel))
theorem dJ7_copyOfRange_39247_1 : decode cJ7_copyOfRange_39247 1 = .ok (.ifCond .ne 9, 3) := dz_ifCond_ne (ys2 zE_cJ7_copyOfRange_39247 0 1 (by decide +kernel))
theorem dJ7_copyOfRange_39247_4 : decode cJ7_copyOfRange_39247 4 = .ok (.iload_n 2, 1) := dz_iload_n_2 (y0 zE_cJ7_copyOfRange_39247 0 4 (by decide +kernel))
theorem dJ7_copyOfRange_39247_5 : decode cJ7_copyOfRange_39247 5 = .ok (.aload_n 0, 1) := dz_aload_n_0 (y0 zE_cJ7_copyOfRange_39247 0 5 (by decide +kernel))
theorem dJ7_copyOfRange_39247_6 : decode cJ7_copyOfRange_39247 6 = .ok (.arraylength, 1) := dz_arraylength (y0 zE_cJ7_copyOfRange_39247 0 6 (by decide +kernel))
theorem dJ7_copyOfRange_39247_7 : decode cJ7_copyOfRange_39247 7 = .ok (.if_icmp .eq 10, 3) := dz_if_icmp_eq (ys2 zE_cJ7_copyOfRange_39247 0 7 (by decide +kernel))
theorem dJ7_copyOfRange_39247_10 : decode cJ7_copyOfRange_39247 10 = .ok (.aload_n 0, 1) := dz_aload_n_0 (y0 zE_cJ7_copyOfRange_39247 0 10 (by decide +kernel))
theorem dJ7_copyOfRange_39247_11 : decode cJ7_copyOfRange_39247 11 = .ok (.iload_n 1, 1) := dz_iload_n_1 (y0 zE_cJ7_copyOfRange_39247 0 11 (by decide +kernel))
theorem dJ7_copyOfRange_39247_12 : decode cJ7_copyOfRange_39247 12 = .ok (.iload_n 2, 1) := dz_iload_n_2 (y0 zE_cJ7_copyOfRange_39247 0 12 (by decide +kernel))
theorem dJ7_copyOfRange_39247_13 : decode cJ7_copyOfRange_39247 13 = .ok (.invokestatic 339, 3) := dz_invokestatic (yu2 zE_cJ7_copyOfRange_39247 0 13 (by decide +kernel))
theorem dJ7_copyOfRange_39247_16 : decode cJ7_copyOfRange_39247 16 = .ok (.areturn, 1) := dz_areturn (y0 zE_cJ7_copyOfRange_39247 0 16 (by decide +kernel))
theorem dJ7_copyOfRange_39247_17 : decode cJ7_copyOfRange_39247 17 = .ok (.aload_n 0, 1) := dz_aload_n_0 (y0 zE_cJ7_copyOfRange_39247 0 17 (by decide +kernel))
theorem dJ7_copyOfRange_39247_18 : decode cJ7_copyOfRange_39247 18 = .ok (.invokevirtual 310, 3) := dz_invokevirtual (yu2 zE_cJ7_copyOfRange_39247 0 18 (by decide +kernel))
theorem dJ7_copyOfRange_39247_21 : decode cJ7_copyOfRange_39247 21 = .ok (.checkcast 311, 3) := dz_checkcast (yu2 zE_cJ7_copyOfRange_39247 0 21 (by decide +kernel))
theorem dJ7_copyOfRange_39247_24 : decode cJ7_copyOfRange_39247 24 = .ok (.areturn, 1) := dz_areturn (y0 zE_cJ7_copyOfRange_39247 0 24 (by decide +kernel))
theorem gd_wsJ7_copyOfRangeByte_39247 : wsJ7_copyOfRangeByte_39247.all goodWord = true := by decide +kernel
set_option maxRecDepth 20000 in
theorem ggJ7_copyOfRangeByte_39247_J7_checkLength_df160 : GoodIn wsJ7_copyOfRangeByte_39247 wsJ7_checkLength_df160 := gi_q gd_wsJ7_copyOfRangeByte_39247 _ [(13, 8)] rfl
set_option maxRecDepth 20000 in
theorem gJ7_copyOfRangeByte_39247_J7_checkLength_df160 : GoodIn wsJ7_copyOfRangeByte_39247 (va_wsS RJ7 343 yJ7_checkLength_df160 wsJ7_checkLength_df160) := goodIn_app (gi_q gd_wsJ7_copyOfRangeByte_39247 _ [(10, 3)] rfl) ggJ7_copyOfRangeByte_39247_J7_checkLength_df160
def zT_cJ7_copyOfRangeByte_39247 : List (List Nat) := [[27, 28, 184, 1, 87, 28, 27, 100, 62, 29, 188, 8, 58, 4, 42, 27, 25, 4, 3, 42, 190, 27, 100, 29, 184, 1, 48, 184, 0, 150, 25, 4, 176]]
theorem zE_cJ7_copyOfRangeByte_39247 : zTab cJ7_copyOfRangeByte_39247.data.toList zT_cJ7_copyOfRangeByte_39247 = true := by decide +kernel
theorem dJ7_copyOfRangeByte_39247_0 : decode cJ7_copyOfRangeByte_39247 0 = .ok (.iload_n 1, 1) := dz_iload_n_1 (y0 zE_cJ7_copyOfRangeByte_39247 0 0 (by decide +kernel))
theorem dJ7_copyOfRangeByte_39247_1 : decode cJ7_copyOfRangeByte_39247 1 = .ok (.iload_n 2, 1) := dz_iload_n_2 (y0 zE_cJ7_copyOfRangeByte_39247 0 1 (by decide +kernel))
theorem dJ7_copyOfRangeByte_39247_2 : decode cJ7_copyOfRangeByte_39247 2 = .ok (.invokestatic 343, 3) := dz_invokestatic (yu2 zE_cJ7_copyOfRangeByte_39247 0 2 (by decide +kernel))
theorem dJ7_copyOfRangeByte_39247_5 : decode cJ7_copyOfRangeByte_39247 5 = .ok (.iload_n 2, 1) := dz_iload_n_2 (y0 zE_cJ7_copyOfRangeByte_39247 0 5 (by decide +kernel))
theorem dJ7_copyOfRangeByte_39247_6 : decode cJ7_copyOfRangeByte_39247 6 = .ok (.iload_n 1, 1) := dz_iload_n_1 (y0 zE_cJ7_copyOfRangeByte_39247 0 6 (by decide +kernel))
theorem dJ7_copyOfRangeByte_39247_7 : decode cJ7_copyOfRangeByte_39247 7 = .ok (.isub, 1) := dz_isub (y0 zE_cJ7_copyOfRangeByte_39247 0 7 (by decide +kernel))
theorem dJ7_copyOfRangeByte_39247_8 : decode cJ7_copyOfRangeByte_39247 8 = .ok (.istore_n 3, 1) := dz_istore_n_3 (y0 zE_cJ7_copyOfRangeByte_39247 0 8 (by decide +kernel))
theorem dJ7_copyOfRangeByte_39247_9 : decode cJ7_copyOfRangeByte_39247 9 = .ok (.iload_n 3, 1) := dz_iload_n_3 (y0 zE_cJ7_copyOfRangeByte_39247 0 9 (by decide +kernel))
theorem dJ7_copyOfRangeByte_39247_10 : decode cJ7_copyOfRangeByte_39247 10 = .ok (.newarray .byte, 2) := dkT (by decide +kernel)
theorem dJ7_copyOfRangeByte_39247_12 : decode cJ7_copyOfRangeByte_39247 12 = .ok (.astore 4, 2) := dz_astore (yu1 zE_cJ7_copyOfRangeByte_39247 0 12 (by decide +kernel))
theorem dJ7_copyOfRangeByte_39247_14 : decode cJ7_copyOfRangeByte_39247 14 = .ok (.aload_n 0, 1) := dz_aload_n_0 (y0 zE_cJ7_copyOfRangeByte_39247 0 14 (by decide +kernel))
theorem dJ7_copyOfRangeByte_39247_15 : decode cJ7_copyOfRangeByte_39247 15 = .ok (.iload_n 1, 1) := dz_iload_n_1 (y0 zE_cJ7_copyOfRangeByte_39247 0 15 (by decide +kernel))
theorem dJ7_copyOfRangeByte_39247_16 : decode cJ7_copyOfRangeByte_39247 16 = .ok (.aload 4, 2) := dz_aload (yu1 zE_cJ7_copyOfRangeByte_39247 0 16 (by decide +kernel))
theorem dJ7_copyOfRangeByte_39247_18 : decode cJ7_copyOfRangeByte_39247 18 = .ok (.iconst 0, 1) := dz_iconst_0 (y0 zE_cJ7_copyOfRangeByte_39247 0 18 (by decide +kernel))
theorem dJ7_copyOfRangeByte_39247_19 : decode cJ7_copyOfRangeByte_39247 19 = .ok (.aload_n 0, 1) := dz_aload_n_0 (y0 zE_cJ7_copyOfRangeByte_39247 0 19 (by decide +kernel))
theorem dJ7_copyOfRangeByte_39247_20 : decode cJ7_copyOfRangeByte_39247 20 = .ok (.arraylength, 1) := dz_arraylength (y0 zE_cJ7_copyOfRangeByte_39247 0 20 (by decide +kernel))
theorem dJ7_copyOfRangeByte_39247_21 : decode cJ7_copyOfRangeByte_39247 21 = .ok (.iload_n 1, 1) := dz_iload_n_1 (y0 zE_cJ7_copyOfRangeByte_39247 0 21 (by decide +kernel))
theorem dJ7_copyOfRangeByte_39247_22 : decode cJ7_copyOfRangeByte_39247 22 = .ok (.isub, 1) := dz_isub (y0 zE_cJ7_copyOfRangeByte_39247 0 22 (by decide +kernel))
theorem dJ7_copyOfRangeByte_39247_23 : decode cJ7_copyOfRangeByte_39247 23 = .ok (.iload_n 3, 1) := dz_iload_n_3 (y0 zE_cJ7_copyOfRangeByte_39247 0 23 (by decide +kernel))
theorem dJ7_copyOfRangeByte_39247_24 : decode cJ7_copyOfRangeByte_39247 24 = .ok (.invokestatic 304, 3) := dz_invokestatic (yu2 zE_cJ7_copyOfRangeByte_39247 0 24 (by decide +kernel))
theorem dJ7_copyOfRangeByte_39247_27 : decode cJ7_copyOfRangeByte_39247 27 = .ok (.invokestatic 150, 3) := dz_invokestatic (yu2 zE_cJ7_copyOfRangeByte_39247 0 27 (by decide +kernel))
theorem dJ7_copyOfRangeByte_39247_30 : decode cJ7_copyOfRangeByte_39247 30 = .ok (.aload 4, 2) := dz_aload (yu1 zE_cJ7_copyOfRangeByte_39247 0 30 (by decide +kernel))
theorem dJ7_copyOfRangeByte_39247_32 : decode cJ7_copyOfRangeByte_39247 32 = .ok (.areturn, 1) := dz_areturn (y0 zE_cJ7_copyOfRangeByte_39247 0 32 (by decide +kernel))
theorem gd_wsJ15_checkIndex_7cf53 : wsJ15_checkIndex_7cf53.all goodWord = true := by decide +kernel
set_option maxRecDepth 20000 in
theorem ggJ15_checkIndex_7cf53_J3_checkIndex_8e157 : GoodIn wsJ15_checkIndex_7cf53 wsJ3_checkIndex_8e157 := gi_q gd_wsJ15_checkIndex_7cf53 _ [(4, 1)] rfl
set_option maxRecDepth 20000 in
theorem gJ15_checkIndex_7cf53_J3_checkIndex_8e157 : GoodIn wsJ15_checkIndex_7cf53 (va_wsS RJ15 105 yJ3_checkIndex_8e157 wsJ3_checkIndex_8e157) := goodIn_app (gi_q gd_wsJ15_checkIndex_7cf53 _ [(1, 3)] rfl) ggJ15_checkIndex_7cf53_J3_checkIndex_8e157
theorem dJ15_checkIndex_7cf53_0 : decode cJ15_checkIndex_7cf53 0 = .ok (.iload_n 0, 1) := dkT (by decide +kernel)
theorem dJ15_checkIndex_7cf53_1 : decode cJ15_checkIndex_7cf53 1 = .ok (.iload_n 1, 1) := dkT (by decide +kernel)
theorem dJ15_checkIndex_7cf53_2 : decode cJ15_checkIndex_7cf53 2 = .ok (.aconst_null, 1) := dkT (by decide +kernel)
theorem dJ15_checkIndex_7cf53_3 : decode cJ15_checkIndex_7cf53 3 = .ok (.invokestatic 105, 3) := dkT (by decide +kernel)
theorem dJ15_checkIndex_7cf53_6 : decode cJ15_checkIndex_7cf53 6 = .ok (.ireturn, 1) := dkT (by decide +kernel)
theorem gd_wsJ8_newLength_cabcc : wsJ8_newLength_cabcc.all goodWord = true := by decide +kernel
set_option maxRecDepth 20000 in
theorem ggJ8_newLength_cabcc_J8_hugeLength_7cf53 : GoodIn wsJ8_newLength_cabcc wsJ8_hugeLength_7cf53 := gi_q gd_wsJ8_newLength_cabcc _ [(9, 1), (5, 1)] rfl
set_option maxRecDepth 20000 in
theorem gJ8_newLength_cabcc_J8_hugeLength_7cf53 : GoodIn wsJ8_newLength_cabcc (va_wsS RJ8 201 yJ8_hugeLength_7cf53 wsJ8_hugeLength_7cf53) := goodIn_app (gi_q gd_wsJ8_newLength_cabcc _ [(6, 3)] rfl) ggJ8_newLength_cabcc_J8_hugeLength_7cf53
def zT_cJ8_newLength_cabcc : List (List Nat) := [[26, 27, 28, 184, 0, 194, 96, 62, 3, 29, 162, 0, 11, 29, 18, 200, 163, 0, 5, 29, 172, 26, 27, 184, 0, 201, 172]]
theorem zE_cJ8_newLength_cabcc : zTab cJ8_newLength_cabcc.data.toList zT_cJ8_newLength_cabcc = true := by decide +kernel
theorem dJ8_newLength_cabcc_0 : decode cJ8_newLength_cabcc 0 = .ok (.iload_n 0, 1) := dz_iload_n_0 (y0 zE_cJ8_newLength_cabcc 0 0 (by decide +kernel))
theorem dJ8_newLength_cabcc_1 : decode cJ8_newLength_cabcc 1 = .ok (.iload_n 1, 1) := dz_iload_n_1 (y0 zE_cJ8_newLength_cabcc 0 1 (by decide +kernel))
theorem dJ8_newLength_cabcc_2 : decode cJ8_newLength_cabcc 2 = .ok (.iload_n 2, 1) := dz_iload_n_2 (y0 zE_cJ8_newLength_cabcc 0 2 (by decide +kernel))
theorem dJ8_newLength_cabcc_3 : decode cJ8_newLength_cabcc 3 = .ok (.invokestatic 194, 3) := dz_invokestatic (yu2 zE_cJ8_newLength_cabcc 0 3 (by decide +kernel))
theorem dJ8_newLength_cabcc_6 : decode cJ8_newLength_cabcc 6 = .ok (.iadd, 1) := dz_iadd (y0 zE_cJ8_newLength_cabcc 0 6 (by decide +kernel))
theorem dJ8_newLength_cabcc_7 : decode cJ8_newLength_cabcc 7 = .ok (.istore_n 3, 1) := dz_istore_n_3 (y0 zE_cJ8_newLength_cabcc 0 7 (by decide +kernel))
theorem dJ8_newLength_cabcc_8 : decode cJ8_newLength_cabcc 8 = .ok (.iconst 0, 1) := dz_iconst_0 (y0 zE_cJ8_newLength_cabcc 0 8 (by decide +kernel))
theorem dJ8_newLength_cabcc_9 : decode cJ8_newLength_cabcc 9 = .ok (.iload_n 3, 1) := dz_iload_n_3 (y0 zE_cJ8_newLength_cabcc 0 9 (by decide +kernel))
theorem dJ8_newLength_cabcc_10 : decode cJ8_newLength_cabcc 10 = .ok (.if_icmp .ge 11, 3) := dz_if_icmp_ge (ys2 zE_cJ8_newLength_cabcc 0 10 (by decide +kernel))
theorem dJ8_newLength_cabcc_13 : decode cJ8_newLength_cabcc 13 = .ok (.iload_n 3, 1) := dz_iload_n_3 (y0 zE_cJ8_newLength_cabcc 0 13 (by decide +kernel))
theorem dJ8_newLength_cabcc_14 : decode cJ8_newLength_cabcc 14 = .ok (.ldc 200, 2) := dz_ldc (yu1 zE_cJ8_newLength_cabcc 0 14 (by decide +kernel))
theorem dJ8_newLength_cabcc_16 : decode cJ8_newLength_cabcc 16 = .ok (.if_icmp .gt 5, 3) := dz_if_icmp_gt (ys2 zE_cJ8_newLength_cabcc 0 16 (by decide +kernel))
theorem dJ8_newLength_cabcc_19 : decode cJ8_newLength_cabcc 19 = .ok (.iload_n 3, 1) := dz_iload_n_3 (y0 zE_cJ8_newLength_cabcc 0 19 (by decide +kernel))
theorem dJ8_newLength_cabcc_20 : decode cJ8_newLength_cabcc 20 = .ok (.ireturn, 1) := dz_ireturn (y0 zE_cJ8_newLength_cabcc 0 20 (by decide +kernel))
theorem dJ8_newLength_cabcc_21 : decode cJ8_newLength_cabcc 21 = .ok (.iload_n 0, 1) := dz_iload_n_0 (y0 zE_cJ8_newLength_cabcc 0 21 (by decide +kernel))
theorem dJ8_newLength_cabcc_22 : decode cJ8_newLength_cabcc 22 = .ok (.iload_n 1, 1) := dz_iload_n_1 (y0 zE_cJ8_newLength_cabcc 0 22 (by decide +kernel))
theorem dJ8_newLength_cabcc_23 : decode cJ8_newLength_cabcc 23 = .ok (.invokestatic 201, 3) := dz_invokestatic (yu2 zE_cJ8_newLength_cabcc 0 23 (by decide +kernel))
theorem dJ8_newLength_cabcc_26 : decode cJ8_newLength_cabcc 26 = .ok (.ireturn, 1) := dz_ireturn (y0 zE_cJ8_newLength_cabcc 0 26 (by decide +kernel))
def zT_cJ8_hugeLength_7cf53 : List (List Nat) := [[26, 27, 96, 61, 28, 156, 0, 44, 187, 0, 204, 89, 187, 0, 89, 89, 183, 0, 91, 18, 206, 182, 0, 94, 26, 182, 0, 98, 18, 208, 182, 0, 94, 27, 182, 0, 98, 18, 210, 182, 0, 94, 182, 0, 101, 183, 0, 212, 191, 28, 18, 200, 163, 0, 6, 18, 200, 172, 28, 172]]
theorem zE_cJ8_hugeLength_7cf53 : zTab cJ8_hugeLength_7cf53.data.toList zT_cJ8_hugeLength_7cf53 = true := by decide +kernel
theorem dJ8_hugeLength_7cf53_0 : decode cJ8_hugeLength_7cf53 0 = .ok (.iload_n 0, 1) := dz_iload_n_0 (y0 zE_cJ8_hugeLength_7cf53 0 0 (by decide +kernel))
theorem dJ8_hugeLength_7cf53_1 : decode cJ8_hugeLength_7cf53 1 = .ok (.iload_n 1, 1) := dz_iload_n_1 (y0 zE_cJ8_hugeLength_7cf53 0 1 (by decide +kernel))
theorem dJ8_hugeLength_7cf53_2 : decode cJ8_hugeLength_7cf53 2 = .ok (.iadd, 1) := dz_iadd (y0 zE_cJ8_hugeLength_7cf53 0 2 (by decide +kernel))
theorem dJ8_hugeLength_7cf53_3 : decode cJ8_hugeLength_7cf53 3 = .ok (.istore_n 2, 1) := dz_istore_n_2 (y0 zE_cJ8_hugeLength_7cf53 0 3 (by decide +kernel))
theorem dJ8_hugeLength_7cf53_4 : decode cJ8_hugeLength_7cf53 4 = .ok (.iload_n 2, 1) := dz_iload_n_2 (y0 zE_cJ8_hugeLength_7cf53 0 4 (by decide +kernel))
theorem dJ8_hugeLength_7cf53_5 : decode cJ8_hugeLength_7cf53 5 = .ok (.ifCond .ge 44, 3) := dz_ifCond_ge (ys2 zE_cJ8_hugeLength_7cf53 0 5 (by decide +kernel))
theorem dJ8_hugeLength_7cf53_8 : decode cJ8_hugeLength_7cf53 8 = .ok (.new 204, 3) := dz_new (yu2 zE_cJ8_hugeLength_7cf53 0 8 (by decide +kernel))
theorem dJ8_hugeLength_7cf53_11 : decode cJ8_hugeLength_7cf53 11 = .ok (.dup, 1) := dz_dup (y0 zE_cJ8_hugeLength_7cf53 0 11 (by decide +kernel))
theorem dJ8_hugeLength_7cf53_12 : decode cJ8_hugeLength_7cf53 12 = .ok (.new 89, 3) := dz_new (yu2 zE_cJ8_hugeLength_7cf53 0 12 (by decide +kernel))
theorem dJ8_hugeLength_7cf53_15 : decode cJ8_hugeLength_7cf53 15 = .ok (.dup, 1) := dz_dup (y0 zE_cJ8_hugeLength_7cf53 0 15 (by decide +kernel))
theorem dJ8_hugeLength_7cf53_16 : decode cJ8_hugeLength_7cf53 16 = .ok (.invokespecial 91, 3) := dz_invokespecial (yu2 zE_cJ8_hugeLength_7cf53 0 16 (by decide +kernel))
theorem dJ8_hugeLength_7cf53_19 : decode cJ8_hugeLength_7cf53 19 = .ok (.ldc 206, 2) := dz_ldc (yu1 zE_cJ8_hugeLength_7cf53 0 19 (by decide +kernel))
theorem dJ8_hugeLength_7cf53_21 : decode cJ8_hugeLength_7cf53 21 = .ok (.invokevirtual 94, 3) := dz_invokevirtual (yu2 zE_cJ8_hugeLength_7cf53 0 21 (by decide +kernel))
theorem dJ8_hugeLength_7cf53_24 : decode cJ8_hugeLength_7cf53 24 = .ok (.iload_n 0, 1) := dz_iload_n_0 (y0 zE_cJ8_hugeLength_7cf53 0 24 (by decide +kernel))
theorem dJ8_hugeLength_7cf53_25 : decode cJ8_hugeLength_7cf53 25 = .ok (.invokevirtual 98, 3) := dz_invokevirtual (yu2 zE_cJ8_hugeLength_7cf53 0 25 (by decide +kernel))
theorem dJ8_hugeLength_7cf53_28 : decode cJ8_hugeLength_7cf53 28 = .ok (.ldc 208, 2) := dz_ldc (yu1 zE_cJ8_hugeLength_7cf53 0 28 (by decide +kernel))
theorem dJ8_hugeLength_7cf53_30 : decode cJ8_hugeLength_7cf53 30 = .ok (.invokevirtual 94, 3) := dz_invokevirtual (yu2 zE_cJ8_hugeLength_7cf53 0 30 (by decide +kernel))
theorem dJ8_hugeLength_7cf53_33 : decode cJ8_hugeLength_7cf53 33 = .ok (.iload_n 1, 1) := dz_iload_n_1 (y0 zE_cJ8_hugeLength_7cf53 0 33 (by decide +kernel))
theorem dJ8_hugeLength_7cf53_34 : decode cJ8_hugeLength_7cf53 34 = .ok (.invokevirtual 98, 3) := dz_invokevirtual (yu2 zE_cJ8_hugeLength_7cf53 0 34 (by decide +kernel))
theorem dJ8_hugeLength_7cf53_37 : decode cJ8_hugeLength_7cf53 37 = .ok (.ldc 210, 2) := dz_ldc (yu1 zE_cJ8_hugeLength_7cf53 0 37 (by decide +kernel))
theorem dJ8_hugeLength_7cf53_39 : decode cJ8_hugeLength_7cf53 39 = .ok (.invokevirtual 94, 3) := dz_invokevirtual (yu2 zE_cJ8_hugeLength_7cf53 0 39 (by decide +kernel))
theorem dJ8_hugeLength_7cf53_42 : decode cJ8_hugeLength_7cf53 42 = .ok (.invokevirtual 101, 3) := dz_invokevirtual (yu2 zE_cJ8_hugeLength_7cf53 0 42 (by decide +kernel))
theorem dJ8_hugeLength_7cf53_45 : decode cJ8_hugeLength_7cf53 45 = .ok (.invokespecial 212, 3) := dz_invokespecial (yu2 zE_cJ8_hugeLength_7cf53 0 45 (by decide +kernel))
theorem dJ8_hugeLength_7cf53_48 : decode cJ8_hugeLength_7cf53 48 = .ok (.athrow, 1) := dz_athrow (y0 zE_cJ8_hugeLength_7cf53 0 48 (by decide +kernel))
theorem dJ8_hugeLength_7cf53_49 : decode cJ8_hugeLength_7cf53 49 = .ok (.iload_n 2, 1) := dz_iload_n_2 (y0 zE_cJ8_hugeLength_7cf53 0 49 (by decide +kernel))
theorem dJ8_hugeLength_7cf53_50 : decode cJ8_hugeLength_7cf53 50 = .ok (.ldc 200, 2) := dz_ldc (yu1 zE_cJ8_hugeLength_7cf53 0 50 (by decide +kernel))
theorem dJ8_hugeLength_7cf53_52 : decode cJ8_hugeLength_7cf53 52 = .ok (.if_icmp .gt 6, 3) := dz_if_icmp_gt (ys2 zE_cJ8_hugeLength_7cf53 0 52 (by decide +kernel))
theorem dJ8_hugeLength_7cf53_55 : decode cJ8_hugeLength_7cf53 55 = .ok (.ldc 200, 2) := dz_ldc (yu1 zE_cJ8_hugeLength_7cf53 0 55 (by decide +kernel))
theorem dJ8_hugeLength_7cf53_57 : decode cJ8_hugeLength_7cf53 57 = .ok (.ireturn, 1) := dz_ireturn (y0 zE_cJ8_hugeLength_7cf53 0 57 (by decide +kernel))
theorem dJ8_hugeLength_7cf53_58 : decode cJ8_hugeLength_7cf53 58 = .ok (.iload_n 2, 1) := dz_iload_n_2 (y0 zE_cJ8_hugeLength_7cf53 0 58 (by decide +kernel))
theorem dJ8_hugeLength_7cf53_59 : decode cJ8_hugeLength_7cf53 59 = .ok (.ireturn, 1) := dz_ireturn (y0 zE_cJ8_hugeLength_7cf53 0 59 (by decide +kernel))
theorem dJ3_checkIndex_8e157_0 : decode cJ3_checkIndex_8e157 0 = .ok (.iload_n 0, 1) := dkT (by decide +kernel)
theorem dJ3_checkIndex_8e157_1 : decode cJ3_checkIndex_8e157 1 = .ok (.ifCond .lt 8, 3) := dkT (by decide +kernel)
theorem dJ3_checkIndex_8e157_4 : decode cJ3_checkIndex_8e157 4 = .ok (.iload_n 0, 1) := dkT (by decide +kernel)
theorem dJ3_checkIndex_8e157_5 : decode cJ3_checkIndex_8e157 5 = .ok (.iload_n 1, 1) := dkT (by decide +kernel)
theorem dJ3_checkIndex_8e157_6 : decode cJ3_checkIndex_8e157 6 = .ok (.if_icmp .lt 10, 3) := dkT (by decide +kernel)
theorem dJ3_checkIndex_8e157_9 : decode cJ3_checkIndex_8e157 9 = .ok (.aload_n 2, 1) := dkT (by decide +kernel)
theorem dJ3_checkIndex_8e157_10 : decode cJ3_checkIndex_8e157 10 = .ok (.iload_n 0, 1) := dkT (by decide +kernel)
theorem dJ3_checkIndex_8e157_11 : decode cJ3_checkIndex_8e157 11 = .ok (.iload_n 1, 1) := dkT (by decide +kernel)
theorem dJ3_checkIndex_8e157_12 : decode cJ3_checkIndex_8e157 12 = .ok (.invokestatic 95, 3) := dkT (by decide +kernel)
theorem dJ3_checkIndex_8e157_15 : decode cJ3_checkIndex_8e157 15 = .ok (.athrow, 1) := dkT (by decide +kernel)
theorem dJ3_checkIndex_8e157_16 : decode cJ3_checkIndex_8e157 16 = .ok (.iload_n 0, 1) := dkT (by decide +kernel)
theorem dJ3_checkIndex_8e157_17 : decode cJ3_checkIndex_8e157 17 = .ok (.ireturn, 1) := dkT (by decide +kernel)
def zT_cJ3_checkFromToIndex_8c36e : List (List Nat) := [[26, 155, 0, 13, 26, 27, 163, 0, 8, 27, 28, 164, 0, 11, 45, 26, 27, 28, 184, 0, 99, 191, 26, 172]]
theorem zE_cJ3_checkFromToIndex_8c36e : zTab cJ3_checkFromToIndex_8c36e.data.toList zT_cJ3_checkFromToIndex_8c36e = true := by decide +kernel
theorem dJ3_checkFromToIndex_8c36e_0 : decode cJ3_checkFromToIndex_8c36e 0 = .ok (.iload_n 0, 1) := dz_iload_n_0 (y0 zE_cJ3_checkFromToIndex_8c36e 0 0 (by decide +kernel))
theorem dJ3_checkFromToIndex_8c36e_1 : decode cJ3_checkFromToIndex_8c36e 1 = .ok (.ifCond .lt 13, 3) := dz_ifCond_lt (ys2 zE_cJ3_checkFromToIndex_8c36e 0 1 (by decide +kernel))
theorem dJ3_checkFromToIndex_8c36e_4 : decode cJ3_checkFromToIndex_8c36e 4 = .ok (.iload_n 0, 1) := dz_iload_n_0 (y0 zE_cJ3_checkFromToIndex_8c36e 0 4 (by decide +kernel))
theorem dJ3_checkFromToIndex_8c36e_5 : decode cJ3_checkFromToIndex_8c36e 5 = .ok (.iload_n 1, 1) := dz_iload_n_1 (y0 zE_cJ3_checkFromToIndex_8c36e 0 5 (by decide +kernel))
theorem dJ3_checkFromToIndex_8c36e_6 : decode cJ3_checkFromToIndex_8c36e 6 = .ok (.if_icmp .gt 8, 3) := dz_if_icmp_gt (ys2 zE_cJ3_checkFromToIndex_8c36e 0 6 (by decide +kernel))
theorem dJ3_checkFromToIndex_8c36e_9 : decode cJ3_checkFromToIndex_8c36e 9 = .ok (.iload_n 1, 1) := dz_iload_n_1 (y0 zE_cJ3_checkFromToIndex_8c36e 0 9 (by decide +kernel))
theorem dJ3_checkFromToIndex_8c36e_10 : decode cJ3_checkFromToIndex_8c36e 10 = .ok (.iload_n 2, 1) := dz_iload_n_2 (y0 zE_cJ3_checkFromToIndex_8c36e 0 10 (by decide +kernel))
theorem dJ3_checkFromToIndex_8c36e_11 : decode cJ3_checkFromToIndex_8c36e 11 = .ok (.if_icmp .le 11, 3) := dz_if_icmp_le (ys2 zE_cJ3_checkFromToIndex_8c36e 0 11 (by decide +kernel))
theorem dJ3_checkFromToIndex_8c36e_14 : decode cJ3_checkFromToIndex_8c36e 14 = .ok (.aload_n 3, 1) := dz_aload_n_3 (y0 zE_cJ3_checkFromToIndex_8c36e 0 14 (by decide +kernel))
theorem dJ3_checkFromToIndex_8c36e_15 : decode cJ3_checkFromToIndex_8c36e 15 = .ok (.iload_n 0, 1) := dz_iload_n_0 (y0 zE_cJ3_checkFromToIndex_8c36e 0 15 (by decide +kernel))
theorem dJ3_checkFromToIndex_8c36e_16 : decode cJ3_checkFromToIndex_8c36e 16 = .ok (.iload_n 1, 1) := dz_iload_n_1 (y0 zE_cJ3_checkFromToIndex_8c36e 0 16 (by decide +kernel))
theorem dJ3_checkFromToIndex_8c36e_17 : decode cJ3_checkFromToIndex_8c36e 17 = .ok (.iload_n 2, 1) := dz_iload_n_2 (y0 zE_cJ3_checkFromToIndex_8c36e 0 17 (by decide +kernel))
theorem dJ3_checkFromToIndex_8c36e_18 : decode cJ3_checkFromToIndex_8c36e 18 = .ok (.invokestatic 99, 3) := dz_invokestatic (yu2 zE_cJ3_checkFromToIndex_8c36e 0 18 (by decide +kernel))
theorem dJ3_checkFromToIndex_8c36e_21 : decode cJ3_checkFromToIndex_8c36e 21 = .ok (.athrow, 1) := dz_athrow (y0 zE_cJ3_checkFromToIndex_8c36e 0 21 (by decide +kernel))
theorem dJ3_checkFromToIndex_8c36e_22 : decode cJ3_checkFromToIndex_8c36e 22 = .ok (.iload_n 0, 1) := dz_iload_n_0 (y0 zE_cJ3_checkFromToIndex_8c36e 0 22 (by decide +kernel))
theorem dJ3_checkFromToIndex_8c36e_23 : decode cJ3_checkFromToIndex_8c36e 23 = .ok (.ireturn, 1) := dz_ireturn (y0 zE_cJ3_checkFromToIndex_8c36e 0 23 (by decide +kernel))
def zT_cJ3_checkFromIndexSize_8c36e : List (List Nat) := [[28, 26, 128, 27, 128, 155, 0, 10, 27, 28, 26, 100, 164, 0, 11, 45, 26, 27, 28, 184, 0, 103, 191, 26, 172]]
theorem zE_cJ3_checkFromIndexSize_8c36e : zTab cJ3_checkFromIndexSize_8c36e.data.toList zT_cJ3_checkFromIndexSize_8c36e = true := by decide +kernel
theorem dJ3_checkFromIndexSize_8c36e_0 : decode cJ3_checkFromIndexSize_8c36e 0 = .ok (.iload_n 2, 1) := dz_iload_n_2 (y0 zE_cJ3_checkFromIndexSize_8c36e 0 0 (by decide +kernel))
theorem dJ3_checkFromIndexSize_8c36e_1 : decode cJ3_checkFromIndexSize_8c36e 1 = .ok (.iload_n 0, 1) := dz_iload_n_0 (y0 zE_cJ3_checkFromIndexSize_8c36e 0 1 (by decide +kernel))
theorem dJ3_checkFromIndexSize_8c36e_2 : decode cJ3_checkFromIndexSize_8c36e 2 = .ok (.ior, 1) := dz_ior (y0 zE_cJ3_checkFromIndexSize_8c36e 0 2 (by decide +kernel))
theorem dJ3_checkFromIndexSize_8c36e_3 : decode cJ3_checkFromIndexSize_8c36e 3 = .ok (.iload_n 1, 1) := dz_iload_n_1 (y0 zE_cJ3_checkFromIndexSize_8c36e 0 3 (by decide +kernel))
theorem dJ3_checkFromIndexSize_8c36e_4 : decode cJ3_checkFromIndexSize_8c36e 4 = .ok (.ior, 1) := dz_ior (y0 zE_cJ3_checkFromIndexSize_8c36e 0 4 (by decide +kernel))
theorem dJ3_checkFromIndexSize_8c36e_5 : decode cJ3_checkFromIndexSize_8c36e 5 = .ok (.ifCond .lt 10, 3) := dz_ifCond_lt (ys2 zE_cJ3_checkFromIndexSize_8c36e 0 5 (by decide +kernel))
theorem dJ3_checkFromIndexSize_8c36e_8 : decode cJ3_checkFromIndexSize_8c36e 8 = .ok (.iload_n 1, 1) := dz_iload_n_1 (y0 zE_cJ3_checkFromIndexSize_8c36e 0 8 (by decide +kernel))
theorem dJ3_checkFromIndexSize_8c36e_9 : decode cJ3_checkFromIndexSize_8c36e 9 = .ok (.iload_n 2, 1) := dz_iload_n_2 (y0 zE_cJ3_checkFromIndexSize_8c36e 0 9 (by decide +kernel))
theorem dJ3_checkFromIndexSize_8c36e_10 : decode cJ3_checkFromIndexSize_8c36e 10 = .ok (.iload_n 0, 1) := dz_iload_n_0 (y0 zE_cJ3_checkFromIndexSize_8c36e 0 10 (by decide +kernel))
theorem dJ3_checkFromIndexSize_8c36e_11 : decode cJ3_checkFromIndexSize_8c36e 11 = .ok (.isub, 1) := dz_isub (y0 zE_cJ3_checkFromIndexSize_8c36e 0 11 (by decide +kernel))
theorem dJ3_checkFromIndexSize_8c36e_12 : decode cJ3_checkFromIndexSize_8c36e 12 = .ok (.if_icmp .le 11, 3) := dz_if_icmp_le (ys2 zE_cJ3_checkFromIndexSize_8c36e 0 12 (by decide +kernel))
theorem dJ3_checkFromIndexSize_8c36e_15 : decode cJ3_checkFromIndexSize_8c36e 15 = .ok (.aload_n 3, 1) := dz_aload_n_3 (y0 zE_cJ3_checkFromIndexSize_8c36e 0 15 (by decide +kernel))
theorem dJ3_checkFromIndexSize_8c36e_16 : decode cJ3_checkFromIndexSize_8c36e 16 = .ok (.iload_n 0, 1) := dz_iload_n_0 (y0 zE_cJ3_checkFromIndexSize_8c36e 0 16 (by decide +kernel))
theorem dJ3_checkFromIndexSize_8c36e_17 : decode cJ3_checkFromIndexSize_8c36e 17 = .ok (.iload_n 1, 1) := dz_iload_n_1 (y0 zE_cJ3_checkFromIndexSize_8c36e 0 17 (by decide +kernel))
theorem dJ3_checkFromIndexSize_8c36e_18 : decode cJ3_checkFromIndexSize_8c36e 18 = .ok (.iload_n 2, 1) := dz_iload_n_2 (y0 zE_cJ3_checkFromIndexSize_8c36e 0 18 (by decide +kernel))
theorem dJ3_checkFromIndexSize_8c36e_19 : decode cJ3_checkFromIndexSize_8c36e 19 = .ok (.invokestatic 103, 3) := dz_invokestatic (yu2 zE_cJ3_checkFromIndexSize_8c36e 0 19 (by decide +kernel))
theorem dJ3_checkFromIndexSize_8c36e_22 : decode cJ3_checkFromIndexSize_8c36e 22 = .ok (.athrow, 1) := dz_athrow (y0 zE_cJ3_checkFromIndexSize_8c36e 0 22 (by decide +kernel))
theorem dJ3_checkFromIndexSize_8c36e_23 : decode cJ3_checkFromIndexSize_8c36e 23 = .ok (.iload_n 0, 1) := dz_iload_n_0 (y0 zE_cJ3_checkFromIndexSize_8c36e 0 23 (by decide +kernel))
theorem dJ3_checkFromIndexSize_8c36e_24 : decode cJ3_checkFromIndexSize_8c36e 24 = .ok (.ireturn, 1) := dz_ireturn (y0 zE_cJ3_checkFromIndexSize_8c36e 0 24 (by decide +kernel))
theorem gd_wsL_player : wsL_player.all goodWord = true := by decide +kernel
set_option maxRecDepth 20000 in
theorem ggL_player_X7_player : GoodIn wsL_player wsX7_player := goodIn_ca (goodIn_ca (goodIn_ca (gi_q gd_wsL_player _ [(6, 15), (5, 1), (21, 5), (28, 23)] rfl) (goodIn_sub (fun _ h => List.mem_cons_of_mem _ (List.mem_append_left _ (List.mem_append_left _ (List.mem_append_right _ h)))) (by decide +kernel))) (gi_sub gd_wsL_player (fun _ h => List.mem_cons_of_mem _ (List.mem_append_left _ (List.mem_append_right _ h))))) (gi_sub gd_wsL_player (fun _ h => List.mem_cons_of_mem _ (List.mem_append_right _ h)))
set_option maxRecDepth 20000 in
theorem gL_player_X7_player : GoodIn wsL_player (wsV RL 7 RX7 yX7_player wsX7_player) := goodIn_app (goodIn_of _ (by decide +kernel)) ggL_player_X7_player
def zT_cL_player : List (List Nat) := [[25, 5, 42, 27, 28, 29, 21, 4, 182, 0, 7, 133, 181, 0, 13, 167, 0, 15, 58, 6, 4, 172, 58, 6, 5, 172, 58, 6, 6, 172, 3, 172]]
theorem zE_cL_player : zTab cL_player.data.toList zT_cL_player = true := by decide +kernel
theorem dL_player_0 : decode cL_player 0 = .ok (.aload 5, 2) := dz_aload (yu1 zE_cL_player 0 0 (by decide +kernel))
theorem dL_player_2 : decode cL_player 2 = .ok (.aload_n 0, 1) := dz_aload_n_0 (y0 zE_cL_player 0 2 (by decide +kernel))
theorem dL_player_3 : decode cL_player 3 = .ok (.iload_n 1, 1) := dz_iload_n_1 (y0 zE_cL_player 0 3 (by decide +kernel))
theorem dL_player_4 : decode cL_player 4 = .ok (.iload_n 2, 1) := dz_iload_n_2 (y0 zE_cL_player 0 4 (by decide +kernel))
theorem dL_player_5 : decode cL_player 5 = .ok (.iload_n 3, 1) := dz_iload_n_3 (y0 zE_cL_player 0 5 (by decide +kernel))
theorem dL_player_6 : decode cL_player 6 = .ok (.iload 4, 2) := dz_iload (yu1 zE_cL_player 0 6 (by decide +kernel))
theorem dL_player_8 : decode cL_player 8 = .ok (.invokevirtual 7, 3) := dz_invokevirtual (yu2 zE_cL_player 0 8 (by decide +kernel))
theorem dL_player_11 : decode cL_player 11 = .ok (.i2l, 1) := dz_i2l (y0 zE_cL_player 0 11 (by decide +kernel))
theorem dL_player_12 : decode cL_player 12 = .ok (.putfield 13, 3) := dz_putfield (yu2 zE_cL_player 0 12 (by decide +kernel))
theorem dL_player_15 : decode cL_player 15 = .ok (.goto 15, 3) := dz_goto (ys2 zE_cL_player 0 15 (by decide +kernel))
theorem dL_player_18 : decode cL_player 18 = .ok (.astore 6, 2) := dz_astore (yu1 zE_cL_player 0 18 (by decide +kernel))
theorem dL_player_20 : decode cL_player 20 = .ok (.iconst 1, 1) := dz_iconst_1 (y0 zE_cL_player 0 20 (by decide +kernel))
theorem dL_player_21 : decode cL_player 21 = .ok (.ireturn, 1) := dz_ireturn (y0 zE_cL_player 0 21 (by decide +kernel))
theorem dL_player_22 : decode cL_player 22 = .ok (.astore 6, 2) := dz_astore (yu1 zE_cL_player 0 22 (by decide +kernel))
theorem dL_player_24 : decode cL_player 24 = .ok (.iconst 2, 1) := dz_iconst_2 (y0 zE_cL_player 0 24 (by decide +kernel))
theorem dL_player_25 : decode cL_player 25 = .ok (.ireturn, 1) := dz_ireturn (y0 zE_cL_player 0 25 (by decide +kernel))
theorem dL_player_26 : decode cL_player 26 = .ok (.astore 6, 2) := dz_astore (yu1 zE_cL_player 0 26 (by decide +kernel))
theorem dL_player_28 : decode cL_player 28 = .ok (.iconst 3, 1) := dz_iconst_3 (y0 zE_cL_player 0 28 (by decide +kernel))
theorem dL_player_29 : decode cL_player 29 = .ok (.ireturn, 1) := dz_ireturn (y0 zE_cL_player 0 29 (by decide +kernel))
theorem dL_player_30 : decode cL_player 30 = .ok (.iconst 0, 1) := dz_iconst_0 (y0 zE_cL_player 0 30 (by decide +kernel))
theorem dL_player_31 : decode cL_player 31 = .ok (.ireturn, 1) := dz_ireturn (y0 zE_cL_player 0 31 (by decide +kernel))
theorem gd_wsL_learn : wsL_learn.all goodWord = true := by decide +kernel
set_option maxRecDepth 20000 in
theorem ggL_learn_X7_learn : GoodIn wsL_learn wsX7_learn := goodIn_ca (goodIn_ca (gi_q gd_wsL_learn _ [(6, 8), (5, 1), (14, 15), (31, 23)] rfl) (gi_sub gd_wsL_learn (fun _ h => List.mem_cons_of_mem _ (List.mem_append_left _ (List.mem_append_right _ h))))) (gi_sub gd_wsL_learn (fun _ h => List.mem_cons_of_mem _ (List.mem_append_right _ h)))
set_option maxRecDepth 20000 in
theorem gL_learn_X7_learn : GoodIn wsL_learn (wsV RL 25 RX7 yX7_learn wsX7_learn) := goodIn_app (goodIn_of _ (by decide +kernel)) ggL_learn_X7_learn
def zT_cL_learn : List (List Nat) := [[45, 42, 27, 28, 182, 0, 25, 133, 181, 0, 13, 167, 0, 11, 58, 4, 4, 172, 58, 4, 5, 172, 3, 172]]
theorem zE_cL_learn : zTab cL_learn.data.toList zT_cL_learn = true := by decide +kernel
theorem dL_learn_0 : decode cL_learn 0 = .ok (.aload_n 3, 1) := dz_aload_n_3 (y0 zE_cL_learn 0 0 (by decide +kernel))
theorem dL_learn_1 : decode cL_learn 1 = .ok (.aload_n 0, 1) := dz_aload_n_0 (y0 zE_cL_learn 0 1 (by decide +kernel))
theorem dL_learn_2 : decode cL_learn 2 = .ok (.iload_n 1, 1) := dz_iload_n_1 (y0 zE_cL_learn 0 2 (by decide +kernel))
theorem dL_learn_3 : decode cL_learn 3 = .ok (.iload_n 2, 1) := dz_iload_n_2 (y0 zE_cL_learn 0 3 (by decide +kernel))
theorem dL_learn_4 : decode cL_learn 4 = .ok (.invokevirtual 25, 3) := dz_invokevirtual (yu2 zE_cL_learn 0 4 (by decide +kernel))
theorem dL_learn_7 : decode cL_learn 7 = .ok (.i2l, 1) := dz_i2l (y0 zE_cL_learn 0 7 (by decide +kernel))
theorem dL_learn_8 : decode cL_learn 8 = .ok (.putfield 13, 3) := dz_putfield (yu2 zE_cL_learn 0 8 (by decide +kernel))
theorem dL_learn_11 : decode cL_learn 11 = .ok (.goto 11, 3) := dz_goto (ys2 zE_cL_learn 0 11 (by decide +kernel))
theorem dL_learn_14 : decode cL_learn 14 = .ok (.astore 4, 2) := dz_astore (yu1 zE_cL_learn 0 14 (by decide +kernel))
theorem dL_learn_16 : decode cL_learn 16 = .ok (.iconst 1, 1) := dz_iconst_1 (y0 zE_cL_learn 0 16 (by decide +kernel))
theorem dL_learn_17 : decode cL_learn 17 = .ok (.ireturn, 1) := dz_ireturn (y0 zE_cL_learn 0 17 (by decide +kernel))
theorem dL_learn_18 : decode cL_learn 18 = .ok (.astore 4, 2) := dz_astore (yu1 zE_cL_learn 0 18 (by decide +kernel))
theorem dL_learn_20 : decode cL_learn 20 = .ok (.iconst 2, 1) := dz_iconst_2 (y0 zE_cL_learn 0 20 (by decide +kernel))
theorem dL_learn_21 : decode cL_learn 21 = .ok (.ireturn, 1) := dz_ireturn (y0 zE_cL_learn 0 21 (by decide +kernel))
theorem dL_learn_22 : decode cL_learn 22 = .ok (.iconst 0, 1) := dz_iconst_0 (y0 zE_cL_learn 0 22 (by decide +kernel))
theorem dL_learn_23 : decode cL_learn 23 = .ok (.ireturn, 1) := dz_ireturn (y0 zE_cL_learn 0 23 (by decide +kernel))
theorem gd_wsL_song : wsL_song.all goodWord = true := by decide +kernel
set_option maxRecDepth 20000 in
theorem ggL_song_X7_song : GoodIn wsL_song wsX7_song := goodIn_ca (goodIn_ca (gi_q gd_wsL_song _ [(6, 9), (5, 1), (15, 3), (20, 19)] rfl) (gi_sub gd_wsL_song (fun _ h => List.mem_cons_of_mem _ (List.mem_append_left _ (List.mem_append_right _ h))))) (gi_sub gd_wsL_song (fun _ h => List.mem_cons_of_mem _ (List.mem_append_right _ h)))
set_option maxRecDepth 20000 in
theorem gL_song_X7_song : GoodIn wsL_song (wsV RL 29 RX7 yX7_song wsX7_song) := goodIn_app (goodIn_of _ (by decide +kernel)) ggL_song_X7_song
def zT_cL_song : List (List Nat) := [[25, 5, 42, 27, 28, 29, 21, 4, 182, 0, 29, 133, 181, 0, 13, 167, 0, 11, 58, 6, 4, 172, 58, 6, 5, 172, 3, 172]]
theorem zE_cL_song : zTab cL_song.data.toList zT_cL_song = true := by decide +kernel
theorem dL_song_0 : decode cL_song 0 = .ok (.aload 5, 2) := dz_aload (yu1 zE_cL_song 0 0 (by decide +kernel))
theorem dL_song_2 : decode cL_song 2 = .ok (.aload_n 0, 1) := dz_aload_n_0 (y0 zE_cL_song 0 2 (by decide +kernel))
theorem dL_song_3 : decode cL_song 3 = .ok (.iload_n 1, 1) := dz_iload_n_1 (y0 zE_cL_song 0 3 (by decide +kernel))
theorem dL_song_4 : decode cL_song 4 = .ok (.iload_n 2, 1) := dz_iload_n_2 (y0 zE_cL_song 0 4 (by decide +kernel))
theorem dL_song_5 : decode cL_song 5 = .ok (.iload_n 3, 1) := dz_iload_n_3 (y0 zE_cL_song 0 5 (by decide +kernel))
theorem dL_song_6 : decode cL_song 6 = .ok (.iload 4, 2) := dz_iload (yu1 zE_cL_song 0 6 (by decide +kernel))
theorem dL_song_8 : decode cL_song 8 = .ok (.invokevirtual 29, 3) := dz_invokevirtual (yu2 zE_cL_song 0 8 (by decide +kernel))
theorem dL_song_11 : decode cL_song 11 = .ok (.i2l, 1) := dz_i2l (y0 zE_cL_song 0 11 (by decide +kernel))
theorem dL_song_12 : decode cL_song 12 = .ok (.putfield 13, 3) := dz_putfield (yu2 zE_cL_song 0 12 (by decide +kernel))
theorem dL_song_15 : decode cL_song 15 = .ok (.goto 11, 3) := dz_goto (ys2 zE_cL_song 0 15 (by decide +kernel))
theorem dL_song_18 : decode cL_song 18 = .ok (.astore 6, 2) := dz_astore (yu1 zE_cL_song 0 18 (by decide +kernel))
theorem dL_song_20 : decode cL_song 20 = .ok (.iconst 1, 1) := dz_iconst_1 (y0 zE_cL_song 0 20 (by decide +kernel))
theorem dL_song_21 : decode cL_song 21 = .ok (.ireturn, 1) := dz_ireturn (y0 zE_cL_song 0 21 (by decide +kernel))
theorem dL_song_22 : decode cL_song 22 = .ok (.astore 6, 2) := dz_astore (yu1 zE_cL_song 0 22 (by decide +kernel))
theorem dL_song_24 : decode cL_song 24 = .ok (.iconst 2, 1) := dz_iconst_2 (y0 zE_cL_song 0 24 (by decide +kernel))
theorem dL_song_25 : decode cL_song 25 = .ok (.ireturn, 1) := dz_ireturn (y0 zE_cL_song 0 25 (by decide +kernel))
theorem dL_song_26 : decode cL_song 26 = .ok (.iconst 0, 1) := dz_iconst_0 (y0 zE_cL_song 0 26 (by decide +kernel))
theorem dL_song_27 : decode cL_song 27 = .ok (.ireturn, 1) := dz_ireturn (y0 zE_cL_song 0 27 (by decide +kernel))
theorem gd_wsL_feud : wsL_feud.all goodWord = true := by decide +kernel
set_option maxRecDepth 20000 in
theorem ggL_feud_X7_feud : GoodIn wsL_feud wsX7_feud := goodIn_ca (goodIn_ca (gi_q gd_wsL_feud _ [(6, 8), (5, 1), (14, 7), (23, 23)] rfl) (gi_sub gd_wsL_feud (fun _ h => List.mem_cons_of_mem _ (List.mem_append_left _ (List.mem_append_right _ h))))) (gi_sub gd_wsL_feud (fun _ h => List.mem_cons_of_mem _ (List.mem_append_right _ h)))
set_option maxRecDepth 20000 in
theorem gL_feud_X7_feud : GoodIn wsL_feud (wsV RL 32 RX7 yX7_feud wsX7_feud) := goodIn_app (goodIn_of _ (by decide +kernel)) ggL_feud_X7_feud
def zT_cL_feud : List (List Nat) := [[25, 4, 42, 27, 28, 29, 182, 0, 32, 153, 0, 7, 10, 167, 0, 4, 9, 181, 0, 13, 167, 0, 11, 58, 5, 4, 172, 58, 5, 5, 172, 3, 172]]
theorem zE_cL_feud : zTab cL_feud.data.toList zT_cL_feud = true := by decide +kernel
theorem dL_feud_0 : decode cL_feud 0 = .ok (.aload 4, 2) := dz_aload (yu1 zE_cL_feud 0 0 (by decide +kernel))
theorem dL_feud_2 : decode cL_feud 2 = .ok (.aload_n 0, 1) := dz_aload_n_0 (y0 zE_cL_feud 0 2 (by decide +kernel))
theorem dL_feud_3 : decode cL_feud 3 = .ok (.iload_n 1, 1) := dz_iload_n_1 (y0 zE_cL_feud 0 3 (by decide +kernel))
theorem dL_feud_4 : decode cL_feud 4 = .ok (.iload_n 2, 1) := dz_iload_n_2 (y0 zE_cL_feud 0 4 (by decide +kernel))
theorem dL_feud_5 : decode cL_feud 5 = .ok (.iload_n 3, 1) := dz_iload_n_3 (y0 zE_cL_feud 0 5 (by decide +kernel))
theorem dL_feud_6 : decode cL_feud 6 = .ok (.invokevirtual 32, 3) := dz_invokevirtual (yu2 zE_cL_feud 0 6 (by decide +kernel))
theorem dL_feud_9 : decode cL_feud 9 = .ok (.ifCond .eq 7, 3) := dz_ifCond_eq (ys2 zE_cL_feud 0 9 (by decide +kernel))
theorem dL_feud_12 : decode cL_feud 12 = .ok (.lconst 1, 1) := dz_lconst_1 (y0 zE_cL_feud 0 12 (by decide +kernel))
theorem dL_feud_13 : decode cL_feud 13 = .ok (.goto 4, 3) := dz_goto (ys2 zE_cL_feud 0 13 (by decide +kernel))
theorem dL_feud_16 : decode cL_feud 16 = .ok (.lconst 0, 1) := dz_lconst_0 (y0 zE_cL_feud 0 16 (by decide +kernel))
theorem dL_feud_17 : decode cL_feud 17 = .ok (.putfield 13, 3) := dz_putfield (yu2 zE_cL_feud 0 17 (by decide +kernel))
theorem dL_feud_20 : decode cL_feud 20 = .ok (.goto 11, 3) := dz_goto (ys2 zE_cL_feud 0 20 (by decide +kernel))
theorem dL_feud_23 : decode cL_feud 23 = .ok (.astore 5, 2) := dz_astore (yu1 zE_cL_feud 0 23 (by decide +kernel))
theorem dL_feud_25 : decode cL_feud 25 = .ok (.iconst 1, 1) := dz_iconst_1 (y0 zE_cL_feud 0 25 (by decide +kernel))
theorem dL_feud_26 : decode cL_feud 26 = .ok (.ireturn, 1) := dz_ireturn (y0 zE_cL_feud 0 26 (by decide +kernel))
theorem dL_feud_27 : decode cL_feud 27 = .ok (.astore 5, 2) := dz_astore (yu1 zE_cL_feud 0 27 (by decide +kernel))
theorem dL_feud_29 : decode cL_feud 29 = .ok (.iconst 2, 1) := dz_iconst_2 (y0 zE_cL_feud 0 29 (by decide +kernel))
theorem dL_feud_30 : decode cL_feud 30 = .ok (.ireturn, 1) := dz_ireturn (y0 zE_cL_feud 0 30 (by decide +kernel))
theorem dL_feud_31 : decode cL_feud 31 = .ok (.iconst 0, 1) := dz_iconst_0 (y0 zE_cL_feud 0 31 (by decide +kernel))
theorem dL_feud_32 : decode cL_feud 32 = .ok (.ireturn, 1) := dz_ireturn (y0 zE_cL_feud 0 32 (by decide +kernel))
theorem gd_wsL_road : wsL_road.all goodWord = true := by decide +kernel
set_option maxRecDepth 20000 in
theorem ggL_road_X7_road : GoodIn wsL_road wsX7_road := goodIn_ca (goodIn_ca (gi_q gd_wsL_road _ [(6, 6), (5, 1), (12, 25), (39, 17)] rfl) (gi_sub gd_wsL_road (fun _ h => List.mem_cons_of_mem _ (List.mem_append_left _ (List.mem_append_right _ h))))) (gi_sub gd_wsL_road (fun _ h => List.mem_cons_of_mem _ (List.mem_append_right _ h)))
set_option maxRecDepth 20000 in
theorem gL_road_X7_road : GoodIn wsL_road (wsV RL 36 RX7 yX7_road wsX7_road) := goodIn_app (goodIn_of _ (by decide +kernel)) ggL_road_X7_road
def zT_cL_road : List (List Nat) := [[25, 4, 42, 27, 28, 29, 182, 0, 36, 133, 181, 0, 13, 167, 0, 11, 58, 5, 4, 172, 58, 5, 5, 172, 3, 172]]
theorem zE_cL_road : zTab cL_road.data.toList zT_cL_road = true := by decide +kernel
theorem dL_road_0 : decode cL_road 0 = .ok (.aload 4, 2) := dz_aload (yu1 zE_cL_road 0 0 (by decide +kernel))
theorem dL_road_2 : decode cL_road 2 = .ok (.aload_n 0, 1) := dz_aload_n_0 (y0 zE_cL_road 0 2 (by decide +kernel))
theorem dL_road_3 : decode cL_road 3 = .ok (.iload_n 1, 1) := dz_iload_n_1 (y0 zE_cL_road 0 3 (by decide +kernel))
theorem dL_road_4 : decode cL_road 4 = .ok (.iload_n 2, 1) := dz_iload_n_2 (y0 zE_cL_road 0 4 (by decide +kernel))
theorem dL_road_5 : decode cL_road 5 = .ok (.iload_n 3, 1) := dz_iload_n_3 (y0 zE_cL_road 0 5 (by decide +kernel))
theorem dL_road_6 : decode cL_road 6 = .ok (.invokevirtual 36, 3) := dz_invokevirtual (yu2 zE_cL_road 0 6 (by decide +kernel))
theorem dL_road_9 : decode cL_road 9 = .ok (.i2l, 1) := dz_i2l (y0 zE_cL_road 0 9 (by decide +kernel))
theorem dL_road_10 : decode cL_road 10 = .ok (.putfield 13, 3) := dz_putfield (yu2 zE_cL_road 0 10 (by decide +kernel))
theorem dL_road_13 : decode cL_road 13 = .ok (.goto 11, 3) := dz_goto (ys2 zE_cL_road 0 13 (by decide +kernel))
theorem dL_road_16 : decode cL_road 16 = .ok (.astore 5, 2) := dz_astore (yu1 zE_cL_road 0 16 (by decide +kernel))
theorem dL_road_18 : decode cL_road 18 = .ok (.iconst 1, 1) := dz_iconst_1 (y0 zE_cL_road 0 18 (by decide +kernel))
theorem dL_road_19 : decode cL_road 19 = .ok (.ireturn, 1) := dz_ireturn (y0 zE_cL_road 0 19 (by decide +kernel))
theorem dL_road_20 : decode cL_road 20 = .ok (.astore 5, 2) := dz_astore (yu1 zE_cL_road 0 20 (by decide +kernel))
theorem dL_road_22 : decode cL_road 22 = .ok (.iconst 2, 1) := dz_iconst_2 (y0 zE_cL_road 0 22 (by decide +kernel))
theorem dL_road_23 : decode cL_road 23 = .ok (.ireturn, 1) := dz_ireturn (y0 zE_cL_road 0 23 (by decide +kernel))
theorem dL_road_24 : decode cL_road 24 = .ok (.iconst 0, 1) := dz_iconst_0 (y0 zE_cL_road 0 24 (by decide +kernel))
theorem dL_road_25 : decode cL_road 25 = .ok (.ireturn, 1) := dz_ireturn (y0 zE_cL_road 0 25 (by decide +kernel))
theorem gd_wsL_band : wsL_band.all goodWord = true := by decide +kernel
set_option maxRecDepth 20000 in
theorem ggL_band_X7_band : GoodIn wsL_band wsX7_band := goodIn_ca (goodIn_ca (gi_q gd_wsL_band _ [(6, 9), (5, 1), (15, 9), (26, 18)] rfl) (gi_sub gd_wsL_band (fun _ h => List.mem_cons_of_mem _ (List.mem_append_left _ (List.mem_append_right _ h))))) (gi_sub gd_wsL_band (fun _ h => List.mem_cons_of_mem _ (List.mem_append_right _ h)))
set_option maxRecDepth 20000 in
theorem gL_band_X7_band : GoodIn wsL_band (wsV RL 40 RX7 yX7_band wsX7_band) := goodIn_app (goodIn_of _ (by decide +kernel)) ggL_band_X7_band
theorem dL_band_0 : decode cL_band 0 = .ok (.aload_n 2, 1) := dkT (by decide +kernel)
theorem dL_band_1 : decode cL_band 1 = .ok (.aload_n 0, 1) := dkT (by decide +kernel)
theorem dL_band_2 : decode cL_band 2 = .ok (.iload_n 1, 1) := dkT (by decide +kernel)
theorem dL_band_3 : decode cL_band 3 = .ok (.invokevirtual 40, 3) := dkT (by decide +kernel)
theorem dL_band_6 : decode cL_band 6 = .ok (.i2l, 1) := dkT (by decide +kernel)
theorem dL_band_7 : decode cL_band 7 = .ok (.putfield 13, 3) := dkT (by decide +kernel)
theorem dL_band_10 : decode cL_band 10 = .ok (.goto 9, 3) := dkT (by decide +kernel)
theorem dL_band_13 : decode cL_band 13 = .ok (.astore_n 3, 1) := dkT (by decide +kernel)
theorem dL_band_14 : decode cL_band 14 = .ok (.iconst 1, 1) := dkT (by decide +kernel)
theorem dL_band_15 : decode cL_band 15 = .ok (.ireturn, 1) := dkT (by decide +kernel)
theorem dL_band_16 : decode cL_band 16 = .ok (.astore_n 3, 1) := dkT (by decide +kernel)
theorem dL_band_17 : decode cL_band 17 = .ok (.iconst 2, 1) := dkT (by decide +kernel)
theorem dL_band_18 : decode cL_band 18 = .ok (.ireturn, 1) := dkT (by decide +kernel)
theorem dL_band_19 : decode cL_band 19 = .ok (.iconst 0, 1) := dkT (by decide +kernel)
theorem dL_band_20 : decode cL_band 20 = .ok (.ireturn, 1) := dkT (by decide +kernel)
theorem gd_wsL_ask : wsL_ask.all goodWord = true := by decide +kernel
set_option maxRecDepth 20000 in
theorem ggL_ask_X7_ask : GoodIn wsL_ask wsX7_ask := goodIn_ca (goodIn_ca (goodIn_ca (gi_q gd_wsL_ask _ [(6, 18), (5, 1), (24, 22), (48, 27)] rfl) (goodIn_sub (fun _ h => List.mem_cons_of_mem _ (List.mem_append_left _ (List.mem_append_left _ (List.mem_append_right _ h)))) (by decide +kernel))) (gi_sub gd_wsL_ask (fun _ h => List.mem_cons_of_mem _ (List.mem_append_left _ (List.mem_append_right _ h))))) (gi_sub gd_wsL_ask (fun _ h => List.mem_cons_of_mem _ (List.mem_append_right _ h)))
set_option maxRecDepth 20000 in
theorem gL_ask_X7_ask : GoodIn wsL_ask (wsV RL 44 RX7 yX7_ask wsX7_ask) := goodIn_app (goodIn_of _ (by decide +kernel)) ggL_ask_X7_ask
def zT_cL_ask : List (List Nat) := [[25, 7, 42, 27, 28, 29, 21, 4, 21, 5, 21, 6, 182, 0, 44, 133, 181, 0, 13, 167, 0, 15, 58, 8, 4, 172, 58, 8, 5, 172, 58, 8, 6, 172, 3, 172]]
theorem zE_cL_ask : zTab cL_ask.data.toList zT_cL_ask = true := by decide +kernel
theorem dL_ask_0 : decode cL_ask 0 = .ok (.aload 7, 2) := dz_aload (yu1 zE_cL_ask 0 0 (by decide +kernel))
theorem dL_ask_2 : decode cL_ask 2 = .ok (.aload_n 0, 1) := dz_aload_n_0 (y0 zE_cL_ask 0 2 (by decide +kernel))
theorem dL_ask_3 : decode cL_ask 3 = .ok (.iload_n 1, 1) := dz_iload_n_1 (y0 zE_cL_ask 0 3 (by decide +kernel))
theorem dL_ask_4 : decode cL_ask 4 = .ok (.iload_n 2, 1) := dz_iload_n_2 (y0 zE_cL_ask 0 4 (by decide +kernel))
theorem dL_ask_5 : decode cL_ask 5 = .ok (.iload_n 3, 1) := dz_iload_n_3 (y0 zE_cL_ask 0 5 (by decide +kernel))
theorem dL_ask_6 : decode cL_ask 6 = .ok (.iload 4, 2) := dz_iload (yu1 zE_cL_ask 0 6 (by decide +kernel))
theorem dL_ask_8 : decode cL_ask 8 = .ok (.iload 5, 2) := dz_iload (yu1 zE_cL_ask 0 8 (by decide +kernel))
theorem dL_ask_10 : decode cL_ask 10 = .ok (.iload 6, 2) := dz_iload (yu1 zE_cL_ask 0 10 (by decide +kernel))
theorem dL_ask_12 : decode cL_ask 12 = .ok (.invokevirtual 44, 3) := dz_invokevirtual (yu2 zE_cL_ask 0 12 (by decide +kernel))
theorem dL_ask_15 : decode cL_ask 15 = .ok (.i2l, 1) := dz_i2l (y0 zE_cL_ask 0 15 (by decide +kernel))
theorem dL_ask_16 : decode cL_ask 16 = .ok (.putfield 13, 3) := dz_putfield (yu2 zE_cL_ask 0 16 (by decide +kernel))
theorem dL_ask_19 : decode cL_ask 19 = .ok (.goto 15, 3) := dz_goto (ys2 zE_cL_ask 0 19 (by decide +kernel))
theorem dL_ask_22 : decode cL_ask 22 = .ok (.astore 8, 2) := dz_astore (yu1 zE_cL_ask 0 22 (by decide +kernel))
theorem dL_ask_24 : decode cL_ask 24 = .ok (.iconst 1, 1) := dz_iconst_1 (y0 zE_cL_ask 0 24 (by decide +kernel))
theorem dL_ask_25 : decode cL_ask 25 = .ok (.ireturn, 1) := dz_ireturn (y0 zE_cL_ask 0 25 (by decide +kernel))
theorem dL_ask_26 : decode cL_ask 26 = .ok (.astore 8, 2) := dz_astore (yu1 zE_cL_ask 0 26 (by decide +kernel))
theorem dL_ask_28 : decode cL_ask 28 = .ok (.iconst 2, 1) := dz_iconst_2 (y0 zE_cL_ask 0 28 (by decide +kernel))
theorem dL_ask_29 : decode cL_ask 29 = .ok (.ireturn, 1) := dz_ireturn (y0 zE_cL_ask 0 29 (by decide +kernel))
theorem dL_ask_30 : decode cL_ask 30 = .ok (.astore 8, 2) := dz_astore (yu1 zE_cL_ask 0 30 (by decide +kernel))
theorem dL_ask_32 : decode cL_ask 32 = .ok (.iconst 3, 1) := dz_iconst_3 (y0 zE_cL_ask 0 32 (by decide +kernel))
theorem dL_ask_33 : decode cL_ask 33 = .ok (.ireturn, 1) := dz_ireturn (y0 zE_cL_ask 0 33 (by decide +kernel))
theorem dL_ask_34 : decode cL_ask 34 = .ok (.iconst 0, 1) := dz_iconst_0 (y0 zE_cL_ask 0 34 (by decide +kernel))
theorem dL_ask_35 : decode cL_ask 35 = .ok (.ireturn, 1) := dz_ireturn (y0 zE_cL_ask 0 35 (by decide +kernel))
theorem gd_wsL_fix : wsL_fix.all goodWord = true := by decide +kernel
set_option maxRecDepth 20000 in
theorem ggL_fix_X7_fix : GoodIn wsL_fix wsX7_fix := goodIn_ca (goodIn_ca (gi_q gd_wsL_fix _ [(6, 14), (5, 1), (20, 136), (158, 46)] rfl) (gi_sub gd_wsL_fix (fun _ h => List.mem_cons_of_mem _ (List.mem_append_left _ (List.mem_append_right _ h))))) (gi_sub gd_wsL_fix (fun _ h => List.mem_cons_of_mem _ (List.mem_append_right _ h)))
set_option maxRecDepth 20000 in
theorem gL_fix_X7_fix : GoodIn wsL_fix (wsV RL 48 RX7 yX7_fix wsX7_fix) := goodIn_app (goodIn_of _ (by decide +kernel)) ggL_fix_X7_fix
theorem dL_fix_0 : decode cL_fix 0 = .ok (.aload_n 2, 1) := dkT (by decide +kernel)
theorem dL_fix_1 : decode cL_fix 1 = .ok (.aload_n 0, 1) := dkT (by decide +kernel)
theorem dL_fix_2 : decode cL_fix 2 = .ok (.iload_n 1, 1) := dkT (by decide +kernel)
theorem dL_fix_3 : decode cL_fix 3 = .ok (.invokevirtual 48, 3) := dkT (by decide +kernel)
theorem dL_fix_6 : decode cL_fix 6 = .ok (.i2l, 1) := dkT (by decide +kernel)
theorem dL_fix_7 : decode cL_fix 7 = .ok (.putfield 13, 3) := dkT (by decide +kernel)
theorem dL_fix_10 : decode cL_fix 10 = .ok (.goto 9, 3) := dkT (by decide +kernel)
theorem dL_fix_13 : decode cL_fix 13 = .ok (.astore_n 3, 1) := dkT (by decide +kernel)
theorem dL_fix_14 : decode cL_fix 14 = .ok (.iconst 1, 1) := dkT (by decide +kernel)
theorem dL_fix_15 : decode cL_fix 15 = .ok (.ireturn, 1) := dkT (by decide +kernel)
theorem dL_fix_16 : decode cL_fix 16 = .ok (.astore_n 3, 1) := dkT (by decide +kernel)
theorem dL_fix_17 : decode cL_fix 17 = .ok (.iconst 2, 1) := dkT (by decide +kernel)
theorem dL_fix_18 : decode cL_fix 18 = .ok (.ireturn, 1) := dkT (by decide +kernel)
theorem dL_fix_19 : decode cL_fix 19 = .ok (.iconst 0, 1) := dkT (by decide +kernel)
theorem dL_fix_20 : decode cL_fix 20 = .ok (.ireturn, 1) := dkT (by decide +kernel)
theorem gd_wsL_cancel : wsL_cancel.all goodWord = true := by decide +kernel
set_option maxRecDepth 20000 in
theorem ggL_cancel_X7_cancel : GoodIn wsL_cancel wsX7_cancel := goodIn_ca (goodIn_ca (gi_q gd_wsL_cancel _ [(6, 13), (5, 1), (19, 16), (37, 27)] rfl) (gi_sub gd_wsL_cancel (fun _ h => List.mem_cons_of_mem _ (List.mem_append_left _ (List.mem_append_right _ h))))) (gi_sub gd_wsL_cancel (fun _ h => List.mem_cons_of_mem _ (List.mem_append_right _ h)))
set_option maxRecDepth 20000 in
theorem gL_cancel_X7_cancel : GoodIn wsL_cancel (wsV RL 51 RX7 yX7_cancel wsX7_cancel) := goodIn_app (goodIn_of _ (by decide +kernel)) ggL_cancel_X7_cancel
theorem dL_cancel_0 : decode cL_cancel 0 = .ok (.aload_n 2, 1) := dkT (by decide +kernel)
theorem dL_cancel_1 : decode cL_cancel 1 = .ok (.aload_n 0, 1) := dkT (by decide +kernel)
theorem dL_cancel_2 : decode cL_cancel 2 = .ok (.iload_n 1, 1) := dkT (by decide +kernel)
theorem dL_cancel_3 : decode cL_cancel 3 = .ok (.invokevirtual 51, 3) := dkT (by decide +kernel)
theorem dL_cancel_6 : decode cL_cancel 6 = .ok (.i2l, 1) := dkT (by decide +kernel)
theorem dL_cancel_7 : decode cL_cancel 7 = .ok (.putfield 13, 3) := dkT (by decide +kernel)
theorem dL_cancel_10 : decode cL_cancel 10 = .ok (.goto 9, 3) := dkT (by decide +kernel)
theorem dL_cancel_13 : decode cL_cancel 13 = .ok (.astore_n 3, 1) := dkT (by decide +kernel)
theorem dL_cancel_14 : decode cL_cancel 14 = .ok (.iconst 1, 1) := dkT (by decide +kernel)
theorem dL_cancel_15 : decode cL_cancel 15 = .ok (.ireturn, 1) := dkT (by decide +kernel)
theorem dL_cancel_16 : decode cL_cancel 16 = .ok (.astore_n 3, 1) := dkT (by decide +kernel)
theorem dL_cancel_17 : decode cL_cancel 17 = .ok (.iconst 2, 1) := dkT (by decide +kernel)
theorem dL_cancel_18 : decode cL_cancel 18 = .ok (.ireturn, 1) := dkT (by decide +kernel)
theorem dL_cancel_19 : decode cL_cancel 19 = .ok (.iconst 0, 1) := dkT (by decide +kernel)
theorem dL_cancel_20 : decode cL_cancel 20 = .ok (.ireturn, 1) := dkT (by decide +kernel)
theorem gd_wsL_ill : wsL_ill.all goodWord = true := by decide +kernel
set_option maxRecDepth 20000 in
theorem ggL_ill_X7_ill : GoodIn wsL_ill wsX7_ill := goodIn_ca (goodIn_ca (gi_q gd_wsL_ill _ [(6, 9), (5, 1), (15, 137), (154, 46)] rfl) (gi_sub gd_wsL_ill (fun _ h => List.mem_cons_of_mem _ (List.mem_append_left _ (List.mem_append_right _ h))))) (gi_sub gd_wsL_ill (fun _ h => List.mem_cons_of_mem _ (List.mem_append_right _ h)))
set_option maxRecDepth 20000 in
theorem gL_ill_X7_ill : GoodIn wsL_ill (wsV RL 54 RX7 yX7_ill wsX7_ill) := goodIn_app (goodIn_of _ (by decide +kernel)) ggL_ill_X7_ill
def zT_cL_ill : List (List Nat) := [[45, 42, 27, 28, 182, 0, 54, 133, 181, 0, 13, 167, 0, 11, 58, 4, 4, 172, 58, 4, 5, 172, 3, 172]]
theorem zE_cL_ill : zTab cL_ill.data.toList zT_cL_ill = true := by decide +kernel
theorem dL_ill_0 : decode cL_ill 0 = .ok (.aload_n 3, 1) := dz_aload_n_3 (y0 zE_cL_ill 0 0 (by decide +kernel))
theorem dL_ill_1 : decode cL_ill 1 = .ok (.aload_n 0, 1) := dz_aload_n_0 (y0 zE_cL_ill 0 1 (by decide +kernel))
theorem dL_ill_2 : decode cL_ill 2 = .ok (.iload_n 1, 1) := dz_iload_n_1 (y0 zE_cL_ill 0 2 (by decide +kernel))
theorem dL_ill_3 : decode cL_ill 3 = .ok (.iload_n 2, 1) := dz_iload_n_2 (y0 zE_cL_ill 0 3 (by decide +kernel))
theorem dL_ill_4 : decode cL_ill 4 = .ok (.invokevirtual 54, 3) := dz_invokevirtual (yu2 zE_cL_ill 0 4 (by decide +kernel))
theorem dL_ill_7 : decode cL_ill 7 = .ok (.i2l, 1) := dz_i2l (y0 zE_cL_ill 0 7 (by decide +kernel))
theorem dL_ill_8 : decode cL_ill 8 = .ok (.putfield 13, 3) := dz_putfield (yu2 zE_cL_ill 0 8 (by decide +kernel))
theorem dL_ill_11 : decode cL_ill 11 = .ok (.goto 11, 3) := dz_goto (ys2 zE_cL_ill 0 11 (by decide +kernel))
theorem dL_ill_14 : decode cL_ill 14 = .ok (.astore 4, 2) := dz_astore (yu1 zE_cL_ill 0 14 (by decide +kernel))
theorem dL_ill_16 : decode cL_ill 16 = .ok (.iconst 1, 1) := dz_iconst_1 (y0 zE_cL_ill 0 16 (by decide +kernel))
theorem dL_ill_17 : decode cL_ill 17 = .ok (.ireturn, 1) := dz_ireturn (y0 zE_cL_ill 0 17 (by decide +kernel))
theorem dL_ill_18 : decode cL_ill 18 = .ok (.astore 4, 2) := dz_astore (yu1 zE_cL_ill 0 18 (by decide +kernel))
theorem dL_ill_20 : decode cL_ill 20 = .ok (.iconst 2, 1) := dz_iconst_2 (y0 zE_cL_ill 0 20 (by decide +kernel))
theorem dL_ill_21 : decode cL_ill 21 = .ok (.ireturn, 1) := dz_ireturn (y0 zE_cL_ill 0 21 (by decide +kernel))
theorem dL_ill_22 : decode cL_ill 22 = .ok (.iconst 0, 1) := dz_iconst_0 (y0 zE_cL_ill 0 22 (by decide +kernel))
theorem dL_ill_23 : decode cL_ill 23 = .ok (.ireturn, 1) := dz_ireturn (y0 zE_cL_ill 0 23 (by decide +kernel))
theorem gd_wsL_late : wsL_late.all goodWord = true := by decide +kernel
set_option maxRecDepth 20000 in
theorem ggL_late_X7_late : GoodIn wsL_late wsX7_late := goodIn_ca (goodIn_ca (goodIn_ca (gi_q gd_wsL_late _ [(6, 11), (5, 1), (17, 16), (35, 27)] rfl) (goodIn_sub (fun _ h => List.mem_cons_of_mem _ (List.mem_append_left _ (List.mem_append_left _ (List.mem_append_right _ h)))) (by decide +kernel))) (gi_sub gd_wsL_late (fun _ h => List.mem_cons_of_mem _ (List.mem_append_left _ (List.mem_append_right _ h))))) (gi_sub gd_wsL_late (fun _ h => List.mem_cons_of_mem _ (List.mem_append_right _ h)))
set_option maxRecDepth 20000 in
theorem gL_late_X7_late : GoodIn wsL_late (wsV RL 57 RX7 yX7_late wsX7_late) := goodIn_app (goodIn_of _ (by decide +kernel)) ggL_late_X7_late
def zT_cL_late : List (List Nat) := [[45, 42, 27, 28, 182, 0, 57, 133, 181, 0, 13, 167, 0, 15, 58, 4, 4, 172, 58, 4, 5, 172, 58, 4, 6, 172, 3, 172]]
theorem zE_cL_late : zTab cL_late.data.toList zT_cL_late = true := by decide +kernel
theorem dL_late_0 : decode cL_late 0 = .ok (.aload_n 3, 1) := dz_aload_n_3 (y0 zE_cL_late 0 0 (by decide +kernel))
theorem dL_late_1 : decode cL_late 1 = .ok (.aload_n 0, 1) := dz_aload_n_0 (y0 zE_cL_late 0 1 (by decide +kernel))
theorem dL_late_2 : decode cL_late 2 = .ok (.iload_n 1, 1) := dz_iload_n_1 (y0 zE_cL_late 0 2 (by decide +kernel))
theorem dL_late_3 : decode cL_late 3 = .ok (.iload_n 2, 1) := dz_iload_n_2 (y0 zE_cL_late 0 3 (by decide +kernel))
theorem dL_late_4 : decode cL_late 4 = .ok (.invokevirtual 57, 3) := dz_invokevirtual (yu2 zE_cL_late 0 4 (by decide +kernel))
theorem dL_late_7 : decode cL_late 7 = .ok (.i2l, 1) := dz_i2l (y0 zE_cL_late 0 7 (by decide +kernel))
theorem dL_late_8 : decode cL_late 8 = .ok (.putfield 13, 3) := dz_putfield (yu2 zE_cL_late 0 8 (by decide +kernel))
theorem dL_late_11 : decode cL_late 11 = .ok (.goto 15, 3) := dz_goto (ys2 zE_cL_late 0 11 (by decide +kernel))
theorem dL_late_14 : decode cL_late 14 = .ok (.astore 4, 2) := dz_astore (yu1 zE_cL_late 0 14 (by decide +kernel))
theorem dL_late_16 : decode cL_late 16 = .ok (.iconst 1, 1) := dz_iconst_1 (y0 zE_cL_late 0 16 (by decide +kernel))
theorem dL_late_17 : decode cL_late 17 = .ok (.ireturn, 1) := dz_ireturn (y0 zE_cL_late 0 17 (by decide +kernel))
theorem dL_late_18 : decode cL_late 18 = .ok (.astore 4, 2) := dz_astore (yu1 zE_cL_late 0 18 (by decide +kernel))
theorem dL_late_20 : decode cL_late 20 = .ok (.iconst 2, 1) := dz_iconst_2 (y0 zE_cL_late 0 20 (by decide +kernel))
theorem dL_late_21 : decode cL_late 21 = .ok (.ireturn, 1) := dz_ireturn (y0 zE_cL_late 0 21 (by decide +kernel))
theorem dL_late_22 : decode cL_late 22 = .ok (.astore 4, 2) := dz_astore (yu1 zE_cL_late 0 22 (by decide +kernel))
theorem dL_late_24 : decode cL_late 24 = .ok (.iconst 3, 1) := dz_iconst_3 (y0 zE_cL_late 0 24 (by decide +kernel))
theorem dL_late_25 : decode cL_late 25 = .ok (.ireturn, 1) := dz_ireturn (y0 zE_cL_late 0 25 (by decide +kernel))
theorem dL_late_26 : decode cL_late 26 = .ok (.iconst 0, 1) := dz_iconst_0 (y0 zE_cL_late 0 26 (by decide +kernel))
theorem dL_late_27 : decode cL_late 27 = .ok (.ireturn, 1) := dz_ireturn (y0 zE_cL_late 0 27 (by decide +kernel))
theorem gd_wsL_pass : wsL_pass.all goodWord = true := by decide +kernel
set_option maxRecDepth 20000 in
theorem ggL_pass_X7_pass : GoodIn wsL_pass wsX7_pass := goodIn_ca (goodIn_ca (gi_q gd_wsL_pass _ [(6, 9), (5, 1), (15, 120), (137, 48)] rfl) (gi_sub gd_wsL_pass (fun _ h => List.mem_cons_of_mem _ (List.mem_append_left _ (List.mem_append_right _ h))))) (gi_sub gd_wsL_pass (fun _ h => List.mem_cons_of_mem _ (List.mem_append_right _ h)))
set_option maxRecDepth 20000 in
theorem gL_pass_X7_pass : GoodIn wsL_pass (wsV RL 60 RX7 yX7_pass wsX7_pass) := goodIn_app (goodIn_of _ (by decide +kernel)) ggL_pass_X7_pass
theorem dL_pass_0 : decode cL_pass 0 = .ok (.aload_n 2, 1) := dkT (by decide +kernel)
theorem dL_pass_1 : decode cL_pass 1 = .ok (.aload_n 0, 1) := dkT (by decide +kernel)
theorem dL_pass_2 : decode cL_pass 2 = .ok (.iload_n 1, 1) := dkT (by decide +kernel)
theorem dL_pass_3 : decode cL_pass 3 = .ok (.invokevirtual 60, 3) := dkT (by decide +kernel)
theorem dL_pass_6 : decode cL_pass 6 = .ok (.i2l, 1) := dkT (by decide +kernel)
theorem dL_pass_7 : decode cL_pass 7 = .ok (.putfield 13, 3) := dkT (by decide +kernel)
theorem dL_pass_10 : decode cL_pass 10 = .ok (.goto 9, 3) := dkT (by decide +kernel)
theorem dL_pass_13 : decode cL_pass 13 = .ok (.astore_n 3, 1) := dkT (by decide +kernel)
theorem dL_pass_14 : decode cL_pass 14 = .ok (.iconst 1, 1) := dkT (by decide +kernel)
theorem dL_pass_15 : decode cL_pass 15 = .ok (.ireturn, 1) := dkT (by decide +kernel)
theorem dL_pass_16 : decode cL_pass 16 = .ok (.astore_n 3, 1) := dkT (by decide +kernel)
theorem dL_pass_17 : decode cL_pass 17 = .ok (.iconst 2, 1) := dkT (by decide +kernel)
theorem dL_pass_18 : decode cL_pass 18 = .ok (.ireturn, 1) := dkT (by decide +kernel)
theorem dL_pass_19 : decode cL_pass 19 = .ok (.iconst 0, 1) := dkT (by decide +kernel)
theorem dL_pass_20 : decode cL_pass 20 = .ok (.ireturn, 1) := dkT (by decide +kernel)
theorem gd_wsL_ofPlayer : wsL_ofPlayer.all goodWord = true := by decide +kernel
set_option maxRecDepth 20000 in
theorem ggL_ofPlayer_X7_ofPlayer : GoodIn wsL_ofPlayer wsX7_ofPlayer := goodIn_ca (goodIn_ca (gi_q gd_wsL_ofPlayer _ [(6, 15), (5, 1), (21, 19), (42, 35)] rfl) (gi_sub gd_wsL_ofPlayer (fun _ h => List.mem_cons_of_mem _ (List.mem_append_left _ (List.mem_append_right _ h))))) (gi_sub gd_wsL_ofPlayer (fun _ h => List.mem_cons_of_mem _ (List.mem_append_right _ h)))
set_option maxRecDepth 20000 in
theorem gL_ofPlayer_X7_ofPlayer : GoodIn wsL_ofPlayer (wsV RL 63 RX7 yX7_ofPlayer wsX7_ofPlayer) := goodIn_app (goodIn_of _ (by decide +kernel)) ggL_ofPlayer_X7_ofPlayer
def zT_cL_ofPlayer : List (List Nat) := [[45, 42, 27, 28, 182, 0, 63, 133, 181, 0, 13, 167, 0, 11, 58, 4, 4, 172, 58, 4, 5, 172, 3, 172]]
theorem zE_cL_ofPlayer : zTab cL_ofPlayer.data.toList zT_cL_ofPlayer = true := by decide +kernel
theorem dL_ofPlayer_0 : decode cL_ofPlayer 0 = .ok (.aload_n 3, 1) := dz_aload_n_3 (y0 zE_cL_ofPlayer 0 0 (by decide +kernel))
theorem dL_ofPlayer_1 : decode cL_ofPlayer 1 = .ok (.aload_n 0, 1) := dz_aload_n_0 (y0 zE_cL_ofPlayer 0 1 (by decide +kernel))
theorem dL_ofPlayer_2 : decode cL_ofPlayer 2 = .ok (.iload_n 1, 1) := dz_iload_n_1 (y0 zE_cL_ofPlayer 0 2 (by decide +kernel))
theorem dL_ofPlayer_3 : decode cL_ofPlayer 3 = .ok (.iload_n 2, 1) := dz_iload_n_2 (y0 zE_cL_ofPlayer 0 3 (by decide +kernel))
theorem dL_ofPlayer_4 : decode cL_ofPlayer 4 = .ok (.invokevirtual 63, 3) := dz_invokevirtual (yu2 zE_cL_ofPlayer 0 4 (by decide +kernel))
theorem dL_ofPlayer_7 : decode cL_ofPlayer 7 = .ok (.i2l, 1) := dz_i2l (y0 zE_cL_ofPlayer 0 7 (by decide +kernel))
theorem dL_ofPlayer_8 : decode cL_ofPlayer 8 = .ok (.putfield 13, 3) := dz_putfield (yu2 zE_cL_ofPlayer 0 8 (by decide +kernel))
theorem dL_ofPlayer_11 : decode cL_ofPlayer 11 = .ok (.goto 11, 3) := dz_goto (ys2 zE_cL_ofPlayer 0 11 (by decide +kernel))
theorem dL_ofPlayer_14 : decode cL_ofPlayer 14 = .ok (.astore 4, 2) := dz_astore (yu1 zE_cL_ofPlayer 0 14 (by decide +kernel))
theorem dL_ofPlayer_16 : decode cL_ofPlayer 16 = .ok (.iconst 1, 1) := dz_iconst_1 (y0 zE_cL_ofPlayer 0 16 (by decide +kernel))
theorem dL_ofPlayer_17 : decode cL_ofPlayer 17 = .ok (.ireturn, 1) := dz_ireturn (y0 zE_cL_ofPlayer 0 17 (by decide +kernel))
theorem dL_ofPlayer_18 : decode cL_ofPlayer 18 = .ok (.astore 4, 2) := dz_astore (yu1 zE_cL_ofPlayer 0 18 (by decide +kernel))
theorem dL_ofPlayer_20 : decode cL_ofPlayer 20 = .ok (.iconst 2, 1) := dz_iconst_2 (y0 zE_cL_ofPlayer 0 20 (by decide +kernel))
theorem dL_ofPlayer_21 : decode cL_ofPlayer 21 = .ok (.ireturn, 1) := dz_ireturn (y0 zE_cL_ofPlayer 0 21 (by decide +kernel))
theorem dL_ofPlayer_22 : decode cL_ofPlayer 22 = .ok (.iconst 0, 1) := dz_iconst_0 (y0 zE_cL_ofPlayer 0 22 (by decide +kernel))
theorem dL_ofPlayer_23 : decode cL_ofPlayer 23 = .ok (.ireturn, 1) := dz_ireturn (y0 zE_cL_ofPlayer 0 23 (by decide +kernel))
theorem gd_wsL_ofSong : wsL_ofSong.all goodWord = true := by decide +kernel
set_option maxRecDepth 20000 in
theorem ggL_ofSong_X7_ofSong : GoodIn wsL_ofSong wsX7_ofSong := goodIn_ca (goodIn_ca (gi_q gd_wsL_ofSong _ [(6, 10), (5, 1), (16, 17), (35, 27)] rfl) (gi_sub gd_wsL_ofSong (fun _ h => List.mem_cons_of_mem _ (List.mem_append_left _ (List.mem_append_right _ h))))) (gi_sub gd_wsL_ofSong (fun _ h => List.mem_cons_of_mem _ (List.mem_append_right _ h)))
set_option maxRecDepth 20000 in
theorem gL_ofSong_X7_ofSong : GoodIn wsL_ofSong (wsV RL 66 RX7 yX7_ofSong wsX7_ofSong) := goodIn_app (goodIn_of _ (by decide +kernel)) ggL_ofSong_X7_ofSong
def zT_cL_ofSong : List (List Nat) := [[45, 42, 27, 28, 182, 0, 66, 133, 181, 0, 13, 167, 0, 11, 58, 4, 4, 172, 58, 4, 5, 172, 3, 172]]
theorem zE_cL_ofSong : zTab cL_ofSong.data.toList zT_cL_ofSong = true := by decide +kernel
theorem dL_ofSong_0 : decode cL_ofSong 0 = .ok (.aload_n 3, 1) := dz_aload_n_3 (y0 zE_cL_ofSong 0 0 (by decide +kernel))
theorem dL_ofSong_1 : decode cL_ofSong 1 = .ok (.aload_n 0, 1) := dz_aload_n_0 (y0 zE_cL_ofSong 0 1 (by decide +kernel))
theorem dL_ofSong_2 : decode cL_ofSong 2 = .ok (.iload_n 1, 1) := dz_iload_n_1 (y0 zE_cL_ofSong 0 2 (by decide +kernel))
theorem dL_ofSong_3 : decode cL_ofSong 3 = .ok (.iload_n 2, 1) := dz_iload_n_2 (y0 zE_cL_ofSong 0 3 (by decide +kernel))
theorem dL_ofSong_4 : decode cL_ofSong 4 = .ok (.invokevirtual 66, 3) := dz_invokevirtual (yu2 zE_cL_ofSong 0 4 (by decide +kernel))
theorem dL_ofSong_7 : decode cL_ofSong 7 = .ok (.i2l, 1) := dz_i2l (y0 zE_cL_ofSong 0 7 (by decide +kernel))
theorem dL_ofSong_8 : decode cL_ofSong 8 = .ok (.putfield 13, 3) := dz_putfield (yu2 zE_cL_ofSong 0 8 (by decide +kernel))
theorem dL_ofSong_11 : decode cL_ofSong 11 = .ok (.goto 11, 3) := dz_goto (ys2 zE_cL_ofSong 0 11 (by decide +kernel))
theorem dL_ofSong_14 : decode cL_ofSong 14 = .ok (.astore 4, 2) := dz_astore (yu1 zE_cL_ofSong 0 14 (by decide +kernel))
theorem dL_ofSong_16 : decode cL_ofSong 16 = .ok (.iconst 1, 1) := dz_iconst_1 (y0 zE_cL_ofSong 0 16 (by decide +kernel))
theorem dL_ofSong_17 : decode cL_ofSong 17 = .ok (.ireturn, 1) := dz_ireturn (y0 zE_cL_ofSong 0 17 (by decide +kernel))
theorem dL_ofSong_18 : decode cL_ofSong 18 = .ok (.astore 4, 2) := dz_astore (yu1 zE_cL_ofSong 0 18 (by decide +kernel))
theorem dL_ofSong_20 : decode cL_ofSong 20 = .ok (.iconst 2, 1) := dz_iconst_2 (y0 zE_cL_ofSong 0 20 (by decide +kernel))
theorem dL_ofSong_21 : decode cL_ofSong 21 = .ok (.ireturn, 1) := dz_ireturn (y0 zE_cL_ofSong 0 21 (by decide +kernel))
theorem dL_ofSong_22 : decode cL_ofSong 22 = .ok (.iconst 0, 1) := dz_iconst_0 (y0 zE_cL_ofSong 0 22 (by decide +kernel))
theorem dL_ofSong_23 : decode cL_ofSong 23 = .ok (.ireturn, 1) := dz_ireturn (y0 zE_cL_ofSong 0 23 (by decide +kernel))
theorem gd_wsL_ofBand : wsL_ofBand.all goodWord = true := by decide +kernel
set_option maxRecDepth 20000 in
theorem ggL_ofBand_X7_ofBand : GoodIn wsL_ofBand wsX7_ofBand := goodIn_ca (goodIn_ca (gi_q gd_wsL_ofBand _ [(6, 9), (5, 1), (15, 12), (29, 30)] rfl) (gi_sub gd_wsL_ofBand (fun _ h => List.mem_cons_of_mem _ (List.mem_append_left _ (List.mem_append_right _ h))))) (gi_sub gd_wsL_ofBand (fun _ h => List.mem_cons_of_mem _ (List.mem_append_right _ h)))
set_option maxRecDepth 20000 in
theorem gL_ofBand_X7_ofBand : GoodIn wsL_ofBand (wsV RL 69 RX7 yX7_ofBand wsX7_ofBand) := goodIn_app (goodIn_of _ (by decide +kernel)) ggL_ofBand_X7_ofBand
def zT_cL_ofBand : List (List Nat) := [[45, 42, 27, 28, 182, 0, 69, 133, 181, 0, 13, 167, 0, 11, 58, 4, 4, 172, 58, 4, 5, 172, 3, 172]]
theorem zE_cL_ofBand : zTab cL_ofBand.data.toList zT_cL_ofBand = true := by decide +kernel
theorem dL_ofBand_0 : decode cL_ofBand 0 = .ok (.aload_n 3, 1) := dz_aload_n_3 (y0 zE_cL_ofBand 0 0 (by decide +kernel))
theorem dL_ofBand_1 : decode cL_ofBand 1 = .ok (.aload_n 0, 1) := dz_aload_n_0 (y0 zE_cL_ofBand 0 1 (by decide +kernel))
theorem dL_ofBand_2 : decode cL_ofBand 2 = .ok (.iload_n 1, 1) := dz_iload_n_1 (y0 zE_cL_ofBand 0 2 (by decide +kernel))
theorem dL_ofBand_3 : decode cL_ofBand 3 = .ok (.iload_n 2, 1) := dz_iload_n_2 (y0 zE_cL_ofBand 0 3 (by decide +kernel))
theorem dL_ofBand_4 : decode cL_ofBand 4 = .ok (.invokevirtual 69, 3) := dz_invokevirtual (yu2 zE_cL_ofBand 0 4 (by decide +kernel))
theorem dL_ofBand_7 : decode cL_ofBand 7 = .ok (.i2l, 1) := dz_i2l (y0 zE_cL_ofBand 0 7 (by decide +kernel))
theorem dL_ofBand_8 : decode cL_ofBand 8 = .ok (.putfield 13, 3) := dz_putfield (yu2 zE_cL_ofBand 0 8 (by decide +kernel))
theorem dL_ofBand_11 : decode cL_ofBand 11 = .ok (.goto 11, 3) := dz_goto (ys2 zE_cL_ofBand 0 11 (by decide +kernel))
theorem dL_ofBand_14 : decode cL_ofBand 14 = .ok (.astore 4, 2) := dz_astore (yu1 zE_cL_ofBand 0 14 (by decide +kernel))
theorem dL_ofBand_16 : decode cL_ofBand 16 = .ok (.iconst 1, 1) := dz_iconst_1 (y0 zE_cL_ofBand 0 16 (by decide +kernel))
theorem dL_ofBand_17 : decode cL_ofBand 17 = .ok (.ireturn, 1) := dz_ireturn (y0 zE_cL_ofBand 0 17 (by decide +kernel))
theorem dL_ofBand_18 : decode cL_ofBand 18 = .ok (.astore 4, 2) := dz_astore (yu1 zE_cL_ofBand 0 18 (by decide +kernel))
theorem dL_ofBand_20 : decode cL_ofBand 20 = .ok (.iconst 2, 1) := dz_iconst_2 (y0 zE_cL_ofBand 0 20 (by decide +kernel))
theorem dL_ofBand_21 : decode cL_ofBand 21 = .ok (.ireturn, 1) := dz_ireturn (y0 zE_cL_ofBand 0 21 (by decide +kernel))
theorem dL_ofBand_22 : decode cL_ofBand 22 = .ok (.iconst 0, 1) := dz_iconst_0 (y0 zE_cL_ofBand 0 22 (by decide +kernel))
theorem dL_ofBand_23 : decode cL_ofBand 23 = .ok (.ireturn, 1) := dz_ireturn (y0 zE_cL_ofBand 0 23 (by decide +kernel))
theorem gd_wsL_ofWedding : wsL_ofWedding.all goodWord = true := by decide +kernel
set_option maxRecDepth 20000 in
theorem ggL_ofWedding_X7_ofWedding : GoodIn wsL_ofWedding wsX7_ofWedding := goodIn_ca (goodIn_ca (gi_q gd_wsL_ofWedding _ [(6, 18), (5, 1), (24, 24), (50, 27)] rfl) (gi_sub gd_wsL_ofWedding (fun _ h => List.mem_cons_of_mem _ (List.mem_append_left _ (List.mem_append_right _ h))))) (gi_sub gd_wsL_ofWedding (fun _ h => List.mem_cons_of_mem _ (List.mem_append_right _ h)))
set_option maxRecDepth 20000 in
theorem gL_ofWedding_X7_ofWedding : GoodIn wsL_ofWedding (wsV RL 72 RX7 yX7_ofWedding wsX7_ofWedding) := goodIn_app (goodIn_of _ (by decide +kernel)) ggL_ofWedding_X7_ofWedding
def zT_cL_ofWedding : List (List Nat) := [[45, 42, 27, 28, 182, 0, 72, 133, 181, 0, 13, 167, 0, 11, 58, 4, 4, 172, 58, 4, 5, 172, 3, 172]]
theorem zE_cL_ofWedding : zTab cL_ofWedding.data.toList zT_cL_ofWedding = true := by decide +kernel
theorem dL_ofWedding_0 : decode cL_ofWedding 0 = .ok (.aload_n 3, 1) := dz_aload_n_3 (y0 zE_cL_ofWedding 0 0 (by decide +kernel))
theorem dL_ofWedding_1 : decode cL_ofWedding 1 = .ok (.aload_n 0, 1) := dz_aload_n_0 (y0 zE_cL_ofWedding 0 1 (by decide +kernel))
theorem dL_ofWedding_2 : decode cL_ofWedding 2 = .ok (.iload_n 1, 1) := dz_iload_n_1 (y0 zE_cL_ofWedding 0 2 (by decide +kernel))
theorem dL_ofWedding_3 : decode cL_ofWedding 3 = .ok (.iload_n 2, 1) := dz_iload_n_2 (y0 zE_cL_ofWedding 0 3 (by decide +kernel))
theorem dL_ofWedding_4 : decode cL_ofWedding 4 = .ok (.invokevirtual 72, 3) := dz_invokevirtual (yu2 zE_cL_ofWedding 0 4 (by decide +kernel))
theorem dL_ofWedding_7 : decode cL_ofWedding 7 = .ok (.i2l, 1) := dz_i2l (y0 zE_cL_ofWedding 0 7 (by decide +kernel))
theorem dL_ofWedding_8 : decode cL_ofWedding 8 = .ok (.putfield 13, 3) := dz_putfield (yu2 zE_cL_ofWedding 0 8 (by decide +kernel))
theorem dL_ofWedding_11 : decode cL_ofWedding 11 = .ok (.goto 11, 3) := dz_goto (ys2 zE_cL_ofWedding 0 11 (by decide +kernel))
theorem dL_ofWedding_14 : decode cL_ofWedding 14 = .ok (.astore 4, 2) := dz_astore (yu1 zE_cL_ofWedding 0 14 (by decide +kernel))
theorem dL_ofWedding_16 : decode cL_ofWedding 16 = .ok (.iconst 1, 1) := dz_iconst_1 (y0 zE_cL_ofWedding 0 16 (by decide +kernel))
theorem dL_ofWedding_17 : decode cL_ofWedding 17 = .ok (.ireturn, 1) := dz_ireturn (y0 zE_cL_ofWedding 0 17 (by decide +kernel))
theorem dL_ofWedding_18 : decode cL_ofWedding 18 = .ok (.astore 4, 2) := dz_astore (yu1 zE_cL_ofWedding 0 18 (by decide +kernel))
theorem dL_ofWedding_20 : decode cL_ofWedding 20 = .ok (.iconst 2, 1) := dz_iconst_2 (y0 zE_cL_ofWedding 0 20 (by decide +kernel))
theorem dL_ofWedding_21 : decode cL_ofWedding 21 = .ok (.ireturn, 1) := dz_ireturn (y0 zE_cL_ofWedding 0 21 (by decide +kernel))
theorem dL_ofWedding_22 : decode cL_ofWedding 22 = .ok (.iconst 0, 1) := dz_iconst_0 (y0 zE_cL_ofWedding 0 22 (by decide +kernel))
theorem dL_ofWedding_23 : decode cL_ofWedding 23 = .ok (.ireturn, 1) := dz_ireturn (y0 zE_cL_ofWedding 0 23 (by decide +kernel))
theorem gd_wsL_drive : wsL_drive.all goodWord = true := by decide +kernel
set_option maxRecDepth 20000 in
theorem ggL_drive_X7_drive : GoodIn wsL_drive wsX7_drive := goodIn_ca (gi_q gd_wsL_drive _ [(6, 4), (5, 1), (10, 12), (24, 17)] rfl) (gi_sub gd_wsL_drive (fun _ h => List.mem_cons_of_mem _ (List.mem_append_right _ h)))
set_option maxRecDepth 20000 in
theorem gL_drive_X7_drive : GoodIn wsL_drive (wsV RL 75 RX7 yX7_drive wsX7_drive) := goodIn_app (goodIn_of _ (by decide +kernel)) ggL_drive_X7_drive
theorem dL_drive_0 : decode cL_drive 0 = .ok (.aload_n 3, 1) := dkT (by decide +kernel)
theorem dL_drive_1 : decode cL_drive 1 = .ok (.aload_n 0, 1) := dkT (by decide +kernel)
theorem dL_drive_2 : decode cL_drive 2 = .ok (.iload_n 1, 1) := dkT (by decide +kernel)
theorem dL_drive_3 : decode cL_drive 3 = .ok (.iload_n 2, 1) := dkT (by decide +kernel)
theorem dL_drive_4 : decode cL_drive 4 = .ok (.invokevirtual 75, 3) := dkT (by decide +kernel)
theorem dL_drive_7 : decode cL_drive 7 = .ok (.i2l, 1) := dkT (by decide +kernel)
theorem dL_drive_8 : decode cL_drive 8 = .ok (.putfield 13, 3) := dkT (by decide +kernel)
theorem dL_drive_11 : decode cL_drive 11 = .ok (.goto 7, 3) := dkT (by decide +kernel)
theorem dL_drive_14 : decode cL_drive 14 = .ok (.astore 4, 2) := dkT (by decide +kernel)
theorem dL_drive_16 : decode cL_drive 16 = .ok (.iconst 1, 1) := dkT (by decide +kernel)
theorem dL_drive_17 : decode cL_drive 17 = .ok (.ireturn, 1) := dkT (by decide +kernel)
theorem dL_drive_18 : decode cL_drive 18 = .ok (.iconst 0, 1) := dkT (by decide +kernel)
theorem dL_drive_19 : decode cL_drive 19 = .ok (.ireturn, 1) := dkT (by decide +kernel)
theorem gd_wsL_free : wsL_free.all goodWord = true := by decide +kernel
set_option maxRecDepth 20000 in
theorem ggL_free_X7_free : GoodIn wsL_free wsX7_free := goodIn_ca (gi_q gd_wsL_free _ [(6, 4), (5, 1), (10, 49), (61, 37)] rfl) (gi_sub gd_wsL_free (fun _ h => List.mem_cons_of_mem _ (List.mem_append_right _ h)))
set_option maxRecDepth 20000 in
theorem gL_free_X7_free : GoodIn wsL_free (wsV RL 78 RX7 yX7_free wsX7_free) := goodIn_app (goodIn_of _ (by decide +kernel)) ggL_free_X7_free
def zT_cL_free : List (List Nat) := [[45, 42, 27, 28, 182, 0, 78, 153, 0, 7, 10, 167, 0, 4, 9, 181, 0, 13, 167, 0, 7, 58, 4, 4, 172, 3, 172]]
theorem zE_cL_free : zTab cL_free.data.toList zT_cL_free = true := by decide +kernel
theorem dL_free_0 : decode cL_free 0 = .ok (.aload_n 3, 1) := dz_aload_n_3 (y0 zE_cL_free 0 0 (by decide +kernel))
theorem dL_free_1 : decode cL_free 1 = .ok (.aload_n 0, 1) := dz_aload_n_0 (y0 zE_cL_free 0 1 (by decide +kernel))
theorem dL_free_2 : decode cL_free 2 = .ok (.iload_n 1, 1) := dz_iload_n_1 (y0 zE_cL_free 0 2 (by decide +kernel))
theorem dL_free_3 : decode cL_free 3 = .ok (.iload_n 2, 1) := dz_iload_n_2 (y0 zE_cL_free 0 3 (by decide +kernel))
theorem dL_free_4 : decode cL_free 4 = .ok (.invokevirtual 78, 3) := dz_invokevirtual (yu2 zE_cL_free 0 4 (by decide +kernel))
theorem dL_free_7 : decode cL_free 7 = .ok (.ifCond .eq 7, 3) := dz_ifCond_eq (ys2 zE_cL_free 0 7 (by decide +kernel))
theorem dL_free_10 : decode cL_free 10 = .ok (.lconst 1, 1) := dz_lconst_1 (y0 zE_cL_free 0 10 (by decide +kernel))
theorem dL_free_11 : decode cL_free 11 = .ok (.goto 4, 3) := dz_goto (ys2 zE_cL_free 0 11 (by decide +kernel))
theorem dL_free_14 : decode cL_free 14 = .ok (.lconst 0, 1) := dz_lconst_0 (y0 zE_cL_free 0 14 (by decide +kernel))
theorem dL_free_15 : decode cL_free 15 = .ok (.putfield 13, 3) := dz_putfield (yu2 zE_cL_free 0 15 (by decide +kernel))
theorem dL_free_18 : decode cL_free 18 = .ok (.goto 7, 3) := dz_goto (ys2 zE_cL_free 0 18 (by decide +kernel))
theorem dL_free_21 : decode cL_free 21 = .ok (.astore 4, 2) := dz_astore (yu1 zE_cL_free 0 21 (by decide +kernel))
theorem dL_free_23 : decode cL_free 23 = .ok (.iconst 1, 1) := dz_iconst_1 (y0 zE_cL_free 0 23 (by decide +kernel))
theorem dL_free_24 : decode cL_free 24 = .ok (.ireturn, 1) := dz_ireturn (y0 zE_cL_free 0 24 (by decide +kernel))
theorem dL_free_25 : decode cL_free 25 = .ok (.iconst 0, 1) := dz_iconst_0 (y0 zE_cL_free 0 25 (by decide +kernel))
theorem dL_free_26 : decode cL_free 26 = .ok (.ireturn, 1) := dz_ireturn (y0 zE_cL_free 0 26 (by decide +kernel))
theorem gd_wsL_filling : wsL_filling.all goodWord = true := by decide +kernel
set_option maxRecDepth 20000 in
theorem ggL_filling_X7_filling : GoodIn wsL_filling wsX7_filling := goodIn_ca (goodIn_ca (gi_q gd_wsL_filling _ [(6, 11), (5, 1), (17, 113), (132, 46)] rfl) (gi_sub gd_wsL_filling (fun _ h => List.mem_cons_of_mem _ (List.mem_append_left _ (List.mem_append_right _ h))))) (gi_sub gd_wsL_filling (fun _ h => List.mem_cons_of_mem _ (List.mem_append_right _ h)))
set_option maxRecDepth 20000 in
theorem gL_filling_X7_filling : GoodIn wsL_filling (wsV RL 82 RX7 yX7_filling wsX7_filling) := goodIn_app (goodIn_of _ (by decide +kernel)) ggL_filling_X7_filling
def zT_cL_filling : List (List Nat) := [[45, 42, 27, 28, 182, 0, 82, 133, 181, 0, 13, 167, 0, 11, 58, 4, 4, 172, 58, 4, 5, 172, 3, 172]]
theorem zE_cL_filling : zTab cL_filling.data.toList zT_cL_filling = true := by decide +kernel
theorem dL_filling_0 : decode cL_filling 0 = .ok (.aload_n 3, 1) := dz_aload_n_3 (y0 zE_cL_filling 0 0 (by decide +kernel))
theorem dL_filling_1 : decode cL_filling 1 = .ok (.aload_n 0, 1) := dz_aload_n_0 (y0 zE_cL_filling 0 1 (by decide +kernel))
theorem dL_filling_2 : decode cL_filling 2 = .ok (.iload_n 1, 1) := dz_iload_n_1 (y0 zE_cL_filling 0 2 (by decide +kernel))
theorem dL_filling_3 : decode cL_filling 3 = .ok (.iload_n 2, 1) := dz_iload_n_2 (y0 zE_cL_filling 0 3 (by decide +kernel))
theorem dL_filling_4 : decode cL_filling 4 = .ok (.invokevirtual 82, 3) := dz_invokevirtual (yu2 zE_cL_filling 0 4 (by decide +kernel))
theorem dL_filling_7 : decode cL_filling 7 = .ok (.i2l, 1) := dz_i2l (y0 zE_cL_filling 0 7 (by decide +kernel))
theorem dL_filling_8 : decode cL_filling 8 = .ok (.putfield 13, 3) := dz_putfield (yu2 zE_cL_filling 0 8 (by decide +kernel))
theorem dL_filling_11 : decode cL_filling 11 = .ok (.goto 11, 3) := dz_goto (ys2 zE_cL_filling 0 11 (by decide +kernel))
theorem dL_filling_14 : decode cL_filling 14 = .ok (.astore 4, 2) := dz_astore (yu1 zE_cL_filling 0 14 (by decide +kernel))
theorem dL_filling_16 : decode cL_filling 16 = .ok (.iconst 1, 1) := dz_iconst_1 (y0 zE_cL_filling 0 16 (by decide +kernel))
theorem dL_filling_17 : decode cL_filling 17 = .ok (.ireturn, 1) := dz_ireturn (y0 zE_cL_filling 0 17 (by decide +kernel))
theorem dL_filling_18 : decode cL_filling 18 = .ok (.astore 4, 2) := dz_astore (yu1 zE_cL_filling 0 18 (by decide +kernel))
theorem dL_filling_20 : decode cL_filling 20 = .ok (.iconst 2, 1) := dz_iconst_2 (y0 zE_cL_filling 0 20 (by decide +kernel))
theorem dL_filling_21 : decode cL_filling 21 = .ok (.ireturn, 1) := dz_ireturn (y0 zE_cL_filling 0 21 (by decide +kernel))
theorem dL_filling_22 : decode cL_filling 22 = .ok (.iconst 0, 1) := dz_iconst_0 (y0 zE_cL_filling 0 22 (by decide +kernel))
theorem dL_filling_23 : decode cL_filling 23 = .ok (.ireturn, 1) := dz_ireturn (y0 zE_cL_filling 0 23 (by decide +kernel))
theorem gd_wsL_set : wsL_set.all goodWord = true := by decide +kernel
set_option maxRecDepth 20000 in
theorem ggL_set_X7_set : GoodIn wsL_set wsX7_set := goodIn_ca (gi_q gd_wsL_set _ [(6, 11), (5, 1), (17, 49), (68, 34)] rfl) (gi_sub gd_wsL_set (fun _ h => List.mem_cons_of_mem _ (List.mem_append_right _ h)))
set_option maxRecDepth 20000 in
theorem gL_set_X7_set : GoodIn wsL_set (wsV RL 85 RX7 yX7_set wsX7_set) := goodIn_app (goodIn_of _ (by decide +kernel)) ggL_set_X7_set
theorem dL_set_0 : decode cL_set 0 = .ok (.aload_n 3, 1) := dkT (by decide +kernel)
theorem dL_set_1 : decode cL_set 1 = .ok (.aload_n 0, 1) := dkT (by decide +kernel)
theorem dL_set_2 : decode cL_set 2 = .ok (.iload_n 1, 1) := dkT (by decide +kernel)
theorem dL_set_3 : decode cL_set 3 = .ok (.iload_n 2, 1) := dkT (by decide +kernel)
theorem dL_set_4 : decode cL_set 4 = .ok (.invokevirtual 85, 3) := dkT (by decide +kernel)
theorem dL_set_7 : decode cL_set 7 = .ok (.i2l, 1) := dkT (by decide +kernel)
theorem dL_set_8 : decode cL_set 8 = .ok (.putfield 13, 3) := dkT (by decide +kernel)
theorem dL_set_11 : decode cL_set 11 = .ok (.goto 7, 3) := dkT (by decide +kernel)
theorem dL_set_14 : decode cL_set 14 = .ok (.astore 4, 2) := dkT (by decide +kernel)
theorem dL_set_16 : decode cL_set 16 = .ok (.iconst 1, 1) := dkT (by decide +kernel)
theorem dL_set_17 : decode cL_set 17 = .ok (.ireturn, 1) := dkT (by decide +kernel)
theorem dL_set_18 : decode cL_set 18 = .ok (.iconst 0, 1) := dkT (by decide +kernel)
theorem dL_set_19 : decode cL_set 19 = .ok (.ireturn, 1) := dkT (by decide +kernel)
theorem gd_wsL_songs : wsL_songs.all goodWord = true := by decide +kernel
set_option maxRecDepth 20000 in
theorem ggL_songs_X7_songs : GoodIn wsL_songs wsX7_songs := goodIn_ca (gi_q gd_wsL_songs _ [(6, 13), (5, 1), (19, 269), (290, 54)] rfl) (gi_sub gd_wsL_songs (fun _ h => List.mem_cons_of_mem _ (List.mem_append_right _ h)))
set_option maxRecDepth 20000 in
theorem gL_songs_X7_songs : GoodIn wsL_songs (wsV RL 89 RX7 yX7_songs wsX7_songs) := goodIn_app (goodIn_of _ (by decide +kernel)) ggL_songs_X7_songs
theorem dL_songs_0 : decode cL_songs 0 = .ok (.aload_n 2, 1) := dkT (by decide +kernel)
theorem dL_songs_1 : decode cL_songs 1 = .ok (.aload_n 0, 1) := dkT (by decide +kernel)
theorem dL_songs_2 : decode cL_songs 2 = .ok (.iload_n 1, 1) := dkT (by decide +kernel)
theorem dL_songs_3 : decode cL_songs 3 = .ok (.invokevirtual 89, 3) := dkT (by decide +kernel)
theorem dL_songs_6 : decode cL_songs 6 = .ok (.putfield 93, 3) := dkT (by decide +kernel)
theorem dL_songs_9 : decode cL_songs 9 = .ok (.goto 6, 3) := dkT (by decide +kernel)
theorem dL_songs_12 : decode cL_songs 12 = .ok (.astore_n 3, 1) := dkT (by decide +kernel)
theorem dL_songs_13 : decode cL_songs 13 = .ok (.iconst 1, 1) := dkT (by decide +kernel)
theorem dL_songs_14 : decode cL_songs 14 = .ok (.ireturn, 1) := dkT (by decide +kernel)
theorem dL_songs_15 : decode cL_songs 15 = .ok (.iconst 0, 1) := dkT (by decide +kernel)
theorem dL_songs_16 : decode cL_songs 16 = .ok (.ireturn, 1) := dkT (by decide +kernel)
theorem gd_wsL_desk : wsL_desk.all goodWord = true := by decide +kernel
set_option maxRecDepth 20000 in
theorem ggL_desk_X7_desk : GoodIn wsL_desk wsX7_desk := goodIn_ca (gi_q gd_wsL_desk _ [(6, 11), (5, 1), (17, 38), (57, 35)] rfl) (gi_sub gd_wsL_desk (fun _ h => List.mem_cons_of_mem _ (List.mem_append_right _ h)))
set_option maxRecDepth 20000 in
theorem gL_desk_X7_desk : GoodIn wsL_desk (wsV RL 97 RX7 yX7_desk wsX7_desk) := goodIn_app (goodIn_of _ (by decide +kernel)) ggL_desk_X7_desk
theorem dL_desk_0 : decode cL_desk 0 = .ok (.aload_n 2, 1) := dkT (by decide +kernel)
theorem dL_desk_1 : decode cL_desk 1 = .ok (.aload_n 0, 1) := dkT (by decide +kernel)
theorem dL_desk_2 : decode cL_desk 2 = .ok (.iload_n 1, 1) := dkT (by decide +kernel)
theorem dL_desk_3 : decode cL_desk 3 = .ok (.invokevirtual 97, 3) := dkT (by decide +kernel)
theorem dL_desk_6 : decode cL_desk 6 = .ok (.i2l, 1) := dkT (by decide +kernel)
theorem dL_desk_7 : decode cL_desk 7 = .ok (.putfield 13, 3) := dkT (by decide +kernel)
theorem dL_desk_10 : decode cL_desk 10 = .ok (.goto 6, 3) := dkT (by decide +kernel)
theorem dL_desk_13 : decode cL_desk 13 = .ok (.astore_n 3, 1) := dkT (by decide +kernel)
theorem dL_desk_14 : decode cL_desk 14 = .ok (.iconst 1, 1) := dkT (by decide +kernel)
theorem dL_desk_15 : decode cL_desk 15 = .ok (.ireturn, 1) := dkT (by decide +kernel)
theorem dL_desk_16 : decode cL_desk 16 = .ok (.iconst 0, 1) := dkT (by decide +kernel)
theorem dL_desk_17 : decode cL_desk 17 = .ok (.ireturn, 1) := dkT (by decide +kernel)
theorem gd_wsL_tell : wsL_tell.all goodWord = true := by decide +kernel
set_option maxRecDepth 20000 in
theorem ggL_tell_X7_tell : GoodIn wsL_tell wsX7_tell := goodIn_ca (gi_q gd_wsL_tell _ [(6, 12), (5, 1), (18, 247), (267, 35)] rfl) (gi_sub gd_wsL_tell (fun _ h => List.mem_cons_of_mem _ (List.mem_append_right _ h)))
set_option maxRecDepth 20000 in
theorem gL_tell_X7_tell : GoodIn wsL_tell (wsV RL 100 RX7 yX7_tell wsX7_tell) := goodIn_app (goodIn_of _ (by decide +kernel)) ggL_tell_X7_tell
theorem dL_tell_0 : decode cL_tell 0 = .ok (.aload_n 2, 1) := dkT (by decide +kernel)
theorem dL_tell_1 : decode cL_tell 1 = .ok (.aload_n 0, 1) := dkT (by decide +kernel)
theorem dL_tell_2 : decode cL_tell 2 = .ok (.iload_n 1, 1) := dkT (by decide +kernel)
theorem dL_tell_3 : decode cL_tell 3 = .ok (.invokevirtual 100, 3) := dkT (by decide +kernel)
theorem dL_tell_6 : decode cL_tell 6 = .ok (.putfield 93, 3) := dkT (by decide +kernel)
theorem dL_tell_9 : decode cL_tell 9 = .ok (.goto 6, 3) := dkT (by decide +kernel)
theorem dL_tell_12 : decode cL_tell 12 = .ok (.astore_n 3, 1) := dkT (by decide +kernel)
theorem dL_tell_13 : decode cL_tell 13 = .ok (.iconst 1, 1) := dkT (by decide +kernel)
theorem dL_tell_14 : decode cL_tell 14 = .ok (.ireturn, 1) := dkT (by decide +kernel)
theorem dL_tell_15 : decode cL_tell 15 = .ok (.iconst 0, 1) := dkT (by decide +kernel)
theorem dL_tell_16 : decode cL_tell 16 = .ok (.ireturn, 1) := dkT (by decide +kernel)
theorem gd_wsL_wouldLose : wsL_wouldLose.all goodWord = true := by decide +kernel
set_option maxRecDepth 20000 in
theorem ggL_wouldLose_X7_wouldLose : GoodIn wsL_wouldLose wsX7_wouldLose := goodIn_ca (goodIn_ca (gi_q gd_wsL_wouldLose _ [(6, 4), (5, 1), (10, 124), (136, 46)] rfl) (gi_sub gd_wsL_wouldLose (fun _ h => List.mem_cons_of_mem _ (List.mem_append_left _ (List.mem_append_right _ h))))) (gi_sub gd_wsL_wouldLose (fun _ h => List.mem_cons_of_mem _ (List.mem_append_right _ h)))
set_option maxRecDepth 20000 in
theorem gL_wouldLose_X7_wouldLose : GoodIn wsL_wouldLose (wsV RL 103 RX7 yX7_wouldLose wsX7_wouldLose) := goodIn_app (goodIn_of _ (by decide +kernel)) ggL_wouldLose_X7_wouldLose
def zT_cL_wouldLose : List (List Nat) := [[45, 42, 27, 28, 182, 0, 103, 133, 181, 0, 13, 167, 0, 11, 58, 4, 4, 172, 58, 4, 5, 172, 3, 172]]
theorem zE_cL_wouldLose : zTab cL_wouldLose.data.toList zT_cL_wouldLose = true := by decide +kernel
theorem dL_wouldLose_0 : decode cL_wouldLose 0 = .ok (.aload_n 3, 1) := dz_aload_n_3 (y0 zE_cL_wouldLose 0 0 (by decide +kernel))
theorem dL_wouldLose_1 : decode cL_wouldLose 1 = .ok (.aload_n 0, 1) := dz_aload_n_0 (y0 zE_cL_wouldLose 0 1 (by decide +kernel))
theorem dL_wouldLose_2 : decode cL_wouldLose 2 = .ok (.iload_n 1, 1) := dz_iload_n_1 (y0 zE_cL_wouldLose 0 2 (by decide +kernel))
theorem dL_wouldLose_3 : decode cL_wouldLose 3 = .ok (.iload_n 2, 1) := dz_iload_n_2 (y0 zE_cL_wouldLose 0 3 (by decide +kernel))
theorem dL_wouldLose_4 : decode cL_wouldLose 4 = .ok (.invokevirtual 103, 3) := dz_invokevirtual (yu2 zE_cL_wouldLose 0 4 (by decide +kernel))
theorem dL_wouldLose_7 : decode cL_wouldLose 7 = .ok (.i2l, 1) := dz_i2l (y0 zE_cL_wouldLose 0 7 (by decide +kernel))
theorem dL_wouldLose_8 : decode cL_wouldLose 8 = .ok (.putfield 13, 3) := dz_putfield (yu2 zE_cL_wouldLose 0 8 (by decide +kernel))
theorem dL_wouldLose_11 : decode cL_wouldLose 11 = .ok (.goto 11, 3) := dz_goto (ys2 zE_cL_wouldLose 0 11 (by decide +kernel))
theorem dL_wouldLose_14 : decode cL_wouldLose 14 = .ok (.astore 4, 2) := dz_astore (yu1 zE_cL_wouldLose 0 14 (by decide +kernel))
theorem dL_wouldLose_16 : decode cL_wouldLose 16 = .ok (.iconst 1, 1) := dz_iconst_1 (y0 zE_cL_wouldLose 0 16 (by decide +kernel))
theorem dL_wouldLose_17 : decode cL_wouldLose 17 = .ok (.ireturn, 1) := dz_ireturn (y0 zE_cL_wouldLose 0 17 (by decide +kernel))
theorem dL_wouldLose_18 : decode cL_wouldLose 18 = .ok (.astore 4, 2) := dz_astore (yu1 zE_cL_wouldLose 0 18 (by decide +kernel))
theorem dL_wouldLose_20 : decode cL_wouldLose 20 = .ok (.iconst 2, 1) := dz_iconst_2 (y0 zE_cL_wouldLose 0 20 (by decide +kernel))
theorem dL_wouldLose_21 : decode cL_wouldLose 21 = .ok (.ireturn, 1) := dz_ireturn (y0 zE_cL_wouldLose 0 21 (by decide +kernel))
theorem dL_wouldLose_22 : decode cL_wouldLose 22 = .ok (.iconst 0, 1) := dz_iconst_0 (y0 zE_cL_wouldLose 0 22 (by decide +kernel))
theorem dL_wouldLose_23 : decode cL_wouldLose 23 = .ok (.ireturn, 1) := dz_ireturn (y0 zE_cL_wouldLose 0 23 (by decide +kernel))
theorem gd_wsL_plan : wsL_plan.all goodWord = true := by decide +kernel
set_option maxRecDepth 20000 in
theorem ggL_plan_X7_plan : GoodIn wsL_plan wsX7_plan := goodIn_ca (gi_q gd_wsL_plan _ [(6, 6), (5, 1), (12, 134), (148, 46)] rfl) (gi_sub gd_wsL_plan (fun _ h => List.mem_cons_of_mem _ (List.mem_append_right _ h)))
set_option maxRecDepth 20000 in
theorem gL_plan_X7_plan : GoodIn wsL_plan (wsV RL 106 RX7 yX7_plan wsX7_plan) := goodIn_app (goodIn_of _ (by decide +kernel)) ggL_plan_X7_plan
theorem dL_plan_0 : decode cL_plan 0 = .ok (.aload_n 3, 1) := dkT (by decide +kernel)
theorem dL_plan_1 : decode cL_plan 1 = .ok (.aload_n 0, 1) := dkT (by decide +kernel)
theorem dL_plan_2 : decode cL_plan 2 = .ok (.iload_n 1, 1) := dkT (by decide +kernel)
theorem dL_plan_3 : decode cL_plan 3 = .ok (.iload_n 2, 1) := dkT (by decide +kernel)
theorem dL_plan_4 : decode cL_plan 4 = .ok (.invokevirtual 106, 3) := dkT (by decide +kernel)
theorem dL_plan_7 : decode cL_plan 7 = .ok (.i2l, 1) := dkT (by decide +kernel)
theorem dL_plan_8 : decode cL_plan 8 = .ok (.putfield 13, 3) := dkT (by decide +kernel)
theorem dL_plan_11 : decode cL_plan 11 = .ok (.goto 7, 3) := dkT (by decide +kernel)
theorem dL_plan_14 : decode cL_plan 14 = .ok (.astore 4, 2) := dkT (by decide +kernel)
theorem dL_plan_16 : decode cL_plan 16 = .ok (.iconst 1, 1) := dkT (by decide +kernel)
theorem dL_plan_17 : decode cL_plan 17 = .ok (.ireturn, 1) := dkT (by decide +kernel)
theorem dL_plan_18 : decode cL_plan 18 = .ok (.iconst 0, 1) := dkT (by decide +kernel)
theorem dL_plan_19 : decode cL_plan 19 = .ok (.ireturn, 1) := dkT (by decide +kernel)
theorem gd_wsL_wouldCancel : wsL_wouldCancel.all goodWord = true := by decide +kernel
set_option maxRecDepth 20000 in
theorem ggL_wouldCancel_X7_wouldCancel : GoodIn wsL_wouldCancel wsX7_wouldCancel := goodIn_ca (goodIn_ca (gi_q gd_wsL_wouldCancel _ [(6, 14), (5, 1), (20, 54), (76, 37)] rfl) (gi_sub gd_wsL_wouldCancel (fun _ h => List.mem_cons_of_mem _ (List.mem_append_left _ (List.mem_append_right _ h))))) (gi_sub gd_wsL_wouldCancel (fun _ h => List.mem_cons_of_mem _ (List.mem_append_right _ h)))
set_option maxRecDepth 20000 in
theorem gL_wouldCancel_X7_wouldCancel : GoodIn wsL_wouldCancel (wsV RL 109 RX7 yX7_wouldCancel wsX7_wouldCancel) := goodIn_app (goodIn_of _ (by decide +kernel)) ggL_wouldCancel_X7_wouldCancel
theorem dL_wouldCancel_0 : decode cL_wouldCancel 0 = .ok (.aload_n 2, 1) := dkT (by decide +kernel)
theorem dL_wouldCancel_1 : decode cL_wouldCancel 1 = .ok (.aload_n 0, 1) := dkT (by decide +kernel)
theorem dL_wouldCancel_2 : decode cL_wouldCancel 2 = .ok (.iload_n 1, 1) := dkT (by decide +kernel)
theorem dL_wouldCancel_3 : decode cL_wouldCancel 3 = .ok (.invokevirtual 109, 3) := dkT (by decide +kernel)
theorem dL_wouldCancel_6 : decode cL_wouldCancel 6 = .ok (.i2l, 1) := dkT (by decide +kernel)
theorem dL_wouldCancel_7 : decode cL_wouldCancel 7 = .ok (.putfield 13, 3) := dkT (by decide +kernel)
theorem dL_wouldCancel_10 : decode cL_wouldCancel 10 = .ok (.goto 9, 3) := dkT (by decide +kernel)
theorem dL_wouldCancel_13 : decode cL_wouldCancel 13 = .ok (.astore_n 3, 1) := dkT (by decide +kernel)
theorem dL_wouldCancel_14 : decode cL_wouldCancel 14 = .ok (.iconst 1, 1) := dkT (by decide +kernel)
theorem dL_wouldCancel_15 : decode cL_wouldCancel 15 = .ok (.ireturn, 1) := dkT (by decide +kernel)
theorem dL_wouldCancel_16 : decode cL_wouldCancel 16 = .ok (.astore_n 3, 1) := dkT (by decide +kernel)
theorem dL_wouldCancel_17 : decode cL_wouldCancel 17 = .ok (.iconst 2, 1) := dkT (by decide +kernel)
theorem dL_wouldCancel_18 : decode cL_wouldCancel 18 = .ok (.ireturn, 1) := dkT (by decide +kernel)
theorem dL_wouldCancel_19 : decode cL_wouldCancel 19 = .ok (.iconst 0, 1) := dkT (by decide +kernel)
theorem dL_wouldCancel_20 : decode cL_wouldCancel 20 = .ok (.ireturn, 1) := dkT (by decide +kernel)
theorem gd_wsL_key : wsL_key.all goodWord = true := by decide +kernel
set_option maxRecDepth 20000 in
theorem ggL_key_X7_key : GoodIn wsL_key wsX7_key := goodIn_ca (gi_q gd_wsL_key _ [(6, 8), (5, 1), (14, 113), (129, 46)] rfl) (gi_sub gd_wsL_key (fun _ h => List.mem_cons_of_mem _ (List.mem_append_right _ h)))
set_option maxRecDepth 20000 in
theorem gL_key_X7_key : GoodIn wsL_key (wsV RL 112 RX7 yX7_key wsX7_key) := goodIn_app (goodIn_of _ (by decide +kernel)) ggL_key_X7_key
theorem dL_key_0 : decode cL_key 0 = .ok (.aload_n 2, 1) := dkT (by decide +kernel)
theorem dL_key_1 : decode cL_key 1 = .ok (.aload_n 0, 1) := dkT (by decide +kernel)
theorem dL_key_2 : decode cL_key 2 = .ok (.iload_n 1, 1) := dkT (by decide +kernel)
