def zT_cX7_stageWithout : List (List Nat) := [[3, 62, 42, 182, 1, 86, 3, 54, 4, 21, 4, 42, 180, 0, 51, 162, 0, 108, 42, 180, 0, 29, 21, 4, 50, 180, 0, 196, 28, 160, 0, 88, 42, 180, 0, 60, 21, 4, 46, 27, 184, 0, 153, 153, 0, 74, 42, 21, 4, 42, 21, 4, 182, 1, 251, 4, 27, 120, 2, 130, 126, 42, 180, 0, 60, 21, 4, 46], [60, 21, 4, 46, 182, 1, 254, 42, 180, 0, 60, 21, 4, 42, 180, 0, 70, 180, 0, 225, 154, 0, 7, 3, 167, 0, 10, 42, 180, 0, 70, 180, 0, 236, 79, 29, 42, 180, 0, 70, 180, 0, 225, 154, 0, 7, 4, 167, 0, 4, 3, 96, 62, 132, 4, 1, 167, 255, 145, 29, 172]]
theorem zE_cX7_stageWithout : zTab cX7_stageWithout.data.toList zT_cX7_stageWithout = true := by decide +kernel
theorem dX7_stageWithout_0 : decode cX7_stageWithout 0 = .ok (.iconst 0, 1) := dz_iconst_0 (y0 zE_cX7_stageWithout 0 0 (by decide +kernel))
theorem dX7_stageWithout_1 : decode cX7_stageWithout 1 = .ok (.istore_n 3, 1) := dz_istore_n_3 (y0 zE_cX7_stageWithout 0 1 (by decide +kernel))
theorem dX7_stageWithout_2 : decode cX7_stageWithout 2 = .ok (.aload_n 0, 1) := dz_aload_n_0 (y0 zE_cX7_stageWithout 0 2 (by decide +kernel))
theorem dX7_stageWithout_3 : decode cX7_stageWithout 3 = .ok (.invokevirtual 342, 3) := dz_invokevirtual (yu2 zE_cX7_stageWithout 0 3 (by decide +kernel))
theorem dX7_stageWithout_6 : decode cX7_stageWithout 6 = .ok (.iconst 0, 1) := dz_iconst_0 (y0 zE_cX7_stageWithout 0 6 (by decide +kernel))
theorem dX7_stageWithout_7 : decode cX7_stageWithout 7 = .ok (.istore 4, 2) := dz_istore (yu1 zE_cX7_stageWithout 0 7 (by decide +kernel))
theorem dX7_stageWithout_9 : decode cX7_stageWithout 9 = .ok (.iload 4, 2) := dz_iload (yu1 zE_cX7_stageWithout 0 9 (by decide +kernel))
theorem dX7_stageWithout_11 : decode cX7_stageWithout 11 = .ok (.aload_n 0, 1) := dz_aload_n_0 (y0 zE_cX7_stageWithout 0 11 (by decide +kernel))
theorem dX7_stageWithout_12 : decode cX7_stageWithout 12 = .ok (.getfield 51, 3) := dz_getfield (yu2 zE_cX7_stageWithout 0 12 (by decide +kernel))
theorem dX7_stageWithout_15 : decode cX7_stageWithout 15 = .ok (.if_icmp .ge 108, 3) := dz_if_icmp_ge (ys2 zE_cX7_stageWithout 0 15 (by decide +kernel))
theorem dX7_stageWithout_18 : decode cX7_stageWithout 18 = .ok (.aload_n 0, 1) := dz_aload_n_0 (y0 zE_cX7_stageWithout 0 18 (by decide +kernel))
theorem dX7_stageWithout_19 : decode cX7_stageWithout 19 = .ok (.getfield 29, 3) := dz_getfield (yu2 zE_cX7_stageWithout 0 19 (by decide +kernel))
theorem dX7_stageWithout_22 : decode cX7_stageWithout 22 = .ok (.iload 4, 2) := dz_iload (yu1 zE_cX7_stageWithout 0 22 (by decide +kernel))
theorem dX7_stageWithout_24 : decode cX7_stageWithout 24 = .ok (.aaload, 1) := dz_aaload (y0 zE_cX7_stageWithout 0 24 (by decide +kernel))
theorem dX7_stageWithout_25 : decode cX7_stageWithout 25 = .ok (.getfield 196, 3) := dz_getfield (yu2 zE_cX7_stageWithout 0 25 (by decide +kernel))
theorem dX7_stageWithout_28 : decode cX7_stageWithout 28 = .ok (.iload_n 2, 1) := dz_iload_n_2 (y0 zE_cX7_stageWithout 0 28 (by decide +kernel))
theorem dX7_stageWithout_29 : decode cX7_stageWithout 29 = .ok (.if_icmp .ne 88, 3) := dz_if_icmp_ne (ys2 zE_cX7_stageWithout 0 29 (by decide +kernel))
theorem dX7_stageWithout_32 : decode cX7_stageWithout 32 = .ok (.aload_n 0, 1) := dz_aload_n_0 (y0 zE_cX7_stageWithout 0 32 (by decide +kernel))
theorem dX7_stageWithout_33 : decode cX7_stageWithout 33 = .ok (.getfield 60, 3) := dz_getfield (yu2 zE_cX7_stageWithout 0 33 (by decide +kernel))
theorem dX7_stageWithout_36 : decode cX7_stageWithout 36 = .ok (.iload 4, 2) := dz_iload (yu1 zE_cX7_stageWithout 0 36 (by decide +kernel))
theorem dX7_stageWithout_38 : decode cX7_stageWithout 38 = .ok (.iaload, 1) := dz_iaload (y0 zE_cX7_stageWithout 0 38 (by decide +kernel))
theorem dX7_stageWithout_39 : decode cX7_stageWithout 39 = .ok (.iload_n 1, 1) := dz_iload_n_1 (y0 zE_cX7_stageWithout 0 39 (by decide +kernel))
theorem dX7_stageWithout_40 : decode cX7_stageWithout 40 = .ok (.invokestatic 153, 3) := dz_invokestatic (yu2 zE_cX7_stageWithout 0 40 (by decide +kernel))
theorem dX7_stageWithout_43 : decode cX7_stageWithout 43 = .ok (.ifCond .eq 74, 3) := dz_ifCond_eq (ys2 zE_cX7_stageWithout 0 43 (by decide +kernel))
theorem dX7_stageWithout_46 : decode cX7_stageWithout 46 = .ok (.aload_n 0, 1) := dz_aload_n_0 (y0 zE_cX7_stageWithout 0 46 (by decide +kernel))
theorem dX7_stageWithout_47 : decode cX7_stageWithout 47 = .ok (.iload 4, 2) := dz_iload (yu1 zE_cX7_stageWithout 0 47 (by decide +kernel))
theorem dX7_stageWithout_49 : decode cX7_stageWithout 49 = .ok (.aload_n 0, 1) := dz_aload_n_0 (y0 zE_cX7_stageWithout 0 49 (by decide +kernel))
theorem dX7_stageWithout_50 : decode cX7_stageWithout 50 = .ok (.iload 4, 2) := dz_iload (yu1 zE_cX7_stageWithout 0 50 (by decide +kernel))
theorem dX7_stageWithout_52 : decode cX7_stageWithout 52 = .ok (.invokevirtual 507, 3) := dz_invokevirtual (yu2 zE_cX7_stageWithout 0 52 (by decide +kernel))
theorem dX7_stageWithout_55 : decode cX7_stageWithout 55 = .ok (.iconst 1, 1) := dz_iconst_1 (y0 zE_cX7_stageWithout 0 55 (by decide +kernel))
theorem dX7_stageWithout_56 : decode cX7_stageWithout 56 = .ok (.iload_n 1, 1) := dz_iload_n_1 (y0 zE_cX7_stageWithout 0 56 (by decide +kernel))
theorem dX7_stageWithout_57 : decode cX7_stageWithout 57 = .ok (.ishl, 1) := dz_ishl (y0 zE_cX7_stageWithout 0 57 (by decide +kernel))
theorem dX7_stageWithout_58 : decode cX7_stageWithout 58 = .ok (.iconst (-1), 1) := dz_iconst_m1 (y0 zE_cX7_stageWithout 0 58 (by decide +kernel))
theorem dX7_stageWithout_59 : decode cX7_stageWithout 59 = .ok (.ixor, 1) := dz_ixor (y0 zE_cX7_stageWithout 0 59 (by decide +kernel))
theorem dX7_stageWithout_60 : decode cX7_stageWithout 60 = .ok (.iand, 1) := dz_iand (y0 zE_cX7_stageWithout 0 60 (by decide +kernel))
theorem dX7_stageWithout_61 : decode cX7_stageWithout 61 = .ok (.aload_n 0, 1) := dz_aload_n_0 (y0 zE_cX7_stageWithout 0 61 (by decide +kernel))
theorem dX7_stageWithout_62 : decode cX7_stageWithout 62 = .ok (.getfield 60, 3) := dz_getfield (yu2 zE_cX7_stageWithout 0 62 (by decide +kernel))
theorem dX7_stageWithout_65 : decode cX7_stageWithout 65 = .ok (.iload 4, 2) := dz_iload (yu1 zE_cX7_stageWithout 1 1 (by decide +kernel))
theorem dX7_stageWithout_67 : decode cX7_stageWithout 67 = .ok (.iaload, 1) := dz_iaload (y0 zE_cX7_stageWithout 1 3 (by decide +kernel))
theorem dX7_stageWithout_68 : decode cX7_stageWithout 68 = .ok (.invokevirtual 510, 3) := dz_invokevirtual (yu2 zE_cX7_stageWithout 1 4 (by decide +kernel))
theorem dX7_stageWithout_71 : decode cX7_stageWithout 71 = .ok (.aload_n 0, 1) := dz_aload_n_0 (y0 zE_cX7_stageWithout 1 7 (by decide +kernel))
theorem dX7_stageWithout_72 : decode cX7_stageWithout 72 = .ok (.getfield 60, 3) := dz_getfield (yu2 zE_cX7_stageWithout 1 8 (by decide +kernel))
theorem dX7_stageWithout_75 : decode cX7_stageWithout 75 = .ok (.iload 4, 2) := dz_iload (yu1 zE_cX7_stageWithout 1 11 (by decide +kernel))
theorem dX7_stageWithout_77 : decode cX7_stageWithout 77 = .ok (.aload_n 0, 1) := dz_aload_n_0 (y0 zE_cX7_stageWithout 1 13 (by decide +kernel))
theorem dX7_stageWithout_78 : decode cX7_stageWithout 78 = .ok (.getfield 70, 3) := dz_getfield (yu2 zE_cX7_stageWithout 1 14 (by decide +kernel))
theorem dX7_stageWithout_81 : decode cX7_stageWithout 81 = .ok (.getfield 225, 3) := dz_getfield (yu2 zE_cX7_stageWithout 1 17 (by decide +kernel))
theorem dX7_stageWithout_84 : decode cX7_stageWithout 84 = .ok (.ifCond .ne 7, 3) := dz_ifCond_ne (ys2 zE_cX7_stageWithout 1 20 (by decide +kernel))
theorem dX7_stageWithout_87 : decode cX7_stageWithout 87 = .ok (.iconst 0, 1) := dz_iconst_0 (y0 zE_cX7_stageWithout 1 23 (by decide +kernel))
theorem dX7_stageWithout_88 : decode cX7_stageWithout 88 = .ok (.goto 10, 3) := dz_goto (ys2 zE_cX7_stageWithout 1 24 (by decide +kernel))
theorem dX7_stageWithout_91 : decode cX7_stageWithout 91 = .ok (.aload_n 0, 1) := dz_aload_n_0 (y0 zE_cX7_stageWithout 1 27 (by decide +kernel))
theorem dX7_stageWithout_92 : decode cX7_stageWithout 92 = .ok (.getfield 70, 3) := dz_getfield (yu2 zE_cX7_stageWithout 1 28 (by decide +kernel))
theorem dX7_stageWithout_95 : decode cX7_stageWithout 95 = .ok (.getfield 236, 3) := dz_getfield (yu2 zE_cX7_stageWithout 1 31 (by decide +kernel))
theorem dX7_stageWithout_98 : decode cX7_stageWithout 98 = .ok (.iastore, 1) := dz_iastore (y0 zE_cX7_stageWithout 1 34 (by decide +kernel))
theorem dX7_stageWithout_99 : decode cX7_stageWithout 99 = .ok (.iload_n 3, 1) := dz_iload_n_3 (y0 zE_cX7_stageWithout 1 35 (by decide +kernel))
theorem dX7_stageWithout_100 : decode cX7_stageWithout 100 = .ok (.aload_n 0, 1) := dz_aload_n_0 (y0 zE_cX7_stageWithout 1 36 (by decide +kernel))
theorem dX7_stageWithout_101 : decode cX7_stageWithout 101 = .ok (.getfield 70, 3) := dz_getfield (yu2 zE_cX7_stageWithout 1 37 (by decide +kernel))
theorem dX7_stageWithout_104 : decode cX7_stageWithout 104 = .ok (.getfield 225, 3) := dz_getfield (yu2 zE_cX7_stageWithout 1 40 (by decide +kernel))
theorem dX7_stageWithout_107 : decode cX7_stageWithout 107 = .ok (.ifCond .ne 7, 3) := dz_ifCond_ne (ys2 zE_cX7_stageWithout 1 43 (by decide +kernel))
theorem dX7_stageWithout_110 : decode cX7_stageWithout 110 = .ok (.iconst 1, 1) := dz_iconst_1 (y0 zE_cX7_stageWithout 1 46 (by decide +kernel))
theorem dX7_stageWithout_111 : decode cX7_stageWithout 111 = .ok (.goto 4, 3) := dz_goto (ys2 zE_cX7_stageWithout 1 47 (by decide +kernel))
theorem dX7_stageWithout_114 : decode cX7_stageWithout 114 = .ok (.iconst 0, 1) := dz_iconst_0 (y0 zE_cX7_stageWithout 1 50 (by decide +kernel))
theorem dX7_stageWithout_115 : decode cX7_stageWithout 115 = .ok (.iadd, 1) := dz_iadd (y0 zE_cX7_stageWithout 1 51 (by decide +kernel))
theorem dX7_stageWithout_116 : decode cX7_stageWithout 116 = .ok (.istore_n 3, 1) := dz_istore_n_3 (y0 zE_cX7_stageWithout 1 52 (by decide +kernel))
theorem dX7_stageWithout_117 : decode cX7_stageWithout 117 = .ok (.iinc 4 1, 3) := dz_iinc (yii zE_cX7_stageWithout 1 53 (by decide +kernel))
theorem dX7_stageWithout_120 : decode cX7_stageWithout 120 = .ok (.goto (-111), 3) := dz_goto (ys2 zE_cX7_stageWithout 1 56 (by decide +kernel))
theorem dX7_stageWithout_123 : decode cX7_stageWithout 123 = .ok (.iload_n 3, 1) := dz_iload_n_3 (y0 zE_cX7_stageWithout 1 59 (by decide +kernel))
theorem dX7_stageWithout_124 : decode cX7_stageWithout 124 = .ok (.ireturn, 1) := dz_ireturn (y0 zE_cX7_stageWithout 1 60 (by decide +kernel))
theorem gd_wsX7_stageAll : wsX7_stageAll.all goodWord = true := by decide +kernel
set_option maxRecDepth 20000 in
theorem ggX7_stageAll_X7_stageAsFixed : GoodIn wsX7_stageAll wsX7_stageAsFixed := gi_q gd_wsX7_stageAll _ [(11, 1), (1, 1), (4, 1), (12, 3), (116, 15), (137, 12)] rfl
set_option maxRecDepth 20000 in
theorem gX7_stageAll_X7_stageAsFixed : GoodIn wsX7_stageAll (wsV RX7 342 RX7 yX7_stageAsFixed wsX7_stageAsFixed) := goodIn_app (gi_q gd_wsX7_stageAll _ [(7, 4)] rfl) ggX7_stageAll_X7_stageAsFixed
set_option maxRecDepth 20000 in
theorem ggX7_stageAll_X7_has : GoodIn wsX7_stageAll wsX7_has := gi_q gd_wsX7_stageAll _ [(17, 1)] rfl
set_option maxRecDepth 20000 in
theorem gX7_stageAll_X7_has : GoodIn wsX7_stageAll (va_wsS RX7 153 yX7_has wsX7_has) := goodIn_app (gi_q gd_wsX7_stageAll _ [(15, 2), (10, 1)] rfl) ggX7_stageAll_X7_has
set_option maxRecDepth 20000 in
theorem ggX7_stageAll_X7_freeFor : GoodIn wsX7_stageAll wsX7_freeFor := gi_q gd_wsX7_stageAll _ [(21, 5), (10, 1), (26, 1), (12, 1), (27, 6), (1, 1), (4, 1), (33, 7), (15, 3), (40, 12), (116, 15), (137, 22)] rfl
set_option maxRecDepth 20000 in
theorem gX7_stageAll_X7_freeFor : GoodIn wsX7_stageAll (wsV RX7 507 RX7 yX7_freeFor wsX7_freeFor) := goodIn_app (gi_q gd_wsX7_stageAll _ [(18, 3), (10, 1)] rfl) ggX7_stageAll_X7_freeFor
set_option maxRecDepth 20000 in
theorem ggX7_stageAll_X7_survey : GoodIn wsX7_stageAll wsX7_survey := gi_q gd_wsX7_stageAll _ [(55, 1), (12, 1), (56, 3), (2, 1), (22, 1), (59, 2), (3, 1), (61, 15), (10, 1), (76, 5), (30, 1), (81, 9), (15, 3), (90, 18), (29, 1), (31, 2), (108, 1), (51, 1), (37, 2), (35, 1), (39, 7), (109, 4), (116, 15), (137, 12), (159, 3), (131, 6), (149, 10)] rfl
set_option maxRecDepth 20000 in
theorem gX7_stageAll_X7_survey : GoodIn wsX7_stageAll (wsV RX7 510 RX7 yX7_survey wsX7_survey) := goodIn_app (gi_q gd_wsX7_stageAll _ [(52, 3), (10, 1)] rfl) ggX7_stageAll_X7_survey
set_option maxRecDepth 20000 in
theorem ggX7_stageAll_X7_priceOf : GoodIn wsX7_stageAll wsX7_priceOf := gi_q gd_wsX7_stageAll _ [(115, 1)] rfl
set_option maxRecDepth 20000 in
theorem gX7_stageAll_X7_priceOf : GoodIn wsX7_stageAll (va_wsS RX7 244 yX7_priceOf wsX7_priceOf) := goodIn_app (gi_q gd_wsX7_stageAll _ [(113, 2), (10, 1)] rfl) ggX7_stageAll_X7_priceOf
def zT_cX7_stageAll : List (List Nat) := [[3, 61, 42, 182, 1, 86, 3, 62, 29, 42, 180, 0, 51, 162, 0, 66, 27, 29, 184, 0, 153, 153, 0, 52, 42, 29, 42, 29, 182, 1, 251, 3, 182, 1, 254, 42, 180, 0, 70, 180, 0, 225, 154, 0, 5, 2, 172, 42, 180, 0, 60, 29, 42, 180, 0, 70, 180, 0, 236, 79, 28, 42, 180, 0, 70, 180, 0, 241], [70, 180, 0, 241, 184, 0, 244, 96, 61, 132, 3, 1, 167, 255, 188, 28, 172]]
theorem zE_cX7_stageAll : zTab cX7_stageAll.data.toList zT_cX7_stageAll = true := by decide +kernel
theorem dX7_stageAll_0 : decode cX7_stageAll 0 = .ok (.iconst 0, 1) := dz_iconst_0 (y0 zE_cX7_stageAll 0 0 (by decide +kernel))
theorem dX7_stageAll_1 : decode cX7_stageAll 1 = .ok (.istore_n 2, 1) := dz_istore_n_2 (y0 zE_cX7_stageAll 0 1 (by decide +kernel))
theorem dX7_stageAll_2 : decode cX7_stageAll 2 = .ok (.aload_n 0, 1) := dz_aload_n_0 (y0 zE_cX7_stageAll 0 2 (by decide +kernel))
theorem dX7_stageAll_3 : decode cX7_stageAll 3 = .ok (.invokevirtual 342, 3) := dz_invokevirtual (yu2 zE_cX7_stageAll 0 3 (by decide +kernel))
theorem dX7_stageAll_6 : decode cX7_stageAll 6 = .ok (.iconst 0, 1) := dz_iconst_0 (y0 zE_cX7_stageAll 0 6 (by decide +kernel))
theorem dX7_stageAll_7 : decode cX7_stageAll 7 = .ok (.istore_n 3, 1) := dz_istore_n_3 (y0 zE_cX7_stageAll 0 7 (by decide +kernel))
theorem dX7_stageAll_8 : decode cX7_stageAll 8 = .ok (.iload_n 3, 1) := dz_iload_n_3 (y0 zE_cX7_stageAll 0 8 (by decide +kernel))
theorem dX7_stageAll_9 : decode cX7_stageAll 9 = .ok (.aload_n 0, 1) := dz_aload_n_0 (y0 zE_cX7_stageAll 0 9 (by decide +kernel))
theorem dX7_stageAll_10 : decode cX7_stageAll 10 = .ok (.getfield 51, 3) := dz_getfield (yu2 zE_cX7_stageAll 0 10 (by decide +kernel))
theorem dX7_stageAll_13 : decode cX7_stageAll 13 = .ok (.if_icmp .ge 66, 3) := dz_if_icmp_ge (ys2 zE_cX7_stageAll 0 13 (by decide +kernel))
theorem dX7_stageAll_16 : decode cX7_stageAll 16 = .ok (.iload_n 1, 1) := dz_iload_n_1 (y0 zE_cX7_stageAll 0 16 (by decide +kernel))
theorem dX7_stageAll_17 : decode cX7_stageAll 17 = .ok (.iload_n 3, 1) := dz_iload_n_3 (y0 zE_cX7_stageAll 0 17 (by decide +kernel))
theorem dX7_stageAll_18 : decode cX7_stageAll 18 = .ok (.invokestatic 153, 3) := dz_invokestatic (yu2 zE_cX7_stageAll 0 18 (by decide +kernel))
theorem dX7_stageAll_21 : decode cX7_stageAll 21 = .ok (.ifCond .eq 52, 3) := dz_ifCond_eq (ys2 zE_cX7_stageAll 0 21 (by decide +kernel))
theorem dX7_stageAll_24 : decode cX7_stageAll 24 = .ok (.aload_n 0, 1) := dz_aload_n_0 (y0 zE_cX7_stageAll 0 24 (by decide +kernel))
theorem dX7_stageAll_25 : decode cX7_stageAll 25 = .ok (.iload_n 3, 1) := dz_iload_n_3 (y0 zE_cX7_stageAll 0 25 (by decide +kernel))
theorem dX7_stageAll_26 : decode cX7_stageAll 26 = .ok (.aload_n 0, 1) := dz_aload_n_0 (y0 zE_cX7_stageAll 0 26 (by decide +kernel))
theorem dX7_stageAll_27 : decode cX7_stageAll 27 = .ok (.iload_n 3, 1) := dz_iload_n_3 (y0 zE_cX7_stageAll 0 27 (by decide +kernel))
theorem dX7_stageAll_28 : decode cX7_stageAll 28 = .ok (.invokevirtual 507, 3) := dz_invokevirtual (yu2 zE_cX7_stageAll 0 28 (by decide +kernel))
theorem dX7_stageAll_31 : decode cX7_stageAll 31 = .ok (.iconst 0, 1) := dz_iconst_0 (y0 zE_cX7_stageAll 0 31 (by decide +kernel))
theorem dX7_stageAll_32 : decode cX7_stageAll 32 = .ok (.invokevirtual 510, 3) := dz_invokevirtual (yu2 zE_cX7_stageAll 0 32 (by decide +kernel))
theorem dX7_stageAll_35 : decode cX7_stageAll 35 = .ok (.aload_n 0, 1) := dz_aload_n_0 (y0 zE_cX7_stageAll 0 35 (by decide +kernel))
theorem dX7_stageAll_36 : decode cX7_stageAll 36 = .ok (.getfield 70, 3) := dz_getfield (yu2 zE_cX7_stageAll 0 36 (by decide +kernel))
theorem dX7_stageAll_39 : decode cX7_stageAll 39 = .ok (.getfield 225, 3) := dz_getfield (yu2 zE_cX7_stageAll 0 39 (by decide +kernel))
theorem dX7_stageAll_42 : decode cX7_stageAll 42 = .ok (.ifCond .ne 5, 3) := dz_ifCond_ne (ys2 zE_cX7_stageAll 0 42 (by decide +kernel))
theorem dX7_stageAll_45 : decode cX7_stageAll 45 = .ok (.iconst (-1), 1) := dz_iconst_m1 (y0 zE_cX7_stageAll 0 45 (by decide +kernel))
theorem dX7_stageAll_46 : decode cX7_stageAll 46 = .ok (.ireturn, 1) := dz_ireturn (y0 zE_cX7_stageAll 0 46 (by decide +kernel))
theorem dX7_stageAll_47 : decode cX7_stageAll 47 = .ok (.aload_n 0, 1) := dz_aload_n_0 (y0 zE_cX7_stageAll 0 47 (by decide +kernel))
theorem dX7_stageAll_48 : decode cX7_stageAll 48 = .ok (.getfield 60, 3) := dz_getfield (yu2 zE_cX7_stageAll 0 48 (by decide +kernel))
theorem dX7_stageAll_51 : decode cX7_stageAll 51 = .ok (.iload_n 3, 1) := dz_iload_n_3 (y0 zE_cX7_stageAll 0 51 (by decide +kernel))
theorem dX7_stageAll_52 : decode cX7_stageAll 52 = .ok (.aload_n 0, 1) := dz_aload_n_0 (y0 zE_cX7_stageAll 0 52 (by decide +kernel))
theorem dX7_stageAll_53 : decode cX7_stageAll 53 = .ok (.getfield 70, 3) := dz_getfield (yu2 zE_cX7_stageAll 0 53 (by decide +kernel))
theorem dX7_stageAll_56 : decode cX7_stageAll 56 = .ok (.getfield 236, 3) := dz_getfield (yu2 zE_cX7_stageAll 0 56 (by decide +kernel))
theorem dX7_stageAll_59 : decode cX7_stageAll 59 = .ok (.iastore, 1) := dz_iastore (y0 zE_cX7_stageAll 0 59 (by decide +kernel))
theorem dX7_stageAll_60 : decode cX7_stageAll 60 = .ok (.iload_n 2, 1) := dz_iload_n_2 (y0 zE_cX7_stageAll 0 60 (by decide +kernel))
theorem dX7_stageAll_61 : decode cX7_stageAll 61 = .ok (.aload_n 0, 1) := dz_aload_n_0 (y0 zE_cX7_stageAll 0 61 (by decide +kernel))
theorem dX7_stageAll_62 : decode cX7_stageAll 62 = .ok (.getfield 70, 3) := dz_getfield (yu2 zE_cX7_stageAll 0 62 (by decide +kernel))
theorem dX7_stageAll_65 : decode cX7_stageAll 65 = .ok (.getfield 241, 3) := dz_getfield (yu2 zE_cX7_stageAll 1 1 (by decide +kernel))
theorem dX7_stageAll_68 : decode cX7_stageAll 68 = .ok (.invokestatic 244, 3) := dz_invokestatic (yu2 zE_cX7_stageAll 1 4 (by decide +kernel))
theorem dX7_stageAll_71 : decode cX7_stageAll 71 = .ok (.iadd, 1) := dz_iadd (y0 zE_cX7_stageAll 1 7 (by decide +kernel))
theorem dX7_stageAll_72 : decode cX7_stageAll 72 = .ok (.istore_n 2, 1) := dz_istore_n_2 (y0 zE_cX7_stageAll 1 8 (by decide +kernel))
theorem dX7_stageAll_73 : decode cX7_stageAll 73 = .ok (.iinc 3 1, 3) := dz_iinc (yii zE_cX7_stageAll 1 9 (by decide +kernel))
theorem dX7_stageAll_76 : decode cX7_stageAll 76 = .ok (.goto (-68), 3) := dz_goto (ys2 zE_cX7_stageAll 1 12 (by decide +kernel))
theorem dX7_stageAll_79 : decode cX7_stageAll 79 = .ok (.iload_n 2, 1) := dz_iload_n_2 (y0 zE_cX7_stageAll 1 15 (by decide +kernel))
theorem dX7_stageAll_80 : decode cX7_stageAll 80 = .ok (.ireturn, 1) := dz_ireturn (y0 zE_cX7_stageAll 1 16 (by decide +kernel))
theorem gd_wsX7_putOnStage : wsX7_putOnStage.all goodWord = true := by decide +kernel
set_option maxRecDepth 20000 in
theorem ggX7_putOnStage_X7_getPaid : GoodIn wsX7_putOnStage wsX7_getPaid := gi_q gd_wsX7_putOnStage _ [(8, 30)] rfl
set_option maxRecDepth 20000 in
theorem gX7_putOnStage_X7_getPaid : GoodIn wsX7_putOnStage (wsV RX7 250 RX7 yX7_getPaid wsX7_getPaid) := goodIn_app (gi_q gd_wsX7_putOnStage _ [(4, 4)] rfl) ggX7_putOnStage_X7_getPaid
def zT_cX7_putOnStage : List (List Nat) := [[28, 153, 0, 9, 43, 28, 181, 0, 239, 177, 43, 6, 181, 0, 233, 42, 43, 43, 180, 0, 247, 8, 108, 116, 43, 180, 0, 247, 16, 10, 108, 100, 182, 0, 250, 177]]
theorem zE_cX7_putOnStage : zTab cX7_putOnStage.data.toList zT_cX7_putOnStage = true := by decide +kernel
theorem dX7_putOnStage_0 : decode cX7_putOnStage 0 = .ok (.iload_n 2, 1) := dz_iload_n_2 (y0 zE_cX7_putOnStage 0 0 (by decide +kernel))
theorem dX7_putOnStage_1 : decode cX7_putOnStage 1 = .ok (.ifCond .eq 9, 3) := dz_ifCond_eq (ys2 zE_cX7_putOnStage 0 1 (by decide +kernel))
theorem dX7_putOnStage_4 : decode cX7_putOnStage 4 = .ok (.aload_n 1, 1) := dz_aload_n_1 (y0 zE_cX7_putOnStage 0 4 (by decide +kernel))
theorem dX7_putOnStage_5 : decode cX7_putOnStage 5 = .ok (.iload_n 2, 1) := dz_iload_n_2 (y0 zE_cX7_putOnStage 0 5 (by decide +kernel))
theorem dX7_putOnStage_6 : decode cX7_putOnStage 6 = .ok (.putfield 239, 3) := dz_putfield (yu2 zE_cX7_putOnStage 0 6 (by decide +kernel))
theorem dX7_putOnStage_9 : decode cX7_putOnStage 9 = .ok (.return_, 1) := dz_return (y0 zE_cX7_putOnStage 0 9 (by decide +kernel))
theorem dX7_putOnStage_10 : decode cX7_putOnStage 10 = .ok (.aload_n 1, 1) := dz_aload_n_1 (y0 zE_cX7_putOnStage 0 10 (by decide +kernel))
theorem dX7_putOnStage_11 : decode cX7_putOnStage 11 = .ok (.iconst 3, 1) := dz_iconst_3 (y0 zE_cX7_putOnStage 0 11 (by decide +kernel))
theorem dX7_putOnStage_12 : decode cX7_putOnStage 12 = .ok (.putfield 233, 3) := dz_putfield (yu2 zE_cX7_putOnStage 0 12 (by decide +kernel))
theorem dX7_putOnStage_15 : decode cX7_putOnStage 15 = .ok (.aload_n 0, 1) := dz_aload_n_0 (y0 zE_cX7_putOnStage 0 15 (by decide +kernel))
theorem dX7_putOnStage_16 : decode cX7_putOnStage 16 = .ok (.aload_n 1, 1) := dz_aload_n_1 (y0 zE_cX7_putOnStage 0 16 (by decide +kernel))
theorem dX7_putOnStage_17 : decode cX7_putOnStage 17 = .ok (.aload_n 1, 1) := dz_aload_n_1 (y0 zE_cX7_putOnStage 0 17 (by decide +kernel))
theorem dX7_putOnStage_18 : decode cX7_putOnStage 18 = .ok (.getfield 247, 3) := dz_getfield (yu2 zE_cX7_putOnStage 0 18 (by decide +kernel))
theorem dX7_putOnStage_21 : decode cX7_putOnStage 21 = .ok (.iconst 5, 1) := dz_iconst_5 (y0 zE_cX7_putOnStage 0 21 (by decide +kernel))
theorem dX7_putOnStage_22 : decode cX7_putOnStage 22 = .ok (.idiv, 1) := dz_idiv (y0 zE_cX7_putOnStage 0 22 (by decide +kernel))
theorem dX7_putOnStage_23 : decode cX7_putOnStage 23 = .ok (.ineg, 1) := dz_ineg (y0 zE_cX7_putOnStage 0 23 (by decide +kernel))
theorem dX7_putOnStage_24 : decode cX7_putOnStage 24 = .ok (.aload_n 1, 1) := dz_aload_n_1 (y0 zE_cX7_putOnStage 0 24 (by decide +kernel))
theorem dX7_putOnStage_25 : decode cX7_putOnStage 25 = .ok (.getfield 247, 3) := dz_getfield (yu2 zE_cX7_putOnStage 0 25 (by decide +kernel))
theorem dX7_putOnStage_28 : decode cX7_putOnStage 28 = .ok (.bipush 10, 2) := dz_bipush (ys1 zE_cX7_putOnStage 0 28 (by decide +kernel))
theorem dX7_putOnStage_30 : decode cX7_putOnStage 30 = .ok (.idiv, 1) := dz_idiv (y0 zE_cX7_putOnStage 0 30 (by decide +kernel))
theorem dX7_putOnStage_31 : decode cX7_putOnStage 31 = .ok (.isub, 1) := dz_isub (y0 zE_cX7_putOnStage 0 31 (by decide +kernel))
theorem dX7_putOnStage_32 : decode cX7_putOnStage 32 = .ok (.invokevirtual 250, 3) := dz_invokevirtual (yu2 zE_cX7_putOnStage 0 32 (by decide +kernel))
theorem dX7_putOnStage_35 : decode cX7_putOnStage 35 = .ok (.return_, 1) := dz_return (y0 zE_cX7_putOnStage 0 35 (by decide +kernel))
theorem gd_wsX7_freeFor : wsX7_freeFor.all goodWord = true := by decide +kernel
set_option maxRecDepth 20000 in
theorem ggX7_freeFor_X7_isFreeFor : GoodIn wsX7_freeFor wsX7_isFreeFor := gi_q gd_wsX7_freeFor _ [(6, 19), (5, 1), (25, 50)] rfl
set_option maxRecDepth 20000 in
theorem gX7_freeFor_X7_isFreeFor : GoodIn wsX7_freeFor (wsV RX7 345 RX7 yX7_isFreeFor wsX7_isFreeFor) := goodIn_app (gi_q gd_wsX7_freeFor _ [(2, 4)] rfl) ggX7_freeFor_X7_isFreeFor
def zT_cX7_freeFor : List (List Nat) := [[3, 61, 3, 62, 29, 42, 180, 0, 44, 162, 0, 24, 42, 29, 27, 182, 1, 89, 153, 0, 9, 28, 4, 29, 120, 128, 61, 132, 3, 1, 167, 255, 230, 28, 172]]
theorem zE_cX7_freeFor : zTab cX7_freeFor.data.toList zT_cX7_freeFor = true := by decide +kernel
theorem dX7_freeFor_0 : decode cX7_freeFor 0 = .ok (.iconst 0, 1) := dz_iconst_0 (y0 zE_cX7_freeFor 0 0 (by decide +kernel))
theorem dX7_freeFor_1 : decode cX7_freeFor 1 = .ok (.istore_n 2, 1) := dz_istore_n_2 (y0 zE_cX7_freeFor 0 1 (by decide +kernel))
theorem dX7_freeFor_2 : decode cX7_freeFor 2 = .ok (.iconst 0, 1) := dz_iconst_0 (y0 zE_cX7_freeFor 0 2 (by decide +kernel))
theorem dX7_freeFor_3 : decode cX7_freeFor 3 = .ok (.istore_n 3, 1) := dz_istore_n_3 (y0 zE_cX7_freeFor 0 3 (by decide +kernel))
theorem dX7_freeFor_4 : decode cX7_freeFor 4 = .ok (.iload_n 3, 1) := dz_iload_n_3 (y0 zE_cX7_freeFor 0 4 (by decide +kernel))
theorem dX7_freeFor_5 : decode cX7_freeFor 5 = .ok (.aload_n 0, 1) := dz_aload_n_0 (y0 zE_cX7_freeFor 0 5 (by decide +kernel))
theorem dX7_freeFor_6 : decode cX7_freeFor 6 = .ok (.getfield 44, 3) := dz_getfield (yu2 zE_cX7_freeFor 0 6 (by decide +kernel))
theorem dX7_freeFor_9 : decode cX7_freeFor 9 = .ok (.if_icmp .ge 24, 3) := dz_if_icmp_ge (ys2 zE_cX7_freeFor 0 9 (by decide +kernel))
theorem dX7_freeFor_12 : decode cX7_freeFor 12 = .ok (.aload_n 0, 1) := dz_aload_n_0 (y0 zE_cX7_freeFor 0 12 (by decide +kernel))
theorem dX7_freeFor_13 : decode cX7_freeFor 13 = .ok (.iload_n 3, 1) := dz_iload_n_3 (y0 zE_cX7_freeFor 0 13 (by decide +kernel))
theorem dX7_freeFor_14 : decode cX7_freeFor 14 = .ok (.iload_n 1, 1) := dz_iload_n_1 (y0 zE_cX7_freeFor 0 14 (by decide +kernel))
theorem dX7_freeFor_15 : decode cX7_freeFor 15 = .ok (.invokevirtual 345, 3) := dz_invokevirtual (yu2 zE_cX7_freeFor 0 15 (by decide +kernel))
theorem dX7_freeFor_18 : decode cX7_freeFor 18 = .ok (.ifCond .eq 9, 3) := dz_ifCond_eq (ys2 zE_cX7_freeFor 0 18 (by decide +kernel))
theorem dX7_freeFor_21 : decode cX7_freeFor 21 = .ok (.iload_n 2, 1) := dz_iload_n_2 (y0 zE_cX7_freeFor 0 21 (by decide +kernel))
theorem dX7_freeFor_22 : decode cX7_freeFor 22 = .ok (.iconst 1, 1) := dz_iconst_1 (y0 zE_cX7_freeFor 0 22 (by decide +kernel))
theorem dX7_freeFor_23 : decode cX7_freeFor 23 = .ok (.iload_n 3, 1) := dz_iload_n_3 (y0 zE_cX7_freeFor 0 23 (by decide +kernel))
theorem dX7_freeFor_24 : decode cX7_freeFor 24 = .ok (.ishl, 1) := dz_ishl (y0 zE_cX7_freeFor 0 24 (by decide +kernel))
theorem dX7_freeFor_25 : decode cX7_freeFor 25 = .ok (.ior, 1) := dz_ior (y0 zE_cX7_freeFor 0 25 (by decide +kernel))
theorem dX7_freeFor_26 : decode cX7_freeFor 26 = .ok (.istore_n 2, 1) := dz_istore_n_2 (y0 zE_cX7_freeFor 0 26 (by decide +kernel))
theorem dX7_freeFor_27 : decode cX7_freeFor 27 = .ok (.iinc 3 1, 3) := dz_iinc (yii zE_cX7_freeFor 0 27 (by decide +kernel))
theorem dX7_freeFor_30 : decode cX7_freeFor 30 = .ok (.goto (-26), 3) := dz_goto (ys2 zE_cX7_freeFor 0 30 (by decide +kernel))
theorem dX7_freeFor_33 : decode cX7_freeFor 33 = .ok (.iload_n 2, 1) := dz_iload_n_2 (y0 zE_cX7_freeFor 0 33 (by decide +kernel))
theorem dX7_freeFor_34 : decode cX7_freeFor 34 = .ok (.ireturn, 1) := dz_ireturn (y0 zE_cX7_freeFor 0 34 (by decide +kernel))
theorem gd_wsX7_isFreeFor : wsX7_isFreeFor.all goodWord = true := by decide +kernel
set_option maxRecDepth 20000 in
theorem ggX7_isFreeFor_X7_has : GoodIn wsX7_isFreeFor wsX7_has := gi_q gd_wsX7_isFreeFor _ [(20, 1)] rfl
set_option maxRecDepth 20000 in
theorem gX7_isFreeFor_X7_has : GoodIn wsX7_isFreeFor (va_wsS RX7 153 yX7_has wsX7_has) := goodIn_app (gi_q gd_wsX7_isFreeFor _ [(17, 3)] rfl) ggX7_isFreeFor_X7_has
set_option maxRecDepth 20000 in
theorem ggX7_isFreeFor_X4_between : GoodIn wsX7_isFreeFor wsX4_between := gi_q gd_wsX7_isFreeFor _ [(25, 2), (68, 2)] rfl
set_option maxRecDepth 20000 in
theorem gX7_isFreeFor_X4_between : GoodIn wsX7_isFreeFor (wsV RX7 166 RX4 yX4_between wsX4_between) := goodIn_app (gi_q gd_wsX7_isFreeFor _ [(21, 4)] rfl) ggX7_isFreeFor_X4_between
set_option maxRecDepth 20000 in
theorem ggX7_isFreeFor_X7_leaveTime : GoodIn wsX7_isFreeFor wsX7_leaveTime := gi_q gd_wsX7_isFreeFor _ [(30, 1), (1, 1), (31, 1), (4, 1), (7, 1), (32, 1), (21, 6), (33, 27), (68, 2)] rfl
set_option maxRecDepth 20000 in
theorem gX7_isFreeFor_X7_leaveTime : GoodIn wsX7_isFreeFor (wsV RX7 516 RX7 yX7_leaveTime wsX7_leaveTime) := goodIn_app (gi_q gd_wsX7_isFreeFor _ [(27, 3), (19, 1)] rfl) ggX7_isFreeFor_X7_leaveTime
def zT_cX7_isFreeFor : List (List Nat) := [[42, 180, 0, 29, 28, 50, 78, 42, 180, 0, 40, 45, 180, 0, 196, 46, 27, 184, 0, 153, 154, 0, 27, 42, 180, 0, 36, 42, 180, 0, 11, 27, 50, 180, 0, 117, 45, 180, 0, 199, 182, 0, 166, 2, 160, 0, 5, 3, 172, 3, 54, 4, 21, 4, 42, 180, 0, 51, 162, 0, 79, 21, 4, 28, 159, 0, 38, 42], [159, 0, 38, 42, 180, 0, 29, 21, 4, 50, 180, 0, 196, 45, 180, 0, 196, 160, 0, 21, 42, 180, 0, 60, 21, 4, 46, 27, 184, 0, 153, 153, 0, 7, 4, 167, 0, 4, 3, 54, 5, 21, 5, 153, 0, 24, 42, 21, 4, 28, 184, 2, 1, 21, 4, 28, 184, 1, 7, 182, 2, 4, 154, 0, 5, 3, 172, 132], [5, 3, 172, 132, 4, 1, 167, 255, 174, 4, 172]]
theorem zE_cX7_isFreeFor : zTab cX7_isFreeFor.data.toList zT_cX7_isFreeFor = true := by decide +kernel
theorem dX7_isFreeFor_0 : decode cX7_isFreeFor 0 = .ok (.aload_n 0, 1) := dz_aload_n_0 (y0 zE_cX7_isFreeFor 0 0 (by decide +kernel))
theorem dX7_isFreeFor_1 : decode cX7_isFreeFor 1 = .ok (.getfield 29, 3) := dz_getfield (yu2 zE_cX7_isFreeFor 0 1 (by decide +kernel))
theorem dX7_isFreeFor_4 : decode cX7_isFreeFor 4 = .ok (.iload_n 2, 1) := dz_iload_n_2 (y0 zE_cX7_isFreeFor 0 4 (by decide +kernel))
theorem dX7_isFreeFor_5 : decode cX7_isFreeFor 5 = .ok (.aaload, 1) := dz_aaload (y0 zE_cX7_isFreeFor 0 5 (by decide +kernel))
theorem dX7_isFreeFor_6 : decode cX7_isFreeFor 6 = .ok (.astore_n 3, 1) := dz_astore_n_3 (y0 zE_cX7_isFreeFor 0 6 (by decide +kernel))
theorem dX7_isFreeFor_7 : decode cX7_isFreeFor 7 = .ok (.aload_n 0, 1) := dz_aload_n_0 (y0 zE_cX7_isFreeFor 0 7 (by decide +kernel))
theorem dX7_isFreeFor_8 : decode cX7_isFreeFor 8 = .ok (.getfield 40, 3) := dz_getfield (yu2 zE_cX7_isFreeFor 0 8 (by decide +kernel))
theorem dX7_isFreeFor_11 : decode cX7_isFreeFor 11 = .ok (.aload_n 3, 1) := dz_aload_n_3 (y0 zE_cX7_isFreeFor 0 11 (by decide +kernel))
theorem dX7_isFreeFor_12 : decode cX7_isFreeFor 12 = .ok (.getfield 196, 3) := dz_getfield (yu2 zE_cX7_isFreeFor 0 12 (by decide +kernel))
theorem dX7_isFreeFor_15 : decode cX7_isFreeFor 15 = .ok (.iaload, 1) := dz_iaload (y0 zE_cX7_isFreeFor 0 15 (by decide +kernel))
theorem dX7_isFreeFor_16 : decode cX7_isFreeFor 16 = .ok (.iload_n 1, 1) := dz_iload_n_1 (y0 zE_cX7_isFreeFor 0 16 (by decide +kernel))
theorem dX7_isFreeFor_17 : decode cX7_isFreeFor 17 = .ok (.invokestatic 153, 3) := dz_invokestatic (yu2 zE_cX7_isFreeFor 0 17 (by decide +kernel))
theorem dX7_isFreeFor_20 : decode cX7_isFreeFor 20 = .ok (.ifCond .ne 27, 3) := dz_ifCond_ne (ys2 zE_cX7_isFreeFor 0 20 (by decide +kernel))
theorem dX7_isFreeFor_23 : decode cX7_isFreeFor 23 = .ok (.aload_n 0, 1) := dz_aload_n_0 (y0 zE_cX7_isFreeFor 0 23 (by decide +kernel))
theorem dX7_isFreeFor_24 : decode cX7_isFreeFor 24 = .ok (.getfield 36, 3) := dz_getfield (yu2 zE_cX7_isFreeFor 0 24 (by decide +kernel))
theorem dX7_isFreeFor_27 : decode cX7_isFreeFor 27 = .ok (.aload_n 0, 1) := dz_aload_n_0 (y0 zE_cX7_isFreeFor 0 27 (by decide +kernel))
theorem dX7_isFreeFor_28 : decode cX7_isFreeFor 28 = .ok (.getfield 11, 3) := dz_getfield (yu2 zE_cX7_isFreeFor 0 28 (by decide +kernel))
theorem dX7_isFreeFor_31 : decode cX7_isFreeFor 31 = .ok (.iload_n 1, 1) := dz_iload_n_1 (y0 zE_cX7_isFreeFor 0 31 (by decide +kernel))
theorem dX7_isFreeFor_32 : decode cX7_isFreeFor 32 = .ok (.aaload, 1) := dz_aaload (y0 zE_cX7_isFreeFor 0 32 (by decide +kernel))
theorem dX7_isFreeFor_33 : decode cX7_isFreeFor 33 = .ok (.getfield 117, 3) := dz_getfield (yu2 zE_cX7_isFreeFor 0 33 (by decide +kernel))
theorem dX7_isFreeFor_36 : decode cX7_isFreeFor 36 = .ok (.aload_n 3, 1) := dz_aload_n_3 (y0 zE_cX7_isFreeFor 0 36 (by decide +kernel))
theorem dX7_isFreeFor_37 : decode cX7_isFreeFor 37 = .ok (.getfield 199, 3) := dz_getfield (yu2 zE_cX7_isFreeFor 0 37 (by decide +kernel))
theorem dX7_isFreeFor_40 : decode cX7_isFreeFor 40 = .ok (.invokevirtual 166, 3) := dz_invokevirtual (yu2 zE_cX7_isFreeFor 0 40 (by decide +kernel))
theorem dX7_isFreeFor_43 : decode cX7_isFreeFor 43 = .ok (.iconst (-1), 1) := dz_iconst_m1 (y0 zE_cX7_isFreeFor 0 43 (by decide +kernel))
theorem dX7_isFreeFor_44 : decode cX7_isFreeFor 44 = .ok (.if_icmp .ne 5, 3) := dz_if_icmp_ne (ys2 zE_cX7_isFreeFor 0 44 (by decide +kernel))
theorem dX7_isFreeFor_47 : decode cX7_isFreeFor 47 = .ok (.iconst 0, 1) := dz_iconst_0 (y0 zE_cX7_isFreeFor 0 47 (by decide +kernel))
theorem dX7_isFreeFor_48 : decode cX7_isFreeFor 48 = .ok (.ireturn, 1) := dz_ireturn (y0 zE_cX7_isFreeFor 0 48 (by decide +kernel))
theorem dX7_isFreeFor_49 : decode cX7_isFreeFor 49 = .ok (.iconst 0, 1) := dz_iconst_0 (y0 zE_cX7_isFreeFor 0 49 (by decide +kernel))
theorem dX7_isFreeFor_50 : decode cX7_isFreeFor 50 = .ok (.istore 4, 2) := dz_istore (yu1 zE_cX7_isFreeFor 0 50 (by decide +kernel))
theorem dX7_isFreeFor_52 : decode cX7_isFreeFor 52 = .ok (.iload 4, 2) := dz_iload (yu1 zE_cX7_isFreeFor 0 52 (by decide +kernel))
theorem dX7_isFreeFor_54 : decode cX7_isFreeFor 54 = .ok (.aload_n 0, 1) := dz_aload_n_0 (y0 zE_cX7_isFreeFor 0 54 (by decide +kernel))
theorem dX7_isFreeFor_55 : decode cX7_isFreeFor 55 = .ok (.getfield 51, 3) := dz_getfield (yu2 zE_cX7_isFreeFor 0 55 (by decide +kernel))
theorem dX7_isFreeFor_58 : decode cX7_isFreeFor 58 = .ok (.if_icmp .ge 79, 3) := dz_if_icmp_ge (ys2 zE_cX7_isFreeFor 0 58 (by decide +kernel))
theorem dX7_isFreeFor_61 : decode cX7_isFreeFor 61 = .ok (.iload 4, 2) := dz_iload (yu1 zE_cX7_isFreeFor 0 61 (by decide +kernel))
theorem dX7_isFreeFor_63 : decode cX7_isFreeFor 63 = .ok (.iload_n 2, 1) := dz_iload_n_2 (y0 zE_cX7_isFreeFor 0 63 (by decide +kernel))
theorem dX7_isFreeFor_64 : decode cX7_isFreeFor 64 = .ok (.if_icmp .eq 38, 3) := dz_if_icmp_eq (ys2 zE_cX7_isFreeFor 1 0 (by decide +kernel))
theorem dX7_isFreeFor_67 : decode cX7_isFreeFor 67 = .ok (.aload_n 0, 1) := dz_aload_n_0 (y0 zE_cX7_isFreeFor 1 3 (by decide +kernel))
theorem dX7_isFreeFor_68 : decode cX7_isFreeFor 68 = .ok (.getfield 29, 3) := dz_getfield (yu2 zE_cX7_isFreeFor 1 4 (by decide +kernel))
theorem dX7_isFreeFor_71 : decode cX7_isFreeFor 71 = .ok (.iload 4, 2) := dz_iload (yu1 zE_cX7_isFreeFor 1 7 (by decide +kernel))
theorem dX7_isFreeFor_73 : decode cX7_isFreeFor 73 = .ok (.aaload, 1) := dz_aaload (y0 zE_cX7_isFreeFor 1 9 (by decide +kernel))
theorem dX7_isFreeFor_74 : decode cX7_isFreeFor 74 = .ok (.getfield 196, 3) := dz_getfield (yu2 zE_cX7_isFreeFor 1 10 (by decide +kernel))
theorem dX7_isFreeFor_77 : decode cX7_isFreeFor 77 = .ok (.aload_n 3, 1) := dz_aload_n_3 (y0 zE_cX7_isFreeFor 1 13 (by decide +kernel))
theorem dX7_isFreeFor_78 : decode cX7_isFreeFor 78 = .ok (.getfield 196, 3) := dz_getfield (yu2 zE_cX7_isFreeFor 1 14 (by decide +kernel))
theorem dX7_isFreeFor_81 : decode cX7_isFreeFor 81 = .ok (.if_icmp .ne 21, 3) := dz_if_icmp_ne (ys2 zE_cX7_isFreeFor 1 17 (by decide +kernel))
theorem dX7_isFreeFor_84 : decode cX7_isFreeFor 84 = .ok (.aload_n 0, 1) := dz_aload_n_0 (y0 zE_cX7_isFreeFor 1 20 (by decide +kernel))
theorem dX7_isFreeFor_85 : decode cX7_isFreeFor 85 = .ok (.getfield 60, 3) := dz_getfield (yu2 zE_cX7_isFreeFor 1 21 (by decide +kernel))
theorem dX7_isFreeFor_88 : decode cX7_isFreeFor 88 = .ok (.iload 4, 2) := dz_iload (yu1 zE_cX7_isFreeFor 1 24 (by decide +kernel))
theorem dX7_isFreeFor_90 : decode cX7_isFreeFor 90 = .ok (.iaload, 1) := dz_iaload (y0 zE_cX7_isFreeFor 1 26 (by decide +kernel))
theorem dX7_isFreeFor_91 : decode cX7_isFreeFor 91 = .ok (.iload_n 1, 1) := dz_iload_n_1 (y0 zE_cX7_isFreeFor 1 27 (by decide +kernel))
theorem dX7_isFreeFor_92 : decode cX7_isFreeFor 92 = .ok (.invokestatic 153, 3) := dz_invokestatic (yu2 zE_cX7_isFreeFor 1 28 (by decide +kernel))
theorem dX7_isFreeFor_95 : decode cX7_isFreeFor 95 = .ok (.ifCond .eq 7, 3) := dz_ifCond_eq (ys2 zE_cX7_isFreeFor 1 31 (by decide +kernel))
theorem dX7_isFreeFor_98 : decode cX7_isFreeFor 98 = .ok (.iconst 1, 1) := dz_iconst_1 (y0 zE_cX7_isFreeFor 1 34 (by decide +kernel))
theorem dX7_isFreeFor_99 : decode cX7_isFreeFor 99 = .ok (.goto 4, 3) := dz_goto (ys2 zE_cX7_isFreeFor 1 35 (by decide +kernel))
theorem dX7_isFreeFor_102 : decode cX7_isFreeFor 102 = .ok (.iconst 0, 1) := dz_iconst_0 (y0 zE_cX7_isFreeFor 1 38 (by decide +kernel))
theorem dX7_isFreeFor_103 : decode cX7_isFreeFor 103 = .ok (.istore 5, 2) := dz_istore (yu1 zE_cX7_isFreeFor 1 39 (by decide +kernel))
theorem dX7_isFreeFor_105 : decode cX7_isFreeFor 105 = .ok (.iload 5, 2) := dz_iload (yu1 zE_cX7_isFreeFor 1 41 (by decide +kernel))
theorem dX7_isFreeFor_107 : decode cX7_isFreeFor 107 = .ok (.ifCond .eq 24, 3) := dz_ifCond_eq (ys2 zE_cX7_isFreeFor 1 43 (by decide +kernel))
theorem dX7_isFreeFor_110 : decode cX7_isFreeFor 110 = .ok (.aload_n 0, 1) := dz_aload_n_0 (y0 zE_cX7_isFreeFor 1 46 (by decide +kernel))
theorem dX7_isFreeFor_111 : decode cX7_isFreeFor 111 = .ok (.iload 4, 2) := dz_iload (yu1 zE_cX7_isFreeFor 1 47 (by decide +kernel))
theorem dX7_isFreeFor_113 : decode cX7_isFreeFor 113 = .ok (.iload_n 2, 1) := dz_iload_n_2 (y0 zE_cX7_isFreeFor 1 49 (by decide +kernel))
theorem dX7_isFreeFor_114 : decode cX7_isFreeFor 114 = .ok (.invokestatic 513, 3) := dz_invokestatic (yu2 zE_cX7_isFreeFor 1 50 (by decide +kernel))
theorem dX7_isFreeFor_117 : decode cX7_isFreeFor 117 = .ok (.iload 4, 2) := dz_iload (yu1 zE_cX7_isFreeFor 1 53 (by decide +kernel))
theorem dX7_isFreeFor_119 : decode cX7_isFreeFor 119 = .ok (.iload_n 2, 1) := dz_iload_n_2 (y0 zE_cX7_isFreeFor 1 55 (by decide +kernel))
theorem dX7_isFreeFor_120 : decode cX7_isFreeFor 120 = .ok (.invokestatic 263, 3) := dz_invokestatic (yu2 zE_cX7_isFreeFor 1 56 (by decide +kernel))
theorem dX7_isFreeFor_123 : decode cX7_isFreeFor 123 = .ok (.invokevirtual 516, 3) := dz_invokevirtual (yu2 zE_cX7_isFreeFor 1 59 (by decide +kernel))
theorem dX7_isFreeFor_126 : decode cX7_isFreeFor 126 = .ok (.ifCond .ne 5, 3) := dz_ifCond_ne (ys2 zE_cX7_isFreeFor 1 62 (by decide +kernel))
theorem dX7_isFreeFor_129 : decode cX7_isFreeFor 129 = .ok (.iconst 0, 1) := dz_iconst_0 (y0 zE_cX7_isFreeFor 2 1 (by decide +kernel))
theorem dX7_isFreeFor_130 : decode cX7_isFreeFor 130 = .ok (.ireturn, 1) := dz_ireturn (y0 zE_cX7_isFreeFor 2 2 (by decide +kernel))
theorem dX7_isFreeFor_131 : decode cX7_isFreeFor 131 = .ok (.iinc 4 1, 3) := dz_iinc (yii zE_cX7_isFreeFor 2 3 (by decide +kernel))
theorem dX7_isFreeFor_134 : decode cX7_isFreeFor 134 = .ok (.goto (-82), 3) := dz_goto (ys2 zE_cX7_isFreeFor 2 6 (by decide +kernel))
theorem dX7_isFreeFor_137 : decode cX7_isFreeFor 137 = .ok (.iconst 1, 1) := dz_iconst_1 (y0 zE_cX7_isFreeFor 2 9 (by decide +kernel))
theorem dX7_isFreeFor_138 : decode cX7_isFreeFor 138 = .ok (.ireturn, 1) := dz_ireturn (y0 zE_cX7_isFreeFor 2 10 (by decide +kernel))
theorem gd_wsX7_leaveTime : wsX7_leaveTime.all goodWord = true := by decide +kernel
set_option maxRecDepth 20000 in
theorem ggX7_leaveTime_X4_between : GoodIn wsX7_leaveTime wsX4_between := gi_q gd_wsX7_leaveTime _ [(10, 2), (39, 2)] rfl
set_option maxRecDepth 20000 in
theorem gX7_leaveTime_X4_between : GoodIn wsX7_leaveTime (wsV RX7 166 RX4 yX4_between wsX4_between) := goodIn_app (gi_q gd_wsX7_leaveTime _ [(6, 4)] rfl) ggX7_leaveTime_X4_between
def zT_cX7_leaveTime : List (List Nat) := [[42, 180, 0, 29, 28, 50, 180, 0, 202, 42, 180, 0, 29, 27, 50, 180, 0, 202, 162, 0, 7, 4, 167, 0, 4, 3, 62, 42, 180, 0, 29, 29, 153, 0, 7, 28, 167, 0, 4, 27, 50, 58, 4, 42, 180, 0, 29, 29, 153, 0, 7, 27, 167, 0, 4, 28, 50, 58, 5, 42, 180, 0, 36, 25, 4, 180, 0, 199], [4, 180, 0, 199, 25, 5, 180, 0, 199, 182, 0, 166, 54, 6, 21, 6, 2, 159, 0, 29, 25, 4, 180, 0, 202, 25, 4, 180, 0, 205, 96, 21, 6, 96, 25, 5, 180, 0, 202, 163, 0, 7, 4, 167, 0, 4, 3, 172]]
theorem zE_cX7_leaveTime : zTab cX7_leaveTime.data.toList zT_cX7_leaveTime = true := by decide +kernel
theorem dX7_leaveTime_0 : decode cX7_leaveTime 0 = .ok (.aload_n 0, 1) := dz_aload_n_0 (y0 zE_cX7_leaveTime 0 0 (by decide +kernel))
theorem dX7_leaveTime_1 : decode cX7_leaveTime 1 = .ok (.getfield 29, 3) := dz_getfield (yu2 zE_cX7_leaveTime 0 1 (by decide +kernel))
theorem dX7_leaveTime_4 : decode cX7_leaveTime 4 = .ok (.iload_n 2, 1) := dz_iload_n_2 (y0 zE_cX7_leaveTime 0 4 (by decide +kernel))
theorem dX7_leaveTime_5 : decode cX7_leaveTime 5 = .ok (.aaload, 1) := dz_aaload (y0 zE_cX7_leaveTime 0 5 (by decide +kernel))
theorem dX7_leaveTime_6 : decode cX7_leaveTime 6 = .ok (.getfield 202, 3) := dz_getfield (yu2 zE_cX7_leaveTime 0 6 (by decide +kernel))
theorem dX7_leaveTime_9 : decode cX7_leaveTime 9 = .ok (.aload_n 0, 1) := dz_aload_n_0 (y0 zE_cX7_leaveTime 0 9 (by decide +kernel))
theorem dX7_leaveTime_10 : decode cX7_leaveTime 10 = .ok (.getfield 29, 3) := dz_getfield (yu2 zE_cX7_leaveTime 0 10 (by decide +kernel))
theorem dX7_leaveTime_13 : decode cX7_leaveTime 13 = .ok (.iload_n 1, 1) := dz_iload_n_1 (y0 zE_cX7_leaveTime 0 13 (by decide +kernel))
theorem dX7_leaveTime_14 : decode cX7_leaveTime 14 = .ok (.aaload, 1) := dz_aaload (y0 zE_cX7_leaveTime 0 14 (by decide +kernel))
theorem dX7_leaveTime_15 : decode cX7_leaveTime 15 = .ok (.getfield 202, 3) := dz_getfield (yu2 zE_cX7_leaveTime 0 15 (by decide +kernel))
theorem dX7_leaveTime_18 : decode cX7_leaveTime 18 = .ok (.if_icmp .ge 7, 3) := dz_if_icmp_ge (ys2 zE_cX7_leaveTime 0 18 (by decide +kernel))
theorem dX7_leaveTime_21 : decode cX7_leaveTime 21 = .ok (.iconst 1, 1) := dz_iconst_1 (y0 zE_cX7_leaveTime 0 21 (by decide +kernel))
theorem dX7_leaveTime_22 : decode cX7_leaveTime 22 = .ok (.goto 4, 3) := dz_goto (ys2 zE_cX7_leaveTime 0 22 (by decide +kernel))
theorem dX7_leaveTime_25 : decode cX7_leaveTime 25 = .ok (.iconst 0, 1) := dz_iconst_0 (y0 zE_cX7_leaveTime 0 25 (by decide +kernel))
theorem dX7_leaveTime_26 : decode cX7_leaveTime 26 = .ok (.istore_n 3, 1) := dz_istore_n_3 (y0 zE_cX7_leaveTime 0 26 (by decide +kernel))
theorem dX7_leaveTime_27 : decode cX7_leaveTime 27 = .ok (.aload_n 0, 1) := dz_aload_n_0 (y0 zE_cX7_leaveTime 0 27 (by decide +kernel))
theorem dX7_leaveTime_28 : decode cX7_leaveTime 28 = .ok (.getfield 29, 3) := dz_getfield (yu2 zE_cX7_leaveTime 0 28 (by decide +kernel))
theorem dX7_leaveTime_31 : decode cX7_leaveTime 31 = .ok (.iload_n 3, 1) := dz_iload_n_3 (y0 zE_cX7_leaveTime 0 31 (by decide +kernel))
theorem dX7_leaveTime_32 : decode cX7_leaveTime 32 = .ok (.ifCond .eq 7, 3) := dz_ifCond_eq (ys2 zE_cX7_leaveTime 0 32 (by decide +kernel))
theorem dX7_leaveTime_35 : decode cX7_leaveTime 35 = .ok (.iload_n 2, 1) := dz_iload_n_2 (y0 zE_cX7_leaveTime 0 35 (by decide +kernel))
theorem dX7_leaveTime_36 : decode cX7_leaveTime 36 = .ok (.goto 4, 3) := dz_goto (ys2 zE_cX7_leaveTime 0 36 (by decide +kernel))
theorem dX7_leaveTime_39 : decode cX7_leaveTime 39 = .ok (.iload_n 1, 1) := dz_iload_n_1 (y0 zE_cX7_leaveTime 0 39 (by decide +kernel))
theorem dX7_leaveTime_40 : decode cX7_leaveTime 40 = .ok (.aaload, 1) := dz_aaload (y0 zE_cX7_leaveTime 0 40 (by decide +kernel))
theorem dX7_leaveTime_41 : decode cX7_leaveTime 41 = .ok (.astore 4, 2) := dz_astore (yu1 zE_cX7_leaveTime 0 41 (by decide +kernel))
theorem dX7_leaveTime_43 : decode cX7_leaveTime 43 = .ok (.aload_n 0, 1) := dz_aload_n_0 (y0 zE_cX7_leaveTime 0 43 (by decide +kernel))
theorem dX7_leaveTime_44 : decode cX7_leaveTime 44 = .ok (.getfield 29, 3) := dz_getfield (yu2 zE_cX7_leaveTime 0 44 (by decide +kernel))
theorem dX7_leaveTime_47 : decode cX7_leaveTime 47 = .ok (.iload_n 3, 1) := dz_iload_n_3 (y0 zE_cX7_leaveTime 0 47 (by decide +kernel))
theorem dX7_leaveTime_48 : decode cX7_leaveTime 48 = .ok (.ifCond .eq 7, 3) := dz_ifCond_eq (ys2 zE_cX7_leaveTime 0 48 (by decide +kernel))
theorem dX7_leaveTime_51 : decode cX7_leaveTime 51 = .ok (.iload_n 1, 1) := dz_iload_n_1 (y0 zE_cX7_leaveTime 0 51 (by decide +kernel))
theorem dX7_leaveTime_52 : decode cX7_leaveTime 52 = .ok (.goto 4, 3) := dz_goto (ys2 zE_cX7_leaveTime 0 52 (by decide +kernel))
theorem dX7_leaveTime_55 : decode cX7_leaveTime 55 = .ok (.iload_n 2, 1) := dz_iload_n_2 (y0 zE_cX7_leaveTime 0 55 (by decide +kernel))
theorem dX7_leaveTime_56 : decode cX7_leaveTime 56 = .ok (.aaload, 1) := dz_aaload (y0 zE_cX7_leaveTime 0 56 (by decide +kernel))
theorem dX7_leaveTime_57 : decode cX7_leaveTime 57 = .ok (.astore 5, 2) := dz_astore (yu1 zE_cX7_leaveTime 0 57 (by decide +kernel))
theorem dX7_leaveTime_59 : decode cX7_leaveTime 59 = .ok (.aload_n 0, 1) := dz_aload_n_0 (y0 zE_cX7_leaveTime 0 59 (by decide +kernel))
theorem dX7_leaveTime_60 : decode cX7_leaveTime 60 = .ok (.getfield 36, 3) := dz_getfield (yu2 zE_cX7_leaveTime 0 60 (by decide +kernel))
theorem dX7_leaveTime_63 : decode cX7_leaveTime 63 = .ok (.aload 4, 2) := dz_aload (yu1 zE_cX7_leaveTime 0 63 (by decide +kernel))
theorem dX7_leaveTime_65 : decode cX7_leaveTime 65 = .ok (.getfield 199, 3) := dz_getfield (yu2 zE_cX7_leaveTime 1 1 (by decide +kernel))
theorem dX7_leaveTime_68 : decode cX7_leaveTime 68 = .ok (.aload 5, 2) := dz_aload (yu1 zE_cX7_leaveTime 1 4 (by decide +kernel))
theorem dX7_leaveTime_70 : decode cX7_leaveTime 70 = .ok (.getfield 199, 3) := dz_getfield (yu2 zE_cX7_leaveTime 1 6 (by decide +kernel))
theorem dX7_leaveTime_73 : decode cX7_leaveTime 73 = .ok (.invokevirtual 166, 3) := dz_invokevirtual (yu2 zE_cX7_leaveTime 1 9 (by decide +kernel))
theorem dX7_leaveTime_76 : decode cX7_leaveTime 76 = .ok (.istore 6, 2) := dz_istore (yu1 zE_cX7_leaveTime 1 12 (by decide +kernel))
theorem dX7_leaveTime_78 : decode cX7_leaveTime 78 = .ok (.iload 6, 2) := dz_iload (yu1 zE_cX7_leaveTime 1 14 (by decide +kernel))
theorem dX7_leaveTime_80 : decode cX7_leaveTime 80 = .ok (.iconst (-1), 1) := dz_iconst_m1 (y0 zE_cX7_leaveTime 1 16 (by decide +kernel))
theorem dX7_leaveTime_81 : decode cX7_leaveTime 81 = .ok (.if_icmp .eq 29, 3) := dz_if_icmp_eq (ys2 zE_cX7_leaveTime 1 17 (by decide +kernel))
theorem dX7_leaveTime_84 : decode cX7_leaveTime 84 = .ok (.aload 4, 2) := dz_aload (yu1 zE_cX7_leaveTime 1 20 (by decide +kernel))
theorem dX7_leaveTime_86 : decode cX7_leaveTime 86 = .ok (.getfield 202, 3) := dz_getfield (yu2 zE_cX7_leaveTime 1 22 (by decide +kernel))
theorem dX7_leaveTime_89 : decode cX7_leaveTime 89 = .ok (.aload 4, 2) := dz_aload (yu1 zE_cX7_leaveTime 1 25 (by decide +kernel))
theorem dX7_leaveTime_91 : decode cX7_leaveTime 91 = .ok (.getfield 205, 3) := dz_getfield (yu2 zE_cX7_leaveTime 1 27 (by decide +kernel))
theorem dX7_leaveTime_94 : decode cX7_leaveTime 94 = .ok (.iadd, 1) := dz_iadd (y0 zE_cX7_leaveTime 1 30 (by decide +kernel))
theorem dX7_leaveTime_95 : decode cX7_leaveTime 95 = .ok (.iload 6, 2) := dz_iload (yu1 zE_cX7_leaveTime 1 31 (by decide +kernel))
theorem dX7_leaveTime_97 : decode cX7_leaveTime 97 = .ok (.iadd, 1) := dz_iadd (y0 zE_cX7_leaveTime 1 33 (by decide +kernel))
theorem dX7_leaveTime_98 : decode cX7_leaveTime 98 = .ok (.aload 5, 2) := dz_aload (yu1 zE_cX7_leaveTime 1 34 (by decide +kernel))
theorem dX7_leaveTime_100 : decode cX7_leaveTime 100 = .ok (.getfield 202, 3) := dz_getfield (yu2 zE_cX7_leaveTime 1 36 (by decide +kernel))
theorem dX7_leaveTime_103 : decode cX7_leaveTime 103 = .ok (.if_icmp .gt 7, 3) := dz_if_icmp_gt (ys2 zE_cX7_leaveTime 1 39 (by decide +kernel))
theorem dX7_leaveTime_106 : decode cX7_leaveTime 106 = .ok (.iconst 1, 1) := dz_iconst_1 (y0 zE_cX7_leaveTime 1 42 (by decide +kernel))
theorem dX7_leaveTime_107 : decode cX7_leaveTime 107 = .ok (.goto 4, 3) := dz_goto (ys2 zE_cX7_leaveTime 1 43 (by decide +kernel))
theorem dX7_leaveTime_110 : decode cX7_leaveTime 110 = .ok (.iconst 0, 1) := dz_iconst_0 (y0 zE_cX7_leaveTime 1 46 (by decide +kernel))
theorem dX7_leaveTime_111 : decode cX7_leaveTime 111 = .ok (.ireturn, 1) := dz_ireturn (y0 zE_cX7_leaveTime 1 47 (by decide +kernel))
theorem gd_wsX7_surveyNow : wsX7_surveyNow.all goodWord = true := by decide +kernel
set_option maxRecDepth 20000 in
theorem ggX7_surveyNow_X7_stageAsFixed : GoodIn wsX7_surveyNow wsX7_stageAsFixed := gi_q gd_wsX7_surveyNow _ [(5, 6), (111, 27)] rfl
set_option maxRecDepth 20000 in
theorem gX7_surveyNow_X7_stageAsFixed : GoodIn wsX7_surveyNow (wsV RX7 342 RX7 yX7_stageAsFixed wsX7_stageAsFixed) := goodIn_app (gi_q gd_wsX7_surveyNow _ [(1, 4)] rfl) ggX7_surveyNow_X7_stageAsFixed
set_option maxRecDepth 20000 in
theorem ggX7_surveyNow_X7_freeFor : GoodIn wsX7_surveyNow wsX7_freeFor := gi_q gd_wsX7_surveyNow _ [(14, 5), (4, 1), (19, 1), (8, 1), (20, 6), (6, 2), (26, 22), (111, 37)] rfl
set_option maxRecDepth 20000 in
theorem gX7_surveyNow_X7_freeFor : GoodIn wsX7_surveyNow (wsV RX7 507 RX7 yX7_freeFor wsX7_freeFor) := goodIn_app (gi_q gd_wsX7_surveyNow _ [(11, 3), (4, 1)] rfl) ggX7_surveyNow_X7_freeFor
set_option maxRecDepth 20000 in
theorem ggX7_surveyNow_X7_survey : GoodIn wsX7_surveyNow wsX7_survey := gi_q gd_wsX7_surveyNow _ [(51, 1), (8, 1), (52, 4), (15, 1), (56, 18), (4, 1), (74, 5), (23, 1), (79, 9), (33, 3), (88, 18), (22, 1), (24, 2), (106, 1), (47, 1), (30, 2), (28, 1), (32, 1), (36, 6), (107, 31), (148, 9), (138, 10)] rfl
set_option maxRecDepth 20000 in
theorem gX7_surveyNow_X7_survey : GoodIn wsX7_surveyNow (wsV RX7 510 RX7 yX7_survey wsX7_survey) := goodIn_app (gi_q gd_wsX7_surveyNow _ [(48, 3), (4, 1)] rfl) ggX7_surveyNow_X7_survey
theorem dX7_surveyNow_0 : decode cX7_surveyNow 0 = .ok (.aload_n 0, 1) := dkT (by decide +kernel)
theorem dX7_surveyNow_1 : decode cX7_surveyNow 1 = .ok (.invokevirtual 342, 3) := dkT (by decide +kernel)
theorem dX7_surveyNow_4 : decode cX7_surveyNow 4 = .ok (.aload_n 0, 1) := dkT (by decide +kernel)
theorem dX7_surveyNow_5 : decode cX7_surveyNow 5 = .ok (.iload_n 1, 1) := dkT (by decide +kernel)
theorem dX7_surveyNow_6 : decode cX7_surveyNow 6 = .ok (.aload_n 0, 1) := dkT (by decide +kernel)
theorem dX7_surveyNow_7 : decode cX7_surveyNow 7 = .ok (.iload_n 1, 1) := dkT (by decide +kernel)
theorem dX7_surveyNow_8 : decode cX7_surveyNow 8 = .ok (.invokevirtual 507, 3) := dkT (by decide +kernel)
theorem dX7_surveyNow_11 : decode cX7_surveyNow 11 = .ok (.iconst 0, 1) := dkT (by decide +kernel)
theorem dX7_surveyNow_12 : decode cX7_surveyNow 12 = .ok (.invokevirtual 510, 3) := dkT (by decide +kernel)
theorem dX7_surveyNow_15 : decode cX7_surveyNow 15 = .ok (.return_, 1) := dkT (by decide +kernel)
theorem gd_wsX7_survey : wsX7_survey.all goodWord = true := by decide +kernel
set_option maxRecDepth 20000 in
theorem ggX7_survey_X2_clear : GoodIn wsX7_survey wsX2_clear := gi_q gd_wsX7_survey _ [(15, 7), (111, 6)] rfl
set_option maxRecDepth 20000 in
theorem gX7_survey_X2_clear : GoodIn wsX7_survey (wsV RX7 519 RX2 yX2_clear wsX2_clear) := goodIn_app (gi_q gd_wsX7_survey _ [(11, 4)] rfl) ggX7_survey_X2_clear
set_option maxRecDepth 20000 in
theorem ggX7_survey_X7_seatAll : GoodIn wsX7_survey wsX7_seatAll := gi_q gd_wsX7_survey _ [(26, 1), (7, 1), (6, 1), (27, 3), (25, 1), (30, 1), (4, 1), (31, 13), (81, 15), (108, 3), (117, 8)] rfl
set_option maxRecDepth 20000 in
theorem gX7_survey_X7_seatAll : GoodIn wsX7_survey (wsV RX7 522 RX7 yX7_seatAll wsX7_seatAll) := goodIn_app (gi_q gd_wsX7_survey _ [(22, 4)] rfl) ggX7_survey_X7_seatAll
set_option maxRecDepth 20000 in
theorem ggX7_survey_J6_bitCount_0f7a4 : GoodIn wsX7_survey wsJ6_bitCount_0f7a4 := gi_q gd_wsX7_survey _ [(37, 4)] rfl
set_option maxRecDepth 20000 in
theorem gX7_survey_J6_bitCount_0f7a4 : GoodIn wsX7_survey (va_wsS RX7 128 yJ6_bitCount_0f7a4 wsJ6_bitCount_0f7a4) := goodIn_app (gi_q gd_wsX7_survey _ [(34, 3)] rfl) ggX7_survey_J6_bitCount_0f7a4
set_option maxRecDepth 20000 in
theorem ggX7_survey_X7_playableFor : GoodIn wsX7_survey wsX7_playableFor := gi_q gd_wsX7_survey _ [(47, 1), (6, 1), (31, 1), (48, 1), (41, 2), (25, 1), (43, 1), (34, 7), (81, 15), (117, 8)] rfl
set_option maxRecDepth 20000 in
theorem gX7_survey_X7_playableFor : GoodIn wsX7_survey (wsV RX7 355 RX7 yX7_playableFor wsX7_playableFor) := goodIn_app (gi_q gd_wsX7_survey _ [(44, 3), (25, 1)] rfl) ggX7_survey_X7_playableFor
set_option maxRecDepth 20000 in
theorem ggX7_survey_X7_hasFeud : GoodIn wsX7_survey wsX7_hasFeud := gi_q gd_wsX7_survey _ [(52, 1), (6, 1), (31, 1), (53, 1), (41, 2), (25, 1), (43, 1), (81, 15), (117, 8)] rfl
set_option maxRecDepth 20000 in
theorem gX7_survey_X7_hasFeud : GoodIn wsX7_survey (wsV RX7 526 RX7 yX7_hasFeud wsX7_hasFeud) := goodIn_app (gi_q gd_wsX7_survey _ [(49, 3), (25, 1)] rfl) ggX7_survey_X7_hasFeud
set_option maxRecDepth 20000 in
theorem ggX7_survey_X7_costOfAll : GoodIn wsX7_survey wsX7_costOfAll := gi_q gd_wsX7_survey _ [(57, 1), (6, 1), (31, 1), (41, 2), (25, 1), (43, 1), (58, 19), (81, 15), (117, 8), (96, 12), (125, 2)] rfl
set_option maxRecDepth 20000 in
theorem gX7_survey_X7_costOfAll : GoodIn wsX7_survey (wsV RX7 529 RX7 yX7_costOfAll wsX7_costOfAll) := goodIn_app (gi_q gd_wsX7_survey _ [(54, 3), (25, 1)] rfl) ggX7_survey_X7_costOfAll
set_option maxRecDepth 20000 in
theorem ggX7_survey_X2_add : GoodIn wsX7_survey wsX2_add := gi_q gd_wsX7_survey _ [(80, 1), (19, 1), (18, 1), (17, 1), (16, 1), (20, 1), (111, 6)] rfl
set_option maxRecDepth 20000 in
theorem gX7_survey_X2_add : GoodIn wsX7_survey (wsV RX7 533 RX2 yX2_add wsX2_add) := goodIn_app (gi_q gd_wsX7_survey _ [(77, 3), (14, 1)] rfl) ggX7_survey_X2_add
def zT_cX7_survey : List (List Nat) := [[42, 180, 0, 29, 27, 50, 58, 4, 42, 180, 0, 23, 25, 4, 180, 0, 193, 50, 180, 1, 74, 54, 5, 3, 54, 6, 3, 54, 7, 42, 180, 0, 70, 182, 2, 7, 42, 42, 180, 0, 23, 25, 4, 180, 0, 193, 50, 182, 2, 10, 4, 54, 8, 21, 8, 4, 42, 180, 0, 44, 120, 162, 0, 94, 21, 8, 28, 2], [21, 8, 28, 2, 130, 126, 154, 0, 79, 42, 180, 0, 63, 21, 8, 51, 153, 0, 69, 21, 8, 184, 0, 128, 21, 5, 160, 0, 59, 4, 54, 6, 25, 4, 180, 0, 208, 42, 21, 8, 182, 1, 99, 2, 130, 126, 154, 0, 39, 4, 54, 7, 42, 21, 8, 182, 2, 14, 154, 0, 27, 42, 180, 0, 70, 21, 8, 42], [70, 21, 8, 42, 21, 8, 25, 4, 182, 2, 17, 21, 8, 29, 126, 184, 0, 128, 182, 2, 21, 132, 8, 1, 167, 255, 157, 42, 180, 0, 70, 180, 0, 225, 158, 0, 14, 42, 180, 0, 70, 3, 181, 1, 94, 167, 0, 56, 28, 184, 0, 128, 21, 5, 162, 0, 14, 42, 180, 0, 70, 4, 181, 1, 94, 167, 0, 36], [94, 167, 0, 36, 21, 6, 154, 0, 14, 42, 180, 0, 70, 5, 181, 1, 94, 167, 0, 20, 42, 180, 0, 70, 21, 7, 153, 0, 7, 6, 167, 0, 4, 7, 181, 1, 94, 177]]
theorem zE_cX7_survey : zTab cX7_survey.data.toList zT_cX7_survey = true := by decide +kernel
theorem dX7_survey_0 : decode cX7_survey 0 = .ok (.aload_n 0, 1) := dz_aload_n_0 (y0 zE_cX7_survey 0 0 (by decide +kernel))
theorem dX7_survey_1 : decode cX7_survey 1 = .ok (.getfield 29, 3) := dz_getfield (yu2 zE_cX7_survey 0 1 (by decide +kernel))
theorem dX7_survey_4 : decode cX7_survey 4 = .ok (.iload_n 1, 1) := dz_iload_n_1 (y0 zE_cX7_survey 0 4 (by decide +kernel))
theorem dX7_survey_5 : decode cX7_survey 5 = .ok (.aaload, 1) := dz_aaload (y0 zE_cX7_survey 0 5 (by decide +kernel))
theorem dX7_survey_6 : decode cX7_survey 6 = .ok (.astore 4, 2) := dz_astore (yu1 zE_cX7_survey 0 6 (by decide +kernel))
theorem dX7_survey_8 : decode cX7_survey 8 = .ok (.aload_n 0, 1) := dz_aload_n_0 (y0 zE_cX7_survey 0 8 (by decide +kernel))
theorem dX7_survey_9 : decode cX7_survey 9 = .ok (.getfield 23, 3) := dz_getfield (yu2 zE_cX7_survey 0 9 (by decide +kernel))
theorem dX7_survey_12 : decode cX7_survey 12 = .ok (.aload 4, 2) := dz_aload (yu1 zE_cX7_survey 0 12 (by decide +kernel))
theorem dX7_survey_14 : decode cX7_survey 14 = .ok (.getfield 193, 3) := dz_getfield (yu2 zE_cX7_survey 0 14 (by decide +kernel))
theorem dX7_survey_17 : decode cX7_survey 17 = .ok (.aaload, 1) := dz_aaload (y0 zE_cX7_survey 0 17 (by decide +kernel))
theorem dX7_survey_18 : decode cX7_survey 18 = .ok (.getfield 330, 3) := dz_getfield (yu2 zE_cX7_survey 0 18 (by decide +kernel))
theorem dX7_survey_21 : decode cX7_survey 21 = .ok (.istore 5, 2) := dz_istore (yu1 zE_cX7_survey 0 21 (by decide +kernel))
theorem dX7_survey_23 : decode cX7_survey 23 = .ok (.iconst 0, 1) := dz_iconst_0 (y0 zE_cX7_survey 0 23 (by decide +kernel))
theorem dX7_survey_24 : decode cX7_survey 24 = .ok (.istore 6, 2) := dz_istore (yu1 zE_cX7_survey 0 24 (by decide +kernel))
theorem dX7_survey_26 : decode cX7_survey 26 = .ok (.iconst 0, 1) := dz_iconst_0 (y0 zE_cX7_survey 0 26 (by decide +kernel))
theorem dX7_survey_27 : decode cX7_survey 27 = .ok (.istore 7, 2) := dz_istore (yu1 zE_cX7_survey 0 27 (by decide +kernel))
theorem dX7_survey_29 : decode cX7_survey 29 = .ok (.aload_n 0, 1) := dz_aload_n_0 (y0 zE_cX7_survey 0 29 (by decide +kernel))
theorem dX7_survey_30 : decode cX7_survey 30 = .ok (.getfield 70, 3) := dz_getfield (yu2 zE_cX7_survey 0 30 (by decide +kernel))
theorem dX7_survey_33 : decode cX7_survey 33 = .ok (.invokevirtual 519, 3) := dz_invokevirtual (yu2 zE_cX7_survey 0 33 (by decide +kernel))
theorem dX7_survey_36 : decode cX7_survey 36 = .ok (.aload_n 0, 1) := dz_aload_n_0 (y0 zE_cX7_survey 0 36 (by decide +kernel))
theorem dX7_survey_37 : decode cX7_survey 37 = .ok (.aload_n 0, 1) := dz_aload_n_0 (y0 zE_cX7_survey 0 37 (by decide +kernel))
theorem dX7_survey_38 : decode cX7_survey 38 = .ok (.getfield 23, 3) := dz_getfield (yu2 zE_cX7_survey 0 38 (by decide +kernel))
theorem dX7_survey_41 : decode cX7_survey 41 = .ok (.aload 4, 2) := dz_aload (yu1 zE_cX7_survey 0 41 (by decide +kernel))
theorem dX7_survey_43 : decode cX7_survey 43 = .ok (.getfield 193, 3) := dz_getfield (yu2 zE_cX7_survey 0 43 (by decide +kernel))
theorem dX7_survey_46 : decode cX7_survey 46 = .ok (.aaload, 1) := dz_aaload (y0 zE_cX7_survey 0 46 (by decide +kernel))
theorem dX7_survey_47 : decode cX7_survey 47 = .ok (.invokevirtual 522, 3) := dz_invokevirtual (yu2 zE_cX7_survey 0 47 (by decide +kernel))
theorem dX7_survey_50 : decode cX7_survey 50 = .ok (.iconst 1, 1) := dz_iconst_1 (y0 zE_cX7_survey 0 50 (by decide +kernel))
theorem dX7_survey_51 : decode cX7_survey 51 = .ok (.istore 8, 2) := dz_istore (yu1 zE_cX7_survey 0 51 (by decide +kernel))
theorem dX7_survey_53 : decode cX7_survey 53 = .ok (.iload 8, 2) := dz_iload (yu1 zE_cX7_survey 0 53 (by decide +kernel))
theorem dX7_survey_55 : decode cX7_survey 55 = .ok (.iconst 1, 1) := dz_iconst_1 (y0 zE_cX7_survey 0 55 (by decide +kernel))
theorem dX7_survey_56 : decode cX7_survey 56 = .ok (.aload_n 0, 1) := dz_aload_n_0 (y0 zE_cX7_survey 0 56 (by decide +kernel))
theorem dX7_survey_57 : decode cX7_survey 57 = .ok (.getfield 44, 3) := dz_getfield (yu2 zE_cX7_survey 0 57 (by decide +kernel))
theorem dX7_survey_60 : decode cX7_survey 60 = .ok (.ishl, 1) := dz_ishl (y0 zE_cX7_survey 0 60 (by decide +kernel))
theorem dX7_survey_61 : decode cX7_survey 61 = .ok (.if_icmp .ge 94, 3) := dz_if_icmp_ge (ys2 zE_cX7_survey 0 61 (by decide +kernel))
theorem dX7_survey_64 : decode cX7_survey 64 = .ok (.iload 8, 2) := dz_iload (yu1 zE_cX7_survey 1 0 (by decide +kernel))
theorem dX7_survey_66 : decode cX7_survey 66 = .ok (.iload_n 2, 1) := dz_iload_n_2 (y0 zE_cX7_survey 1 2 (by decide +kernel))
theorem dX7_survey_67 : decode cX7_survey 67 = .ok (.iconst (-1), 1) := dz_iconst_m1 (y0 zE_cX7_survey 1 3 (by decide +kernel))
theorem dX7_survey_68 : decode cX7_survey 68 = .ok (.ixor, 1) := dz_ixor (y0 zE_cX7_survey 1 4 (by decide +kernel))
theorem dX7_survey_69 : decode cX7_survey 69 = .ok (.iand, 1) := dz_iand (y0 zE_cX7_survey 1 5 (by decide +kernel))
theorem dX7_survey_70 : decode cX7_survey 70 = .ok (.ifCond .ne 79, 3) := dz_ifCond_ne (ys2 zE_cX7_survey 1 6 (by decide +kernel))
theorem dX7_survey_73 : decode cX7_survey 73 = .ok (.aload_n 0, 1) := dz_aload_n_0 (y0 zE_cX7_survey 1 9 (by decide +kernel))
theorem dX7_survey_74 : decode cX7_survey 74 = .ok (.getfield 63, 3) := dz_getfield (yu2 zE_cX7_survey 1 10 (by decide +kernel))
theorem dX7_survey_77 : decode cX7_survey 77 = .ok (.iload 8, 2) := dz_iload (yu1 zE_cX7_survey 1 13 (by decide +kernel))
theorem dX7_survey_79 : decode cX7_survey 79 = .ok (.baload, 1) := dz_baload (y0 zE_cX7_survey 1 15 (by decide +kernel))
theorem dX7_survey_80 : decode cX7_survey 80 = .ok (.ifCond .eq 69, 3) := dz_ifCond_eq (ys2 zE_cX7_survey 1 16 (by decide +kernel))
theorem dX7_survey_83 : decode cX7_survey 83 = .ok (.iload 8, 2) := dz_iload (yu1 zE_cX7_survey 1 19 (by decide +kernel))
theorem dX7_survey_85 : decode cX7_survey 85 = .ok (.invokestatic 128, 3) := dz_invokestatic (yu2 zE_cX7_survey 1 21 (by decide +kernel))
theorem dX7_survey_88 : decode cX7_survey 88 = .ok (.iload 5, 2) := dz_iload (yu1 zE_cX7_survey 1 24 (by decide +kernel))
theorem dX7_survey_90 : decode cX7_survey 90 = .ok (.if_icmp .ne 59, 3) := dz_if_icmp_ne (ys2 zE_cX7_survey 1 26 (by decide +kernel))
theorem dX7_survey_93 : decode cX7_survey 93 = .ok (.iconst 1, 1) := dz_iconst_1 (y0 zE_cX7_survey 1 29 (by decide +kernel))
theorem dX7_survey_94 : decode cX7_survey 94 = .ok (.istore 6, 2) := dz_istore (yu1 zE_cX7_survey 1 30 (by decide +kernel))
theorem dX7_survey_96 : decode cX7_survey 96 = .ok (.aload 4, 2) := dz_aload (yu1 zE_cX7_survey 1 32 (by decide +kernel))
theorem dX7_survey_98 : decode cX7_survey 98 = .ok (.getfield 208, 3) := dz_getfield (yu2 zE_cX7_survey 1 34 (by decide +kernel))
theorem dX7_survey_101 : decode cX7_survey 101 = .ok (.aload_n 0, 1) := dz_aload_n_0 (y0 zE_cX7_survey 1 37 (by decide +kernel))
theorem dX7_survey_102 : decode cX7_survey 102 = .ok (.iload 8, 2) := dz_iload (yu1 zE_cX7_survey 1 38 (by decide +kernel))
theorem dX7_survey_104 : decode cX7_survey 104 = .ok (.invokevirtual 355, 3) := dz_invokevirtual (yu2 zE_cX7_survey 1 40 (by decide +kernel))
theorem dX7_survey_107 : decode cX7_survey 107 = .ok (.iconst (-1), 1) := dz_iconst_m1 (y0 zE_cX7_survey 1 43 (by decide +kernel))
theorem dX7_survey_108 : decode cX7_survey 108 = .ok (.ixor, 1) := dz_ixor (y0 zE_cX7_survey 1 44 (by decide +kernel))
theorem dX7_survey_109 : decode cX7_survey 109 = .ok (.iand, 1) := dz_iand (y0 zE_cX7_survey 1 45 (by decide +kernel))
theorem dX7_survey_110 : decode cX7_survey 110 = .ok (.ifCond .ne 39, 3) := dz_ifCond_ne (ys2 zE_cX7_survey 1 46 (by decide +kernel))
theorem dX7_survey_113 : decode cX7_survey 113 = .ok (.iconst 1, 1) := dz_iconst_1 (y0 zE_cX7_survey 1 49 (by decide +kernel))
theorem dX7_survey_114 : decode cX7_survey 114 = .ok (.istore 7, 2) := dz_istore (yu1 zE_cX7_survey 1 50 (by decide +kernel))
theorem dX7_survey_116 : decode cX7_survey 116 = .ok (.aload_n 0, 1) := dz_aload_n_0 (y0 zE_cX7_survey 1 52 (by decide +kernel))
theorem dX7_survey_117 : decode cX7_survey 117 = .ok (.iload 8, 2) := dz_iload (yu1 zE_cX7_survey 1 53 (by decide +kernel))
theorem dX7_survey_119 : decode cX7_survey 119 = .ok (.invokevirtual 526, 3) := dz_invokevirtual (yu2 zE_cX7_survey 1 55 (by decide +kernel))
theorem dX7_survey_122 : decode cX7_survey 122 = .ok (.ifCond .ne 27, 3) := dz_ifCond_ne (ys2 zE_cX7_survey 1 58 (by decide +kernel))
theorem dX7_survey_125 : decode cX7_survey 125 = .ok (.aload_n 0, 1) := dz_aload_n_0 (y0 zE_cX7_survey 1 61 (by decide +kernel))
theorem dX7_survey_126 : decode cX7_survey 126 = .ok (.getfield 70, 3) := dz_getfield (yu2 zE_cX7_survey 1 62 (by decide +kernel))
theorem dX7_survey_129 : decode cX7_survey 129 = .ok (.iload 8, 2) := dz_iload (yu1 zE_cX7_survey 2 1 (by decide +kernel))
theorem dX7_survey_131 : decode cX7_survey 131 = .ok (.aload_n 0, 1) := dz_aload_n_0 (y0 zE_cX7_survey 2 3 (by decide +kernel))
theorem dX7_survey_132 : decode cX7_survey 132 = .ok (.iload 8, 2) := dz_iload (yu1 zE_cX7_survey 2 4 (by decide +kernel))
theorem dX7_survey_134 : decode cX7_survey 134 = .ok (.aload 4, 2) := dz_aload (yu1 zE_cX7_survey 2 6 (by decide +kernel))
theorem dX7_survey_136 : decode cX7_survey 136 = .ok (.invokevirtual 529, 3) := dz_invokevirtual (yu2 zE_cX7_survey 2 8 (by decide +kernel))
theorem dX7_survey_139 : decode cX7_survey 139 = .ok (.iload 8, 2) := dz_iload (yu1 zE_cX7_survey 2 11 (by decide +kernel))
theorem dX7_survey_141 : decode cX7_survey 141 = .ok (.iload_n 3, 1) := dz_iload_n_3 (y0 zE_cX7_survey 2 13 (by decide +kernel))
theorem dX7_survey_142 : decode cX7_survey 142 = .ok (.iand, 1) := dz_iand (y0 zE_cX7_survey 2 14 (by decide +kernel))
theorem dX7_survey_143 : decode cX7_survey 143 = .ok (.invokestatic 128, 3) := dz_invokestatic (yu2 zE_cX7_survey 2 15 (by decide +kernel))
theorem dX7_survey_146 : decode cX7_survey 146 = .ok (.invokevirtual 533, 3) := dz_invokevirtual (yu2 zE_cX7_survey 2 18 (by decide +kernel))
theorem dX7_survey_149 : decode cX7_survey 149 = .ok (.iinc 8 1, 3) := dz_iinc (yii zE_cX7_survey 2 21 (by decide +kernel))
theorem dX7_survey_152 : decode cX7_survey 152 = .ok (.goto (-99), 3) := dz_goto (ys2 zE_cX7_survey 2 24 (by decide +kernel))
theorem dX7_survey_155 : decode cX7_survey 155 = .ok (.aload_n 0, 1) := dz_aload_n_0 (y0 zE_cX7_survey 2 27 (by decide +kernel))
theorem dX7_survey_156 : decode cX7_survey 156 = .ok (.getfield 70, 3) := dz_getfield (yu2 zE_cX7_survey 2 28 (by decide +kernel))
theorem dX7_survey_159 : decode cX7_survey 159 = .ok (.getfield 225, 3) := dz_getfield (yu2 zE_cX7_survey 2 31 (by decide +kernel))
theorem dX7_survey_162 : decode cX7_survey 162 = .ok (.ifCond .le 14, 3) := dz_ifCond_le (ys2 zE_cX7_survey 2 34 (by decide +kernel))
theorem dX7_survey_165 : decode cX7_survey 165 = .ok (.aload_n 0, 1) := dz_aload_n_0 (y0 zE_cX7_survey 2 37 (by decide +kernel))
theorem dX7_survey_166 : decode cX7_survey 166 = .ok (.getfield 70, 3) := dz_getfield (yu2 zE_cX7_survey 2 38 (by decide +kernel))
theorem dX7_survey_169 : decode cX7_survey 169 = .ok (.iconst 0, 1) := dz_iconst_0 (y0 zE_cX7_survey 2 41 (by decide +kernel))
theorem dX7_survey_170 : decode cX7_survey 170 = .ok (.putfield 350, 3) := dz_putfield (yu2 zE_cX7_survey 2 42 (by decide +kernel))
theorem dX7_survey_173 : decode cX7_survey 173 = .ok (.goto 56, 3) := dz_goto (ys2 zE_cX7_survey 2 45 (by decide +kernel))
theorem dX7_survey_176 : decode cX7_survey 176 = .ok (.iload_n 2, 1) := dz_iload_n_2 (y0 zE_cX7_survey 2 48 (by decide +kernel))
theorem dX7_survey_177 : decode cX7_survey 177 = .ok (.invokestatic 128, 3) := dz_invokestatic (yu2 zE_cX7_survey 2 49 (by decide +kernel))
theorem dX7_survey_180 : decode cX7_survey 180 = .ok (.iload 5, 2) := dz_iload (yu1 zE_cX7_survey 2 52 (by decide +kernel))
theorem dX7_survey_182 : decode cX7_survey 182 = .ok (.if_icmp .ge 14, 3) := dz_if_icmp_ge (ys2 zE_cX7_survey 2 54 (by decide +kernel))
theorem dX7_survey_185 : decode cX7_survey 185 = .ok (.aload_n 0, 1) := dz_aload_n_0 (y0 zE_cX7_survey 2 57 (by decide +kernel))
theorem dX7_survey_186 : decode cX7_survey 186 = .ok (.getfield 70, 3) := dz_getfield (yu2 zE_cX7_survey 2 58 (by decide +kernel))
theorem dX7_survey_189 : decode cX7_survey 189 = .ok (.iconst 1, 1) := dz_iconst_1 (y0 zE_cX7_survey 2 61 (by decide +kernel))
theorem dX7_survey_190 : decode cX7_survey 190 = .ok (.putfield 350, 3) := dz_putfield (yu2 zE_cX7_survey 2 62 (by decide +kernel))
theorem dX7_survey_193 : decode cX7_survey 193 = .ok (.goto 36, 3) := dz_goto (ys2 zE_cX7_survey 3 1 (by decide +kernel))
theorem dX7_survey_196 : decode cX7_survey 196 = .ok (.iload 6, 2) := dz_iload (yu1 zE_cX7_survey 3 4 (by decide +kernel))
theorem dX7_survey_198 : decode cX7_survey 198 = .ok (.ifCond .ne 14, 3) := dz_ifCond_ne (ys2 zE_cX7_survey 3 6 (by decide +kernel))
theorem dX7_survey_201 : decode cX7_survey 201 = .ok (.aload_n 0, 1) := dz_aload_n_0 (y0 zE_cX7_survey 3 9 (by decide +kernel))
theorem dX7_survey_202 : decode cX7_survey 202 = .ok (.getfield 70, 3) := dz_getfield (yu2 zE_cX7_survey 3 10 (by decide +kernel))
theorem dX7_survey_205 : decode cX7_survey 205 = .ok (.iconst 2, 1) := dz_iconst_2 (y0 zE_cX7_survey 3 13 (by decide +kernel))
theorem dX7_survey_206 : decode cX7_survey 206 = .ok (.putfield 350, 3) := dz_putfield (yu2 zE_cX7_survey 3 14 (by decide +kernel))
theorem dX7_survey_209 : decode cX7_survey 209 = .ok (.goto 20, 3) := dz_goto (ys2 zE_cX7_survey 3 17 (by decide +kernel))
theorem dX7_survey_212 : decode cX7_survey 212 = .ok (.aload_n 0, 1) := dz_aload_n_0 (y0 zE_cX7_survey 3 20 (by decide +kernel))
theorem dX7_survey_213 : decode cX7_survey 213 = .ok (.getfield 70, 3) := dz_getfield (yu2 zE_cX7_survey 3 21 (by decide +kernel))
theorem dX7_survey_216 : decode cX7_survey 216 = .ok (.iload 7, 2) := dz_iload (yu1 zE_cX7_survey 3 24 (by decide +kernel))
theorem dX7_survey_218 : decode cX7_survey 218 = .ok (.ifCond .eq 7, 3) := dz_ifCond_eq (ys2 zE_cX7_survey 3 26 (by decide +kernel))
theorem dX7_survey_221 : decode cX7_survey 221 = .ok (.iconst 3, 1) := dz_iconst_3 (y0 zE_cX7_survey 3 29 (by decide +kernel))
theorem dX7_survey_222 : decode cX7_survey 222 = .ok (.goto 4, 3) := dz_goto (ys2 zE_cX7_survey 3 30 (by decide +kernel))
theorem dX7_survey_225 : decode cX7_survey 225 = .ok (.iconst 4, 1) := dz_iconst_4 (y0 zE_cX7_survey 3 33 (by decide +kernel))
theorem dX7_survey_226 : decode cX7_survey 226 = .ok (.putfield 350, 3) := dz_putfield (yu2 zE_cX7_survey 3 34 (by decide +kernel))
theorem dX7_survey_229 : decode cX7_survey 229 = .ok (.return_, 1) := dz_return (y0 zE_cX7_survey 3 37 (by decide +kernel))
theorem gd_wsX7_seatAll : wsX7_seatAll.all goodWord = true := by decide +kernel
set_option maxRecDepth 20000 in
theorem ggX7_seatAll_X7_canBeSeated : GoodIn wsX7_seatAll wsX7_canBeSeated := gi_q gd_wsX7_seatAll _ [(7, 2), (2, 1), (9, 3), (1, 1), (12, 9), (6, 1), (21, 1), (37, 3), (22, 15), (40, 8)] rfl
set_option maxRecDepth 20000 in
theorem gX7_seatAll_X7_canBeSeated : GoodIn wsX7_seatAll (wsV RX7 536 RX7 yX7_canBeSeated wsX7_canBeSeated) := goodIn_app (gi_q gd_wsX7_seatAll _ [(3, 4)] rfl) ggX7_seatAll_X7_canBeSeated
def zT_cX7_seatAll : List (List Nat) := [[42, 180, 0, 63, 3, 4, 84, 4, 61, 28, 4, 42, 180, 0, 44, 120, 162, 0, 21, 42, 180, 0, 63, 28, 42, 28, 43, 182, 2, 24, 84, 132, 2, 1, 167, 255, 231, 177]]
theorem zE_cX7_seatAll : zTab cX7_seatAll.data.toList zT_cX7_seatAll = true := by decide +kernel
theorem dX7_seatAll_0 : decode cX7_seatAll 0 = .ok (.aload_n 0, 1) := dz_aload_n_0 (y0 zE_cX7_seatAll 0 0 (by decide +kernel))
theorem dX7_seatAll_1 : decode cX7_seatAll 1 = .ok (.getfield 63, 3) := dz_getfield (yu2 zE_cX7_seatAll 0 1 (by decide +kernel))
theorem dX7_seatAll_4 : decode cX7_seatAll 4 = .ok (.iconst 0, 1) := dz_iconst_0 (y0 zE_cX7_seatAll 0 4 (by decide +kernel))
theorem dX7_seatAll_5 : decode cX7_seatAll 5 = .ok (.iconst 1, 1) := dz_iconst_1 (y0 zE_cX7_seatAll 0 5 (by decide +kernel))
theorem dX7_seatAll_6 : decode cX7_seatAll 6 = .ok (.bastore, 1) := dz_bastore (y0 zE_cX7_seatAll 0 6 (by decide +kernel))
theorem dX7_seatAll_7 : decode cX7_seatAll 7 = .ok (.iconst 1, 1) := dz_iconst_1 (y0 zE_cX7_seatAll 0 7 (by decide +kernel))
theorem dX7_seatAll_8 : decode cX7_seatAll 8 = .ok (.istore_n 2, 1) := dz_istore_n_2 (y0 zE_cX7_seatAll 0 8 (by decide +kernel))
theorem dX7_seatAll_9 : decode cX7_seatAll 9 = .ok (.iload_n 2, 1) := dz_iload_n_2 (y0 zE_cX7_seatAll 0 9 (by decide +kernel))
theorem dX7_seatAll_10 : decode cX7_seatAll 10 = .ok (.iconst 1, 1) := dz_iconst_1 (y0 zE_cX7_seatAll 0 10 (by decide +kernel))
theorem dX7_seatAll_11 : decode cX7_seatAll 11 = .ok (.aload_n 0, 1) := dz_aload_n_0 (y0 zE_cX7_seatAll 0 11 (by decide +kernel))
theorem dX7_seatAll_12 : decode cX7_seatAll 12 = .ok (.getfield 44, 3) := dz_getfield (yu2 zE_cX7_seatAll 0 12 (by decide +kernel))
theorem dX7_seatAll_15 : decode cX7_seatAll 15 = .ok (.ishl, 1) := dz_ishl (y0 zE_cX7_seatAll 0 15 (by decide +kernel))
theorem dX7_seatAll_16 : decode cX7_seatAll 16 = .ok (.if_icmp .ge 21, 3) := dz_if_icmp_ge (ys2 zE_cX7_seatAll 0 16 (by decide +kernel))
theorem dX7_seatAll_19 : decode cX7_seatAll 19 = .ok (.aload_n 0, 1) := dz_aload_n_0 (y0 zE_cX7_seatAll 0 19 (by decide +kernel))
theorem dX7_seatAll_20 : decode cX7_seatAll 20 = .ok (.getfield 63, 3) := dz_getfield (yu2 zE_cX7_seatAll 0 20 (by decide +kernel))
theorem dX7_seatAll_23 : decode cX7_seatAll 23 = .ok (.iload_n 2, 1) := dz_iload_n_2 (y0 zE_cX7_seatAll 0 23 (by decide +kernel))
theorem dX7_seatAll_24 : decode cX7_seatAll 24 = .ok (.aload_n 0, 1) := dz_aload_n_0 (y0 zE_cX7_seatAll 0 24 (by decide +kernel))
theorem dX7_seatAll_25 : decode cX7_seatAll 25 = .ok (.iload_n 2, 1) := dz_iload_n_2 (y0 zE_cX7_seatAll 0 25 (by decide +kernel))
theorem dX7_seatAll_26 : decode cX7_seatAll 26 = .ok (.aload_n 1, 1) := dz_aload_n_1 (y0 zE_cX7_seatAll 0 26 (by decide +kernel))
theorem dX7_seatAll_27 : decode cX7_seatAll 27 = .ok (.invokevirtual 536, 3) := dz_invokevirtual (yu2 zE_cX7_seatAll 0 27 (by decide +kernel))
theorem dX7_seatAll_30 : decode cX7_seatAll 30 = .ok (.bastore, 1) := dz_bastore (y0 zE_cX7_seatAll 0 30 (by decide +kernel))
theorem dX7_seatAll_31 : decode cX7_seatAll 31 = .ok (.iinc 2 1, 3) := dz_iinc (yii zE_cX7_seatAll 0 31 (by decide +kernel))
theorem dX7_seatAll_34 : decode cX7_seatAll 34 = .ok (.goto (-25), 3) := dz_goto (ys2 zE_cX7_seatAll 0 34 (by decide +kernel))
theorem dX7_seatAll_37 : decode cX7_seatAll 37 = .ok (.return_, 1) := dz_return (y0 zE_cX7_seatAll 0 37 (by decide +kernel))
theorem gd_wsX7_canBeSeated : wsX7_canBeSeated.all goodWord = true := by decide +kernel
set_option maxRecDepth 20000 in
theorem ggX7_canBeSeated_J6_bitCount_0f7a4 : GoodIn wsX7_canBeSeated wsJ6_bitCount_0f7a4 := gi_q gd_wsX7_canBeSeated _ [(10, 4)] rfl
set_option maxRecDepth 20000 in
theorem gX7_canBeSeated_J6_bitCount_0f7a4 : GoodIn wsX7_canBeSeated (va_wsS RX7 128 yJ6_bitCount_0f7a4 wsJ6_bitCount_0f7a4) := goodIn_app (gi_q gd_wsX7_canBeSeated _ [(7, 3)] rfl) ggX7_canBeSeated_J6_bitCount_0f7a4
set_option maxRecDepth 20000 in
theorem ggX7_canBeSeated_X7_has : GoodIn wsX7_canBeSeated wsX7_has := gi_q gd_wsX7_canBeSeated _ [(17, 1)] rfl
set_option maxRecDepth 20000 in
theorem gX7_canBeSeated_X7_has : GoodIn wsX7_canBeSeated (va_wsS RX7 153 yX7_has wsX7_has) := goodIn_app (gi_q gd_wsX7_canBeSeated _ [(14, 3)] rfl) ggX7_canBeSeated_X7_has
def zT_cX7_canBeSeated : List (List Nat) := [[27, 184, 0, 128, 4, 100, 62, 29, 155, 0, 11, 29, 44, 180, 1, 74, 161, 0, 5, 3, 172, 3, 54, 4, 21, 4, 42, 180, 0, 44, 162, 0, 58, 27, 21, 4, 184, 0, 153, 153, 0, 43, 42, 180, 0, 11, 21, 4, 50, 180, 0, 111, 44, 180, 2, 28, 29, 46, 184, 0, 153, 153, 0, 21, 42, 180, 0, 63], [42, 180, 0, 63, 27, 4, 21, 4, 120, 2, 130, 126, 51, 153, 0, 5, 4, 172, 132, 4, 1, 167, 255, 195, 3, 172]]
theorem zE_cX7_canBeSeated : zTab cX7_canBeSeated.data.toList zT_cX7_canBeSeated = true := by decide +kernel
theorem dX7_canBeSeated_0 : decode cX7_canBeSeated 0 = .ok (.iload_n 1, 1) := dz_iload_n_1 (y0 zE_cX7_canBeSeated 0 0 (by decide +kernel))
theorem dX7_canBeSeated_1 : decode cX7_canBeSeated 1 = .ok (.invokestatic 128, 3) := dz_invokestatic (yu2 zE_cX7_canBeSeated 0 1 (by decide +kernel))
theorem dX7_canBeSeated_4 : decode cX7_canBeSeated 4 = .ok (.iconst 1, 1) := dz_iconst_1 (y0 zE_cX7_canBeSeated 0 4 (by decide +kernel))
theorem dX7_canBeSeated_5 : decode cX7_canBeSeated 5 = .ok (.isub, 1) := dz_isub (y0 zE_cX7_canBeSeated 0 5 (by decide +kernel))
theorem dX7_canBeSeated_6 : decode cX7_canBeSeated 6 = .ok (.istore_n 3, 1) := dz_istore_n_3 (y0 zE_cX7_canBeSeated 0 6 (by decide +kernel))
theorem dX7_canBeSeated_7 : decode cX7_canBeSeated 7 = .ok (.iload_n 3, 1) := dz_iload_n_3 (y0 zE_cX7_canBeSeated 0 7 (by decide +kernel))
theorem dX7_canBeSeated_8 : decode cX7_canBeSeated 8 = .ok (.ifCond .lt 11, 3) := dz_ifCond_lt (ys2 zE_cX7_canBeSeated 0 8 (by decide +kernel))
theorem dX7_canBeSeated_11 : decode cX7_canBeSeated 11 = .ok (.iload_n 3, 1) := dz_iload_n_3 (y0 zE_cX7_canBeSeated 0 11 (by decide +kernel))
theorem dX7_canBeSeated_12 : decode cX7_canBeSeated 12 = .ok (.aload_n 2, 1) := dz_aload_n_2 (y0 zE_cX7_canBeSeated 0 12 (by decide +kernel))
theorem dX7_canBeSeated_13 : decode cX7_canBeSeated 13 = .ok (.getfield 330, 3) := dz_getfield (yu2 zE_cX7_canBeSeated 0 13 (by decide +kernel))
theorem dX7_canBeSeated_16 : decode cX7_canBeSeated 16 = .ok (.if_icmp .lt 5, 3) := dz_if_icmp_lt (ys2 zE_cX7_canBeSeated 0 16 (by decide +kernel))
theorem dX7_canBeSeated_19 : decode cX7_canBeSeated 19 = .ok (.iconst 0, 1) := dz_iconst_0 (y0 zE_cX7_canBeSeated 0 19 (by decide +kernel))
theorem dX7_canBeSeated_20 : decode cX7_canBeSeated 20 = .ok (.ireturn, 1) := dz_ireturn (y0 zE_cX7_canBeSeated 0 20 (by decide +kernel))
theorem dX7_canBeSeated_21 : decode cX7_canBeSeated 21 = .ok (.iconst 0, 1) := dz_iconst_0 (y0 zE_cX7_canBeSeated 0 21 (by decide +kernel))
theorem dX7_canBeSeated_22 : decode cX7_canBeSeated 22 = .ok (.istore 4, 2) := dz_istore (yu1 zE_cX7_canBeSeated 0 22 (by decide +kernel))
theorem dX7_canBeSeated_24 : decode cX7_canBeSeated 24 = .ok (.iload 4, 2) := dz_iload (yu1 zE_cX7_canBeSeated 0 24 (by decide +kernel))
theorem dX7_canBeSeated_26 : decode cX7_canBeSeated 26 = .ok (.aload_n 0, 1) := dz_aload_n_0 (y0 zE_cX7_canBeSeated 0 26 (by decide +kernel))
theorem dX7_canBeSeated_27 : decode cX7_canBeSeated 27 = .ok (.getfield 44, 3) := dz_getfield (yu2 zE_cX7_canBeSeated 0 27 (by decide +kernel))
theorem dX7_canBeSeated_30 : decode cX7_canBeSeated 30 = .ok (.if_icmp .ge 58, 3) := dz_if_icmp_ge (ys2 zE_cX7_canBeSeated 0 30 (by decide +kernel))
theorem dX7_canBeSeated_33 : decode cX7_canBeSeated 33 = .ok (.iload_n 1, 1) := dz_iload_n_1 (y0 zE_cX7_canBeSeated 0 33 (by decide +kernel))
theorem dX7_canBeSeated_34 : decode cX7_canBeSeated 34 = .ok (.iload 4, 2) := dz_iload (yu1 zE_cX7_canBeSeated 0 34 (by decide +kernel))
theorem dX7_canBeSeated_36 : decode cX7_canBeSeated 36 = .ok (.invokestatic 153, 3) := dz_invokestatic (yu2 zE_cX7_canBeSeated 0 36 (by decide +kernel))
theorem dX7_canBeSeated_39 : decode cX7_canBeSeated 39 = .ok (.ifCond .eq 43, 3) := dz_ifCond_eq (ys2 zE_cX7_canBeSeated 0 39 (by decide +kernel))
theorem dX7_canBeSeated_42 : decode cX7_canBeSeated 42 = .ok (.aload_n 0, 1) := dz_aload_n_0 (y0 zE_cX7_canBeSeated 0 42 (by decide +kernel))
theorem dX7_canBeSeated_43 : decode cX7_canBeSeated 43 = .ok (.getfield 11, 3) := dz_getfield (yu2 zE_cX7_canBeSeated 0 43 (by decide +kernel))
theorem dX7_canBeSeated_46 : decode cX7_canBeSeated 46 = .ok (.iload 4, 2) := dz_iload (yu1 zE_cX7_canBeSeated 0 46 (by decide +kernel))
theorem dX7_canBeSeated_48 : decode cX7_canBeSeated 48 = .ok (.aaload, 1) := dz_aaload (y0 zE_cX7_canBeSeated 0 48 (by decide +kernel))
theorem dX7_canBeSeated_49 : decode cX7_canBeSeated 49 = .ok (.getfield 111, 3) := dz_getfield (yu2 zE_cX7_canBeSeated 0 49 (by decide +kernel))
theorem dX7_canBeSeated_52 : decode cX7_canBeSeated 52 = .ok (.aload_n 2, 1) := dz_aload_n_2 (y0 zE_cX7_canBeSeated 0 52 (by decide +kernel))
theorem dX7_canBeSeated_53 : decode cX7_canBeSeated 53 = .ok (.getfield 540, 3) := dz_getfield (yu2 zE_cX7_canBeSeated 0 53 (by decide +kernel))
theorem dX7_canBeSeated_56 : decode cX7_canBeSeated 56 = .ok (.iload_n 3, 1) := dz_iload_n_3 (y0 zE_cX7_canBeSeated 0 56 (by decide +kernel))
theorem dX7_canBeSeated_57 : decode cX7_canBeSeated 57 = .ok (.iaload, 1) := dz_iaload (y0 zE_cX7_canBeSeated 0 57 (by decide +kernel))
theorem dX7_canBeSeated_58 : decode cX7_canBeSeated 58 = .ok (.invokestatic 153, 3) := dz_invokestatic (yu2 zE_cX7_canBeSeated 0 58 (by decide +kernel))
theorem dX7_canBeSeated_61 : decode cX7_canBeSeated 61 = .ok (.ifCond .eq 21, 3) := dz_ifCond_eq (ys2 zE_cX7_canBeSeated 0 61 (by decide +kernel))
theorem dX7_canBeSeated_64 : decode cX7_canBeSeated 64 = .ok (.aload_n 0, 1) := dz_aload_n_0 (y0 zE_cX7_canBeSeated 1 0 (by decide +kernel))
theorem dX7_canBeSeated_65 : decode cX7_canBeSeated 65 = .ok (.getfield 63, 3) := dz_getfield (yu2 zE_cX7_canBeSeated 1 1 (by decide +kernel))
theorem dX7_canBeSeated_68 : decode cX7_canBeSeated 68 = .ok (.iload_n 1, 1) := dz_iload_n_1 (y0 zE_cX7_canBeSeated 1 4 (by decide +kernel))
theorem dX7_canBeSeated_69 : decode cX7_canBeSeated 69 = .ok (.iconst 1, 1) := dz_iconst_1 (y0 zE_cX7_canBeSeated 1 5 (by decide +kernel))
theorem dX7_canBeSeated_70 : decode cX7_canBeSeated 70 = .ok (.iload 4, 2) := dz_iload (yu1 zE_cX7_canBeSeated 1 6 (by decide +kernel))
theorem dX7_canBeSeated_72 : decode cX7_canBeSeated 72 = .ok (.ishl, 1) := dz_ishl (y0 zE_cX7_canBeSeated 1 8 (by decide +kernel))
theorem dX7_canBeSeated_73 : decode cX7_canBeSeated 73 = .ok (.iconst (-1), 1) := dz_iconst_m1 (y0 zE_cX7_canBeSeated 1 9 (by decide +kernel))
theorem dX7_canBeSeated_74 : decode cX7_canBeSeated 74 = .ok (.ixor, 1) := dz_ixor (y0 zE_cX7_canBeSeated 1 10 (by decide +kernel))
theorem dX7_canBeSeated_75 : decode cX7_canBeSeated 75 = .ok (.iand, 1) := dz_iand (y0 zE_cX7_canBeSeated 1 11 (by decide +kernel))
theorem dX7_canBeSeated_76 : decode cX7_canBeSeated 76 = .ok (.baload, 1) := dz_baload (y0 zE_cX7_canBeSeated 1 12 (by decide +kernel))
theorem dX7_canBeSeated_77 : decode cX7_canBeSeated 77 = .ok (.ifCond .eq 5, 3) := dz_ifCond_eq (ys2 zE_cX7_canBeSeated 1 13 (by decide +kernel))
theorem dX7_canBeSeated_80 : decode cX7_canBeSeated 80 = .ok (.iconst 1, 1) := dz_iconst_1 (y0 zE_cX7_canBeSeated 1 16 (by decide +kernel))
theorem dX7_canBeSeated_81 : decode cX7_canBeSeated 81 = .ok (.ireturn, 1) := dz_ireturn (y0 zE_cX7_canBeSeated 1 17 (by decide +kernel))
theorem dX7_canBeSeated_82 : decode cX7_canBeSeated 82 = .ok (.iinc 4 1, 3) := dz_iinc (yii zE_cX7_canBeSeated 1 18 (by decide +kernel))
theorem dX7_canBeSeated_85 : decode cX7_canBeSeated 85 = .ok (.goto (-61), 3) := dz_goto (ys2 zE_cX7_canBeSeated 1 21 (by decide +kernel))
theorem dX7_canBeSeated_88 : decode cX7_canBeSeated 88 = .ok (.iconst 0, 1) := dz_iconst_0 (y0 zE_cX7_canBeSeated 1 24 (by decide +kernel))
theorem dX7_canBeSeated_89 : decode cX7_canBeSeated 89 = .ok (.ireturn, 1) := dz_ireturn (y0 zE_cX7_canBeSeated 1 25 (by decide +kernel))
theorem gd_wsX7_hasFeud : wsX7_hasFeud.all goodWord = true := by decide +kernel
set_option maxRecDepth 20000 in
theorem ggX7_hasFeud_X7_has : GoodIn wsX7_hasFeud wsX7_has := gi_q gd_wsX7_hasFeud _ [(7, 1)] rfl
set_option maxRecDepth 20000 in
theorem gX7_hasFeud_X7_has : GoodIn wsX7_hasFeud (va_wsS RX7 153 yX7_has wsX7_has) := goodIn_app (gi_q gd_wsX7_hasFeud _ [(4, 3)] rfl) ggX7_hasFeud_X7_has
def zT_cX7_hasFeud : List (List Nat) := [[3, 61, 28, 42, 180, 0, 44, 162, 0, 33, 27, 28, 184, 0, 153, 153, 0, 19, 42, 180, 0, 11, 28, 50, 180, 0, 150, 27, 126, 153, 0, 5, 4, 172, 132, 2, 1, 167, 255, 221, 3, 172]]
theorem zE_cX7_hasFeud : zTab cX7_hasFeud.data.toList zT_cX7_hasFeud = true := by decide +kernel
theorem dX7_hasFeud_0 : decode cX7_hasFeud 0 = .ok (.iconst 0, 1) := dz_iconst_0 (y0 zE_cX7_hasFeud 0 0 (by decide +kernel))
theorem dX7_hasFeud_1 : decode cX7_hasFeud 1 = .ok (.istore_n 2, 1) := dz_istore_n_2 (y0 zE_cX7_hasFeud 0 1 (by decide +kernel))
theorem dX7_hasFeud_2 : decode cX7_hasFeud 2 = .ok (.iload_n 2, 1) := dz_iload_n_2 (y0 zE_cX7_hasFeud 0 2 (by decide +kernel))
theorem dX7_hasFeud_3 : decode cX7_hasFeud 3 = .ok (.aload_n 0, 1) := dz_aload_n_0 (y0 zE_cX7_hasFeud 0 3 (by decide +kernel))
theorem dX7_hasFeud_4 : decode cX7_hasFeud 4 = .ok (.getfield 44, 3) := dz_getfield (yu2 zE_cX7_hasFeud 0 4 (by decide +kernel))
theorem dX7_hasFeud_7 : decode cX7_hasFeud 7 = .ok (.if_icmp .ge 33, 3) := dz_if_icmp_ge (ys2 zE_cX7_hasFeud 0 7 (by decide +kernel))
theorem dX7_hasFeud_10 : decode cX7_hasFeud 10 = .ok (.iload_n 1, 1) := dz_iload_n_1 (y0 zE_cX7_hasFeud 0 10 (by decide +kernel))
theorem dX7_hasFeud_11 : decode cX7_hasFeud 11 = .ok (.iload_n 2, 1) := dz_iload_n_2 (y0 zE_cX7_hasFeud 0 11 (by decide +kernel))
theorem dX7_hasFeud_12 : decode cX7_hasFeud 12 = .ok (.invokestatic 153, 3) := dz_invokestatic (yu2 zE_cX7_hasFeud 0 12 (by decide +kernel))
theorem dX7_hasFeud_15 : decode cX7_hasFeud 15 = .ok (.ifCond .eq 19, 3) := dz_ifCond_eq (ys2 zE_cX7_hasFeud 0 15 (by decide +kernel))
theorem dX7_hasFeud_18 : decode cX7_hasFeud 18 = .ok (.aload_n 0, 1) := dz_aload_n_0 (y0 zE_cX7_hasFeud 0 18 (by decide +kernel))
theorem dX7_hasFeud_19 : decode cX7_hasFeud 19 = .ok (.getfield 11, 3) := dz_getfield (yu2 zE_cX7_hasFeud 0 19 (by decide +kernel))
theorem dX7_hasFeud_22 : decode cX7_hasFeud 22 = .ok (.iload_n 2, 1) := dz_iload_n_2 (y0 zE_cX7_hasFeud 0 22 (by decide +kernel))
theorem dX7_hasFeud_23 : decode cX7_hasFeud 23 = .ok (.aaload, 1) := dz_aaload (y0 zE_cX7_hasFeud 0 23 (by decide +kernel))
theorem dX7_hasFeud_24 : decode cX7_hasFeud 24 = .ok (.getfield 150, 3) := dz_getfield (yu2 zE_cX7_hasFeud 0 24 (by decide +kernel))
theorem dX7_hasFeud_27 : decode cX7_hasFeud 27 = .ok (.iload_n 1, 1) := dz_iload_n_1 (y0 zE_cX7_hasFeud 0 27 (by decide +kernel))
theorem dX7_hasFeud_28 : decode cX7_hasFeud 28 = .ok (.iand, 1) := dz_iand (y0 zE_cX7_hasFeud 0 28 (by decide +kernel))
theorem dX7_hasFeud_29 : decode cX7_hasFeud 29 = .ok (.ifCond .eq 5, 3) := dz_ifCond_eq (ys2 zE_cX7_hasFeud 0 29 (by decide +kernel))
theorem dX7_hasFeud_32 : decode cX7_hasFeud 32 = .ok (.iconst 1, 1) := dz_iconst_1 (y0 zE_cX7_hasFeud 0 32 (by decide +kernel))
theorem dX7_hasFeud_33 : decode cX7_hasFeud 33 = .ok (.ireturn, 1) := dz_ireturn (y0 zE_cX7_hasFeud 0 33 (by decide +kernel))
theorem dX7_hasFeud_34 : decode cX7_hasFeud 34 = .ok (.iinc 2 1, 3) := dz_iinc (yii zE_cX7_hasFeud 0 34 (by decide +kernel))
theorem dX7_hasFeud_37 : decode cX7_hasFeud 37 = .ok (.goto (-35), 3) := dz_goto (ys2 zE_cX7_hasFeud 0 37 (by decide +kernel))
theorem dX7_hasFeud_40 : decode cX7_hasFeud 40 = .ok (.iconst 0, 1) := dz_iconst_0 (y0 zE_cX7_hasFeud 0 40 (by decide +kernel))
theorem dX7_hasFeud_41 : decode cX7_hasFeud 41 = .ok (.ireturn, 1) := dz_ireturn (y0 zE_cX7_hasFeud 0 41 (by decide +kernel))
theorem gd_wsX7_costOfAll : wsX7_costOfAll.all goodWord = true := by decide +kernel
set_option maxRecDepth 20000 in
theorem ggX7_costOfAll_X7_has : GoodIn wsX7_costOfAll wsX7_has := gi_q gd_wsX7_costOfAll _ [(6, 1)] rfl
set_option maxRecDepth 20000 in
theorem gX7_costOfAll_X7_has : GoodIn wsX7_costOfAll (va_wsS RX7 153 yX7_has wsX7_has) := goodIn_app (gi_q gd_wsX7_costOfAll _ [(3, 3)] rfl) ggX7_costOfAll_X7_has
set_option maxRecDepth 20000 in
theorem ggX7_costOfAll_X7_costAt : GoodIn wsX7_costOfAll wsX7_costAt := gi_q gd_wsX7_costOfAll _ [(10, 53)] rfl
set_option maxRecDepth 20000 in
theorem gX7_costOfAll_X7_costAt : GoodIn wsX7_costOfAll (wsV RX7 504 RX7 yX7_costAt wsX7_costAt) := goodIn_app (gi_q gd_wsX7_costOfAll _ [(7, 3), (5, 1)] rfl) ggX7_costOfAll_X7_costAt
def zT_cX7_costOfAll : List (List Nat) := [[3, 62, 3, 54, 4, 21, 4, 42, 180, 0, 44, 162, 0, 33, 27, 21, 4, 184, 0, 153, 153, 0, 18, 29, 42, 42, 180, 0, 11, 21, 4, 50, 44, 182, 1, 248, 96, 62, 132, 4, 1, 167, 255, 220, 29, 172]]
theorem zE_cX7_costOfAll : zTab cX7_costOfAll.data.toList zT_cX7_costOfAll = true := by decide +kernel
theorem dX7_costOfAll_0 : decode cX7_costOfAll 0 = .ok (.iconst 0, 1) := dz_iconst_0 (y0 zE_cX7_costOfAll 0 0 (by decide +kernel))
theorem dX7_costOfAll_1 : decode cX7_costOfAll 1 = .ok (.istore_n 3, 1) := dz_istore_n_3 (y0 zE_cX7_costOfAll 0 1 (by decide +kernel))
theorem dX7_costOfAll_2 : decode cX7_costOfAll 2 = .ok (.iconst 0, 1) := dz_iconst_0 (y0 zE_cX7_costOfAll 0 2 (by decide +kernel))
theorem dX7_costOfAll_3 : decode cX7_costOfAll 3 = .ok (.istore 4, 2) := dz_istore (yu1 zE_cX7_costOfAll 0 3 (by decide +kernel))
theorem dX7_costOfAll_5 : decode cX7_costOfAll 5 = .ok (.iload 4, 2) := dz_iload (yu1 zE_cX7_costOfAll 0 5 (by decide +kernel))
theorem dX7_costOfAll_7 : decode cX7_costOfAll 7 = .ok (.aload_n 0, 1) := dz_aload_n_0 (y0 zE_cX7_costOfAll 0 7 (by decide +kernel))
theorem dX7_costOfAll_8 : decode cX7_costOfAll 8 = .ok (.getfield 44, 3) := dz_getfield (yu2 zE_cX7_costOfAll 0 8 (by decide +kernel))
theorem dX7_costOfAll_11 : decode cX7_costOfAll 11 = .ok (.if_icmp .ge 33, 3) := dz_if_icmp_ge (ys2 zE_cX7_costOfAll 0 11 (by decide +kernel))
theorem dX7_costOfAll_14 : decode cX7_costOfAll 14 = .ok (.iload_n 1, 1) := dz_iload_n_1 (y0 zE_cX7_costOfAll 0 14 (by decide +kernel))
theorem dX7_costOfAll_15 : decode cX7_costOfAll 15 = .ok (.iload 4, 2) := dz_iload (yu1 zE_cX7_costOfAll 0 15 (by decide +kernel))
theorem dX7_costOfAll_17 : decode cX7_costOfAll 17 = .ok (.invokestatic 153, 3) := dz_invokestatic (yu2 zE_cX7_costOfAll 0 17 (by decide +kernel))
theorem dX7_costOfAll_20 : decode cX7_costOfAll 20 = .ok (.ifCond .eq 18, 3) := dz_ifCond_eq (ys2 zE_cX7_costOfAll 0 20 (by decide +kernel))
theorem dX7_costOfAll_23 : decode cX7_costOfAll 23 = .ok (.iload_n 3, 1) := dz_iload_n_3 (y0 zE_cX7_costOfAll 0 23 (by decide +kernel))
theorem dX7_costOfAll_24 : decode cX7_costOfAll 24 = .ok (.aload_n 0, 1) := dz_aload_n_0 (y0 zE_cX7_costOfAll 0 24 (by decide +kernel))
theorem dX7_costOfAll_25 : decode cX7_costOfAll 25 = .ok (.aload_n 0, 1) := dz_aload_n_0 (y0 zE_cX7_costOfAll 0 25 (by decide +kernel))
theorem dX7_costOfAll_26 : decode cX7_costOfAll 26 = .ok (.getfield 11, 3) := dz_getfield (yu2 zE_cX7_costOfAll 0 26 (by decide +kernel))
theorem dX7_costOfAll_29 : decode cX7_costOfAll 29 = .ok (.iload 4, 2) := dz_iload (yu1 zE_cX7_costOfAll 0 29 (by decide +kernel))
theorem dX7_costOfAll_31 : decode cX7_costOfAll 31 = .ok (.aaload, 1) := dz_aaload (y0 zE_cX7_costOfAll 0 31 (by decide +kernel))
theorem dX7_costOfAll_32 : decode cX7_costOfAll 32 = .ok (.aload_n 2, 1) := dz_aload_n_2 (y0 zE_cX7_costOfAll 0 32 (by decide +kernel))
theorem dX7_costOfAll_33 : decode cX7_costOfAll 33 = .ok (.invokevirtual 504, 3) := dz_invokevirtual (yu2 zE_cX7_costOfAll 0 33 (by decide +kernel))
theorem dX7_costOfAll_36 : decode cX7_costOfAll 36 = .ok (.iadd, 1) := dz_iadd (y0 zE_cX7_costOfAll 0 36 (by decide +kernel))
theorem dX7_costOfAll_37 : decode cX7_costOfAll 37 = .ok (.istore_n 3, 1) := dz_istore_n_3 (y0 zE_cX7_costOfAll 0 37 (by decide +kernel))
theorem dX7_costOfAll_38 : decode cX7_costOfAll 38 = .ok (.iinc 4 1, 3) := dz_iinc (yii zE_cX7_costOfAll 0 38 (by decide +kernel))
theorem dX7_costOfAll_41 : decode cX7_costOfAll 41 = .ok (.goto (-36), 3) := dz_goto (ys2 zE_cX7_costOfAll 0 41 (by decide +kernel))
theorem dX7_costOfAll_44 : decode cX7_costOfAll 44 = .ok (.iload_n 3, 1) := dz_iload_n_3 (y0 zE_cX7_costOfAll 0 44 (by decide +kernel))
theorem dX7_costOfAll_45 : decode cX7_costOfAll 45 = .ok (.ireturn, 1) := dz_ireturn (y0 zE_cX7_costOfAll 0 45 (by decide +kernel))
theorem gd_wsX7_playableFor : wsX7_playableFor.all goodWord = true := by decide +kernel
set_option maxRecDepth 20000 in
theorem ggX7_playableFor_X7_has : GoodIn wsX7_playableFor wsX7_has := gi_q gd_wsX7_playableFor _ [(7, 1)] rfl
set_option maxRecDepth 20000 in
theorem gX7_playableFor_X7_has : GoodIn wsX7_playableFor (va_wsS RX7 153 yX7_has wsX7_has) := goodIn_app (gi_q gd_wsX7_playableFor _ [(4, 3)] rfl) ggX7_playableFor_X7_has
set_option maxRecDepth 20000 in
theorem ggX7_playableFor_J6_bitCount_0f7a4 : GoodIn wsX7_playableFor wsJ6_bitCount_0f7a4 := gi_q gd_wsX7_playableFor _ [(11, 4)] rfl
set_option maxRecDepth 20000 in
theorem gX7_playableFor_J6_bitCount_0f7a4 : GoodIn wsX7_playableFor (va_wsS RX7 128 yJ6_bitCount_0f7a4 wsJ6_bitCount_0f7a4) := goodIn_app (gi_q gd_wsX7_playableFor _ [(8, 3)] rfl) ggX7_playableFor_J6_bitCount_0f7a4
def zT_cX7_playableFor : List (List Nat) := [[3, 61, 3, 62, 3, 54, 4, 21, 4, 42, 180, 0, 44, 162, 0, 46, 27, 21, 4, 184, 0, 153, 153, 0, 31, 29, 28, 42, 180, 0, 11, 21, 4, 50, 180, 0, 114, 126, 128, 62, 28, 42, 180, 0, 11, 21, 4, 50, 180, 0, 114, 128, 61, 132, 4, 1, 167, 255, 207, 27, 184, 0, 128, 4, 160, 0, 7, 28], [160, 0, 7, 28, 167, 0, 4, 29, 172]]
theorem zE_cX7_playableFor : zTab cX7_playableFor.data.toList zT_cX7_playableFor = true := by decide +kernel
theorem dX7_playableFor_0 : decode cX7_playableFor 0 = .ok (.iconst 0, 1) := dz_iconst_0 (y0 zE_cX7_playableFor 0 0 (by decide +kernel))
theorem dX7_playableFor_1 : decode cX7_playableFor 1 = .ok (.istore_n 2, 1) := dz_istore_n_2 (y0 zE_cX7_playableFor 0 1 (by decide +kernel))
theorem dX7_playableFor_2 : decode cX7_playableFor 2 = .ok (.iconst 0, 1) := dz_iconst_0 (y0 zE_cX7_playableFor 0 2 (by decide +kernel))
theorem dX7_playableFor_3 : decode cX7_playableFor 3 = .ok (.istore_n 3, 1) := dz_istore_n_3 (y0 zE_cX7_playableFor 0 3 (by decide +kernel))
theorem dX7_playableFor_4 : decode cX7_playableFor 4 = .ok (.iconst 0, 1) := dz_iconst_0 (y0 zE_cX7_playableFor 0 4 (by decide +kernel))
theorem dX7_playableFor_5 : decode cX7_playableFor 5 = .ok (.istore 4, 2) := dz_istore (yu1 zE_cX7_playableFor 0 5 (by decide +kernel))
theorem dX7_playableFor_7 : decode cX7_playableFor 7 = .ok (.iload 4, 2) := dz_iload (yu1 zE_cX7_playableFor 0 7 (by decide +kernel))
theorem dX7_playableFor_9 : decode cX7_playableFor 9 = .ok (.aload_n 0, 1) := dz_aload_n_0 (y0 zE_cX7_playableFor 0 9 (by decide +kernel))
theorem dX7_playableFor_10 : decode cX7_playableFor 10 = .ok (.getfield 44, 3) := dz_getfield (yu2 zE_cX7_playableFor 0 10 (by decide +kernel))
theorem dX7_playableFor_13 : decode cX7_playableFor 13 = .ok (.if_icmp .ge 46, 3) := dz_if_icmp_ge (ys2 zE_cX7_playableFor 0 13 (by decide +kernel))
theorem dX7_playableFor_16 : decode cX7_playableFor 16 = .ok (.iload_n 1, 1) := dz_iload_n_1 (y0 zE_cX7_playableFor 0 16 (by decide +kernel))
theorem dX7_playableFor_17 : decode cX7_playableFor 17 = .ok (.iload 4, 2) := dz_iload (yu1 zE_cX7_playableFor 0 17 (by decide +kernel))
theorem dX7_playableFor_19 : decode cX7_playableFor 19 = .ok (.invokestatic 153, 3) := dz_invokestatic (yu2 zE_cX7_playableFor 0 19 (by decide +kernel))
theorem dX7_playableFor_22 : decode cX7_playableFor 22 = .ok (.ifCond .eq 31, 3) := dz_ifCond_eq (ys2 zE_cX7_playableFor 0 22 (by decide +kernel))
theorem dX7_playableFor_25 : decode cX7_playableFor 25 = .ok (.iload_n 3, 1) := dz_iload_n_3 (y0 zE_cX7_playableFor 0 25 (by decide +kernel))
theorem dX7_playableFor_26 : decode cX7_playableFor 26 = .ok (.iload_n 2, 1) := dz_iload_n_2 (y0 zE_cX7_playableFor 0 26 (by decide +kernel))
theorem dX7_playableFor_27 : decode cX7_playableFor 27 = .ok (.aload_n 0, 1) := dz_aload_n_0 (y0 zE_cX7_playableFor 0 27 (by decide +kernel))
theorem dX7_playableFor_28 : decode cX7_playableFor 28 = .ok (.getfield 11, 3) := dz_getfield (yu2 zE_cX7_playableFor 0 28 (by decide +kernel))
theorem dX7_playableFor_31 : decode cX7_playableFor 31 = .ok (.iload 4, 2) := dz_iload (yu1 zE_cX7_playableFor 0 31 (by decide +kernel))
theorem dX7_playableFor_33 : decode cX7_playableFor 33 = .ok (.aaload, 1) := dz_aaload (y0 zE_cX7_playableFor 0 33 (by decide +kernel))
theorem dX7_playableFor_34 : decode cX7_playableFor 34 = .ok (.getfield 114, 3) := dz_getfield (yu2 zE_cX7_playableFor 0 34 (by decide +kernel))
theorem dX7_playableFor_37 : decode cX7_playableFor 37 = .ok (.iand, 1) := dz_iand (y0 zE_cX7_playableFor 0 37 (by decide +kernel))
theorem dX7_playableFor_38 : decode cX7_playableFor 38 = .ok (.ior, 1) := dz_ior (y0 zE_cX7_playableFor 0 38 (by decide +kernel))
theorem dX7_playableFor_39 : decode cX7_playableFor 39 = .ok (.istore_n 3, 1) := dz_istore_n_3 (y0 zE_cX7_playableFor 0 39 (by decide +kernel))
theorem dX7_playableFor_40 : decode cX7_playableFor 40 = .ok (.iload_n 2, 1) := dz_iload_n_2 (y0 zE_cX7_playableFor 0 40 (by decide +kernel))
theorem dX7_playableFor_41 : decode cX7_playableFor 41 = .ok (.aload_n 0, 1) := dz_aload_n_0 (y0 zE_cX7_playableFor 0 41 (by decide +kernel))
theorem dX7_playableFor_42 : decode cX7_playableFor 42 = .ok (.getfield 11, 3) := dz_getfield (yu2 zE_cX7_playableFor 0 42 (by decide +kernel))
theorem dX7_playableFor_45 : decode cX7_playableFor 45 = .ok (.iload 4, 2) := dz_iload (yu1 zE_cX7_playableFor 0 45 (by decide +kernel))
theorem dX7_playableFor_47 : decode cX7_playableFor 47 = .ok (.aaload, 1) := dz_aaload (y0 zE_cX7_playableFor 0 47 (by decide +kernel))
theorem dX7_playableFor_48 : decode cX7_playableFor 48 = .ok (.getfield 114, 3) := dz_getfield (yu2 zE_cX7_playableFor 0 48 (by decide +kernel))
theorem dX7_playableFor_51 : decode cX7_playableFor 51 = .ok (.ior, 1) := dz_ior (y0 zE_cX7_playableFor 0 51 (by decide +kernel))
theorem dX7_playableFor_52 : decode cX7_playableFor 52 = .ok (.istore_n 2, 1) := dz_istore_n_2 (y0 zE_cX7_playableFor 0 52 (by decide +kernel))
theorem dX7_playableFor_53 : decode cX7_playableFor 53 = .ok (.iinc 4 1, 3) := dz_iinc (yii zE_cX7_playableFor 0 53 (by decide +kernel))
theorem dX7_playableFor_56 : decode cX7_playableFor 56 = .ok (.goto (-49), 3) := dz_goto (ys2 zE_cX7_playableFor 0 56 (by decide +kernel))
theorem dX7_playableFor_59 : decode cX7_playableFor 59 = .ok (.iload_n 1, 1) := dz_iload_n_1 (y0 zE_cX7_playableFor 0 59 (by decide +kernel))
theorem dX7_playableFor_60 : decode cX7_playableFor 60 = .ok (.invokestatic 128, 3) := dz_invokestatic (yu2 zE_cX7_playableFor 0 60 (by decide +kernel))
theorem dX7_playableFor_63 : decode cX7_playableFor 63 = .ok (.iconst 1, 1) := dz_iconst_1 (y0 zE_cX7_playableFor 0 63 (by decide +kernel))
theorem dX7_playableFor_64 : decode cX7_playableFor 64 = .ok (.if_icmp .ne 7, 3) := dz_if_icmp_ne (ys2 zE_cX7_playableFor 1 0 (by decide +kernel))
theorem dX7_playableFor_67 : decode cX7_playableFor 67 = .ok (.iload_n 2, 1) := dz_iload_n_2 (y0 zE_cX7_playableFor 1 3 (by decide +kernel))
theorem dX7_playableFor_68 : decode cX7_playableFor 68 = .ok (.goto 4, 3) := dz_goto (ys2 zE_cX7_playableFor 1 4 (by decide +kernel))
theorem dX7_playableFor_71 : decode cX7_playableFor 71 = .ok (.iload_n 3, 1) := dz_iload_n_3 (y0 zE_cX7_playableFor 1 7 (by decide +kernel))
theorem dX7_playableFor_72 : decode cX7_playableFor 72 = .ok (.ireturn, 1) := dz_ireturn (y0 zE_cX7_playableFor 1 8 (by decide +kernel))
theorem gd_wsX7_countFixedWith : wsX7_countFixedWith.all goodWord = true := by decide +kernel
set_option maxRecDepth 20000 in
theorem ggX7_countFixedWith_X6_isFixedWith : GoodIn wsX7_countFixedWith wsX6_isFixedWith := gi_q gd_wsX7_countFixedWith _ [(7, 6), (28, 12)] rfl
set_option maxRecDepth 20000 in
theorem gX7_countFixedWith_X6_isFixedWith : GoodIn wsX7_countFixedWith (wsV RX7 274 RX6 yX6_isFixedWith wsX6_isFixedWith) := goodIn_app (gi_q gd_wsX7_countFixedWith _ [(3, 4)] rfl) ggX7_countFixedWith_X6_isFixedWith
def zT_cX7_countFixedWith : List (List Nat) := [[3, 61, 3, 62, 29, 42, 180, 0, 51, 162, 0, 25, 42, 180, 0, 29, 29, 50, 27, 182, 1, 18, 153, 0, 6, 132, 2, 1, 132, 3, 1, 167, 255, 229, 28, 172]]
theorem zE_cX7_countFixedWith : zTab cX7_countFixedWith.data.toList zT_cX7_countFixedWith = true := by decide +kernel
theorem dX7_countFixedWith_0 : decode cX7_countFixedWith 0 = .ok (.iconst 0, 1) := dz_iconst_0 (y0 zE_cX7_countFixedWith 0 0 (by decide +kernel))
theorem dX7_countFixedWith_1 : decode cX7_countFixedWith 1 = .ok (.istore_n 2, 1) := dz_istore_n_2 (y0 zE_cX7_countFixedWith 0 1 (by decide +kernel))
theorem dX7_countFixedWith_2 : decode cX7_countFixedWith 2 = .ok (.iconst 0, 1) := dz_iconst_0 (y0 zE_cX7_countFixedWith 0 2 (by decide +kernel))
theorem dX7_countFixedWith_3 : decode cX7_countFixedWith 3 = .ok (.istore_n 3, 1) := dz_istore_n_3 (y0 zE_cX7_countFixedWith 0 3 (by decide +kernel))
theorem dX7_countFixedWith_4 : decode cX7_countFixedWith 4 = .ok (.iload_n 3, 1) := dz_iload_n_3 (y0 zE_cX7_countFixedWith 0 4 (by decide +kernel))
theorem dX7_countFixedWith_5 : decode cX7_countFixedWith 5 = .ok (.aload_n 0, 1) := dz_aload_n_0 (y0 zE_cX7_countFixedWith 0 5 (by decide +kernel))
theorem dX7_countFixedWith_6 : decode cX7_countFixedWith 6 = .ok (.getfield 51, 3) := dz_getfield (yu2 zE_cX7_countFixedWith 0 6 (by decide +kernel))
theorem dX7_countFixedWith_9 : decode cX7_countFixedWith 9 = .ok (.if_icmp .ge 25, 3) := dz_if_icmp_ge (ys2 zE_cX7_countFixedWith 0 9 (by decide +kernel))
theorem dX7_countFixedWith_12 : decode cX7_countFixedWith 12 = .ok (.aload_n 0, 1) := dz_aload_n_0 (y0 zE_cX7_countFixedWith 0 12 (by decide +kernel))
theorem dX7_countFixedWith_13 : decode cX7_countFixedWith 13 = .ok (.getfield 29, 3) := dz_getfield (yu2 zE_cX7_countFixedWith 0 13 (by decide +kernel))
theorem dX7_countFixedWith_16 : decode cX7_countFixedWith 16 = .ok (.iload_n 3, 1) := dz_iload_n_3 (y0 zE_cX7_countFixedWith 0 16 (by decide +kernel))
theorem dX7_countFixedWith_17 : decode cX7_countFixedWith 17 = .ok (.aaload, 1) := dz_aaload (y0 zE_cX7_countFixedWith 0 17 (by decide +kernel))
theorem dX7_countFixedWith_18 : decode cX7_countFixedWith 18 = .ok (.iload_n 1, 1) := dz_iload_n_1 (y0 zE_cX7_countFixedWith 0 18 (by decide +kernel))
theorem dX7_countFixedWith_19 : decode cX7_countFixedWith 19 = .ok (.invokevirtual 274, 3) := dz_invokevirtual (yu2 zE_cX7_countFixedWith 0 19 (by decide +kernel))
theorem dX7_countFixedWith_22 : decode cX7_countFixedWith 22 = .ok (.ifCond .eq 6, 3) := dz_ifCond_eq (ys2 zE_cX7_countFixedWith 0 22 (by decide +kernel))
theorem dX7_countFixedWith_25 : decode cX7_countFixedWith 25 = .ok (.iinc 2 1, 3) := dz_iinc (yii zE_cX7_countFixedWith 0 25 (by decide +kernel))
theorem dX7_countFixedWith_28 : decode cX7_countFixedWith 28 = .ok (.iinc 3 1, 3) := dz_iinc (yii zE_cX7_countFixedWith 0 28 (by decide +kernel))
theorem dX7_countFixedWith_31 : decode cX7_countFixedWith 31 = .ok (.goto (-27), 3) := dz_goto (ys2 zE_cX7_countFixedWith 0 31 (by decide +kernel))
theorem dX7_countFixedWith_34 : decode cX7_countFixedWith 34 = .ok (.iload_n 2, 1) := dz_iload_n_2 (y0 zE_cX7_countFixedWith 0 34 (by decide +kernel))
theorem dX7_countFixedWith_35 : decode cX7_countFixedWith 35 = .ok (.ireturn, 1) := dz_ireturn (y0 zE_cX7_countFixedWith 0 35 (by decide +kernel))
theorem gd_wsX7_countKnowing : wsX7_countKnowing.all goodWord = true := by decide +kernel
set_option maxRecDepth 20000 in
theorem ggX7_countKnowing_X7_has : GoodIn wsX7_countKnowing wsX7_has := gi_q gd_wsX7_countKnowing _ [(7, 1)] rfl
set_option maxRecDepth 20000 in
theorem gX7_countKnowing_X7_has : GoodIn wsX7_countKnowing (va_wsS RX7 153 yX7_has wsX7_has) := goodIn_app (gi_q gd_wsX7_countKnowing _ [(4, 3)] rfl) ggX7_countKnowing_X7_has
def zT_cX7_countKnowing : List (List Nat) := [[3, 61, 3, 62, 29, 42, 180, 0, 44, 162, 0, 28, 42, 180, 0, 11, 29, 50, 180, 0, 114, 27, 184, 0, 153, 153, 0, 6, 132, 2, 1, 132, 3, 1, 167, 255, 226, 28, 172]]
theorem zE_cX7_countKnowing : zTab cX7_countKnowing.data.toList zT_cX7_countKnowing = true := by decide +kernel
theorem dX7_countKnowing_0 : decode cX7_countKnowing 0 = .ok (.iconst 0, 1) := dz_iconst_0 (y0 zE_cX7_countKnowing 0 0 (by decide +kernel))
theorem dX7_countKnowing_1 : decode cX7_countKnowing 1 = .ok (.istore_n 2, 1) := dz_istore_n_2 (y0 zE_cX7_countKnowing 0 1 (by decide +kernel))
theorem dX7_countKnowing_2 : decode cX7_countKnowing 2 = .ok (.iconst 0, 1) := dz_iconst_0 (y0 zE_cX7_countKnowing 0 2 (by decide +kernel))
theorem dX7_countKnowing_3 : decode cX7_countKnowing 3 = .ok (.istore_n 3, 1) := dz_istore_n_3 (y0 zE_cX7_countKnowing 0 3 (by decide +kernel))
theorem dX7_countKnowing_4 : decode cX7_countKnowing 4 = .ok (.iload_n 3, 1) := dz_iload_n_3 (y0 zE_cX7_countKnowing 0 4 (by decide +kernel))
theorem dX7_countKnowing_5 : decode cX7_countKnowing 5 = .ok (.aload_n 0, 1) := dz_aload_n_0 (y0 zE_cX7_countKnowing 0 5 (by decide +kernel))
theorem dX7_countKnowing_6 : decode cX7_countKnowing 6 = .ok (.getfield 44, 3) := dz_getfield (yu2 zE_cX7_countKnowing 0 6 (by decide +kernel))
theorem dX7_countKnowing_9 : decode cX7_countKnowing 9 = .ok (.if_icmp .ge 28, 3) := dz_if_icmp_ge (ys2 zE_cX7_countKnowing 0 9 (by decide +kernel))
theorem dX7_countKnowing_12 : decode cX7_countKnowing 12 = .ok (.aload_n 0, 1) := dz_aload_n_0 (y0 zE_cX7_countKnowing 0 12 (by decide +kernel))
theorem dX7_countKnowing_13 : decode cX7_countKnowing 13 = .ok (.getfield 11, 3) := dz_getfield (yu2 zE_cX7_countKnowing 0 13 (by decide +kernel))
theorem dX7_countKnowing_16 : decode cX7_countKnowing 16 = .ok (.iload_n 3, 1) := dz_iload_n_3 (y0 zE_cX7_countKnowing 0 16 (by decide +kernel))
theorem dX7_countKnowing_17 : decode cX7_countKnowing 17 = .ok (.aaload, 1) := dz_aaload (y0 zE_cX7_countKnowing 0 17 (by decide +kernel))
theorem dX7_countKnowing_18 : decode cX7_countKnowing 18 = .ok (.getfield 114, 3) := dz_getfield (yu2 zE_cX7_countKnowing 0 18 (by decide +kernel))
theorem dX7_countKnowing_21 : decode cX7_countKnowing 21 = .ok (.iload_n 1, 1) := dz_iload_n_1 (y0 zE_cX7_countKnowing 0 21 (by decide +kernel))
theorem dX7_countKnowing_22 : decode cX7_countKnowing 22 = .ok (.invokestatic 153, 3) := dz_invokestatic (yu2 zE_cX7_countKnowing 0 22 (by decide +kernel))
theorem dX7_countKnowing_25 : decode cX7_countKnowing 25 = .ok (.ifCond .eq 6, 3) := dz_ifCond_eq (ys2 zE_cX7_countKnowing 0 25 (by decide +kernel))
theorem dX7_countKnowing_28 : decode cX7_countKnowing 28 = .ok (.iinc 2 1, 3) := dz_iinc (yii zE_cX7_countKnowing 0 28 (by decide +kernel))
theorem dX7_countKnowing_31 : decode cX7_countKnowing 31 = .ok (.iinc 3 1, 3) := dz_iinc (yii zE_cX7_countKnowing 0 31 (by decide +kernel))
theorem dX7_countKnowing_34 : decode cX7_countKnowing 34 = .ok (.goto (-30), 3) := dz_goto (ys2 zE_cX7_countKnowing 0 34 (by decide +kernel))
theorem dX7_countKnowing_37 : decode cX7_countKnowing 37 = .ok (.iload_n 2, 1) := dz_iload_n_2 (y0 zE_cX7_countKnowing 0 37 (by decide +kernel))
theorem dX7_countKnowing_38 : decode cX7_countKnowing 38 = .ok (.ireturn, 1) := dz_ireturn (y0 zE_cX7_countKnowing 0 38 (by decide +kernel))
def zT_cX7_countOfBand : List (List Nat) := [[3, 62, 3, 54, 4, 21, 4, 42, 180, 0, 51, 162, 0, 44, 42, 180, 0, 29, 21, 4, 50, 180, 0, 193, 27, 160, 0, 24, 28, 153, 0, 17, 42, 180, 0, 29, 21, 4, 50, 180, 0, 233, 5, 160, 0, 6, 132, 3, 1, 132, 4, 1, 167, 255, 209, 29, 172]]
theorem zE_cX7_countOfBand : zTab cX7_countOfBand.data.toList zT_cX7_countOfBand = true := by decide +kernel
theorem dX7_countOfBand_0 : decode cX7_countOfBand 0 = .ok (.iconst 0, 1) := dz_iconst_0 (y0 zE_cX7_countOfBand 0 0 (by decide +kernel))
theorem dX7_countOfBand_1 : decode cX7_countOfBand 1 = .ok (.istore_n 3, 1) := dz_istore_n_3 (y0 zE_cX7_countOfBand 0 1 (by decide +kernel))
theorem dX7_countOfBand_2 : decode cX7_countOfBand 2 = .ok (.iconst 0, 1) := dz_iconst_0 (y0 zE_cX7_countOfBand 0 2 (by decide +kernel))
theorem dX7_countOfBand_3 : decode cX7_countOfBand 3 = .ok (.istore 4, 2) := dz_istore (yu1 zE_cX7_countOfBand 0 3 (by decide +kernel))
theorem dX7_countOfBand_5 : decode cX7_countOfBand 5 = .ok (.iload 4, 2) := dz_iload (yu1 zE_cX7_countOfBand 0 5 (by decide +kernel))
theorem dX7_countOfBand_7 : decode cX7_countOfBand 7 = .ok (.aload_n 0, 1) := dz_aload_n_0 (y0 zE_cX7_countOfBand 0 7 (by decide +kernel))
theorem dX7_countOfBand_8 : decode cX7_countOfBand 8 = .ok (.getfield 51, 3) := dz_getfield (yu2 zE_cX7_countOfBand 0 8 (by decide +kernel))
theorem dX7_countOfBand_11 : decode cX7_countOfBand 11 = .ok (.if_icmp .ge 44, 3) := dz_if_icmp_ge (ys2 zE_cX7_countOfBand 0 11 (by decide +kernel))
theorem dX7_countOfBand_14 : decode cX7_countOfBand 14 = .ok (.aload_n 0, 1) := dz_aload_n_0 (y0 zE_cX7_countOfBand 0 14 (by decide +kernel))
theorem dX7_countOfBand_15 : decode cX7_countOfBand 15 = .ok (.getfield 29, 3) := dz_getfield (yu2 zE_cX7_countOfBand 0 15 (by decide +kernel))
theorem dX7_countOfBand_18 : decode cX7_countOfBand 18 = .ok (.iload 4, 2) := dz_iload (yu1 zE_cX7_countOfBand 0 18 (by decide +kernel))
theorem dX7_countOfBand_20 : decode cX7_countOfBand 20 = .ok (.aaload, 1) := dz_aaload (y0 zE_cX7_countOfBand 0 20 (by decide +kernel))
theorem dX7_countOfBand_21 : decode cX7_countOfBand 21 = .ok (.getfield 193, 3) := dz_getfield (yu2 zE_cX7_countOfBand 0 21 (by decide +kernel))
theorem dX7_countOfBand_24 : decode cX7_countOfBand 24 = .ok (.iload_n 1, 1) := dz_iload_n_1 (y0 zE_cX7_countOfBand 0 24 (by decide +kernel))
theorem dX7_countOfBand_25 : decode cX7_countOfBand 25 = .ok (.if_icmp .ne 24, 3) := dz_if_icmp_ne (ys2 zE_cX7_countOfBand 0 25 (by decide +kernel))
theorem dX7_countOfBand_28 : decode cX7_countOfBand 28 = .ok (.iload_n 2, 1) := dz_iload_n_2 (y0 zE_cX7_countOfBand 0 28 (by decide +kernel))
theorem dX7_countOfBand_29 : decode cX7_countOfBand 29 = .ok (.ifCond .eq 17, 3) := dz_ifCond_eq (ys2 zE_cX7_countOfBand 0 29 (by decide +kernel))
theorem dX7_countOfBand_32 : decode cX7_countOfBand 32 = .ok (.aload_n 0, 1) := dz_aload_n_0 (y0 zE_cX7_countOfBand 0 32 (by decide +kernel))
theorem dX7_countOfBand_33 : decode cX7_countOfBand 33 = .ok (.getfield 29, 3) := dz_getfield (yu2 zE_cX7_countOfBand 0 33 (by decide +kernel))
theorem dX7_countOfBand_36 : decode cX7_countOfBand 36 = .ok (.iload 4, 2) := dz_iload (yu1 zE_cX7_countOfBand 0 36 (by decide +kernel))
theorem dX7_countOfBand_38 : decode cX7_countOfBand 38 = .ok (.aaload, 1) := dz_aaload (y0 zE_cX7_countOfBand 0 38 (by decide +kernel))
theorem dX7_countOfBand_39 : decode cX7_countOfBand 39 = .ok (.getfield 233, 3) := dz_getfield (yu2 zE_cX7_countOfBand 0 39 (by decide +kernel))
theorem dX7_countOfBand_42 : decode cX7_countOfBand 42 = .ok (.iconst 2, 1) := dz_iconst_2 (y0 zE_cX7_countOfBand 0 42 (by decide +kernel))
theorem dX7_countOfBand_43 : decode cX7_countOfBand 43 = .ok (.if_icmp .ne 6, 3) := dz_if_icmp_ne (ys2 zE_cX7_countOfBand 0 43 (by decide +kernel))
theorem dX7_countOfBand_46 : decode cX7_countOfBand 46 = .ok (.iinc 3 1, 3) := dz_iinc (yii zE_cX7_countOfBand 0 46 (by decide +kernel))
theorem dX7_countOfBand_49 : decode cX7_countOfBand 49 = .ok (.iinc 4 1, 3) := dz_iinc (yii zE_cX7_countOfBand 0 49 (by decide +kernel))
theorem dX7_countOfBand_52 : decode cX7_countOfBand 52 = .ok (.goto (-47), 3) := dz_goto (ys2 zE_cX7_countOfBand 0 52 (by decide +kernel))
theorem dX7_countOfBand_55 : decode cX7_countOfBand 55 = .ok (.iload_n 3, 1) := dz_iload_n_3 (y0 zE_cX7_countOfBand 0 55 (by decide +kernel))
theorem dX7_countOfBand_56 : decode cX7_countOfBand 56 = .ok (.ireturn, 1) := dz_ireturn (y0 zE_cX7_countOfBand 0 56 (by decide +kernel))
def zT_cX7_countInState : List (List Nat) := [[3, 61, 3, 62, 29, 42, 180, 0, 51, 162, 0, 25, 42, 180, 0, 29, 29, 50, 180, 0, 233, 27, 160, 0, 6, 132, 2, 1, 132, 3, 1, 167, 255, 229, 28, 172]]
theorem zE_cX7_countInState : zTab cX7_countInState.data.toList zT_cX7_countInState = true := by decide +kernel
theorem dX7_countInState_0 : decode cX7_countInState 0 = .ok (.iconst 0, 1) := dz_iconst_0 (y0 zE_cX7_countInState 0 0 (by decide +kernel))
theorem dX7_countInState_1 : decode cX7_countInState 1 = .ok (.istore_n 2, 1) := dz_istore_n_2 (y0 zE_cX7_countInState 0 1 (by decide +kernel))
theorem dX7_countInState_2 : decode cX7_countInState 2 = .ok (.iconst 0, 1) := dz_iconst_0 (y0 zE_cX7_countInState 0 2 (by decide +kernel))
theorem dX7_countInState_3 : decode cX7_countInState 3 = .ok (.istore_n 3, 1) := dz_istore_n_3 (y0 zE_cX7_countInState 0 3 (by decide +kernel))
theorem dX7_countInState_4 : decode cX7_countInState 4 = .ok (.iload_n 3, 1) := dz_iload_n_3 (y0 zE_cX7_countInState 0 4 (by decide +kernel))
theorem dX7_countInState_5 : decode cX7_countInState 5 = .ok (.aload_n 0, 1) := dz_aload_n_0 (y0 zE_cX7_countInState 0 5 (by decide +kernel))
theorem dX7_countInState_6 : decode cX7_countInState 6 = .ok (.getfield 51, 3) := dz_getfield (yu2 zE_cX7_countInState 0 6 (by decide +kernel))
theorem dX7_countInState_9 : decode cX7_countInState 9 = .ok (.if_icmp .ge 25, 3) := dz_if_icmp_ge (ys2 zE_cX7_countInState 0 9 (by decide +kernel))
theorem dX7_countInState_12 : decode cX7_countInState 12 = .ok (.aload_n 0, 1) := dz_aload_n_0 (y0 zE_cX7_countInState 0 12 (by decide +kernel))
theorem dX7_countInState_13 : decode cX7_countInState 13 = .ok (.getfield 29, 3) := dz_getfield (yu2 zE_cX7_countInState 0 13 (by decide +kernel))
theorem dX7_countInState_16 : decode cX7_countInState 16 = .ok (.iload_n 3, 1) := dz_iload_n_3 (y0 zE_cX7_countInState 0 16 (by decide +kernel))
theorem dX7_countInState_17 : decode cX7_countInState 17 = .ok (.aaload, 1) := dz_aaload (y0 zE_cX7_countInState 0 17 (by decide +kernel))
theorem dX7_countInState_18 : decode cX7_countInState 18 = .ok (.getfield 233, 3) := dz_getfield (yu2 zE_cX7_countInState 0 18 (by decide +kernel))
theorem dX7_countInState_21 : decode cX7_countInState 21 = .ok (.iload_n 1, 1) := dz_iload_n_1 (y0 zE_cX7_countInState 0 21 (by decide +kernel))
theorem dX7_countInState_22 : decode cX7_countInState 22 = .ok (.if_icmp .ne 6, 3) := dz_if_icmp_ne (ys2 zE_cX7_countInState 0 22 (by decide +kernel))
theorem dX7_countInState_25 : decode cX7_countInState 25 = .ok (.iinc 2 1, 3) := dz_iinc (yii zE_cX7_countInState 0 25 (by decide +kernel))
theorem dX7_countInState_28 : decode cX7_countInState 28 = .ok (.iinc 3 1, 3) := dz_iinc (yii zE_cX7_countInState 0 28 (by decide +kernel))
theorem dX7_countInState_31 : decode cX7_countInState 31 = .ok (.goto (-27), 3) := dz_goto (ys2 zE_cX7_countInState 0 31 (by decide +kernel))
theorem dX7_countInState_34 : decode cX7_countInState 34 = .ok (.iload_n 2, 1) := dz_iload_n_2 (y0 zE_cX7_countInState 0 34 (by decide +kernel))
theorem dX7_countInState_35 : decode cX7_countInState 35 = .ok (.ireturn, 1) := dz_ireturn (y0 zE_cX7_countInState 0 35 (by decide +kernel))
theorem gd_wsX7_countFeuds : wsX7_countFeuds.all goodWord = true := by decide +kernel
set_option maxRecDepth 20000 in
theorem ggX7_countFeuds_J6_bitCount_0f7a4 : GoodIn wsX7_countFeuds wsJ6_bitCount_0f7a4 := gi_q gd_wsX7_countFeuds _ [(7, 4)] rfl
set_option maxRecDepth 20000 in
theorem gX7_countFeuds_J6_bitCount_0f7a4 : GoodIn wsX7_countFeuds (va_wsS RX7 128 yJ6_bitCount_0f7a4 wsJ6_bitCount_0f7a4) := goodIn_app (gi_q gd_wsX7_countFeuds _ [(4, 3)] rfl) ggX7_countFeuds_J6_bitCount_0f7a4
def zT_cX7_countFeuds : List (List Nat) := [[3, 60, 3, 61, 28, 42, 180, 0, 44, 162, 0, 24, 27, 42, 180, 0, 11, 28, 50, 180, 0, 150, 184, 0, 128, 96, 60, 132, 2, 1, 167, 255, 230, 27, 5, 108, 172]]
theorem zE_cX7_countFeuds : zTab cX7_countFeuds.data.toList zT_cX7_countFeuds = true := by decide +kernel
theorem dX7_countFeuds_0 : decode cX7_countFeuds 0 = .ok (.iconst 0, 1) := dz_iconst_0 (y0 zE_cX7_countFeuds 0 0 (by decide +kernel))
theorem dX7_countFeuds_1 : decode cX7_countFeuds 1 = .ok (.istore_n 1, 1) := dz_istore_n_1 (y0 zE_cX7_countFeuds 0 1 (by decide +kernel))
theorem dX7_countFeuds_2 : decode cX7_countFeuds 2 = .ok (.iconst 0, 1) := dz_iconst_0 (y0 zE_cX7_countFeuds 0 2 (by decide +kernel))
theorem dX7_countFeuds_3 : decode cX7_countFeuds 3 = .ok (.istore_n 2, 1) := dz_istore_n_2 (y0 zE_cX7_countFeuds 0 3 (by decide +kernel))
theorem dX7_countFeuds_4 : decode cX7_countFeuds 4 = .ok (.iload_n 2, 1) := dz_iload_n_2 (y0 zE_cX7_countFeuds 0 4 (by decide +kernel))
theorem dX7_countFeuds_5 : decode cX7_countFeuds 5 = .ok (.aload_n 0, 1) := dz_aload_n_0 (y0 zE_cX7_countFeuds 0 5 (by decide +kernel))
theorem dX7_countFeuds_6 : decode cX7_countFeuds 6 = .ok (.getfield 44, 3) := dz_getfield (yu2 zE_cX7_countFeuds 0 6 (by decide +kernel))
theorem dX7_countFeuds_9 : decode cX7_countFeuds 9 = .ok (.if_icmp .ge 24, 3) := dz_if_icmp_ge (ys2 zE_cX7_countFeuds 0 9 (by decide +kernel))
theorem dX7_countFeuds_12 : decode cX7_countFeuds 12 = .ok (.iload_n 1, 1) := dz_iload_n_1 (y0 zE_cX7_countFeuds 0 12 (by decide +kernel))
theorem dX7_countFeuds_13 : decode cX7_countFeuds 13 = .ok (.aload_n 0, 1) := dz_aload_n_0 (y0 zE_cX7_countFeuds 0 13 (by decide +kernel))
theorem dX7_countFeuds_14 : decode cX7_countFeuds 14 = .ok (.getfield 11, 3) := dz_getfield (yu2 zE_cX7_countFeuds 0 14 (by decide +kernel))
theorem dX7_countFeuds_17 : decode cX7_countFeuds 17 = .ok (.iload_n 2, 1) := dz_iload_n_2 (y0 zE_cX7_countFeuds 0 17 (by decide +kernel))
theorem dX7_countFeuds_18 : decode cX7_countFeuds 18 = .ok (.aaload, 1) := dz_aaload (y0 zE_cX7_countFeuds 0 18 (by decide +kernel))
theorem dX7_countFeuds_19 : decode cX7_countFeuds 19 = .ok (.getfield 150, 3) := dz_getfield (yu2 zE_cX7_countFeuds 0 19 (by decide +kernel))
theorem dX7_countFeuds_22 : decode cX7_countFeuds 22 = .ok (.invokestatic 128, 3) := dz_invokestatic (yu2 zE_cX7_countFeuds 0 22 (by decide +kernel))
theorem dX7_countFeuds_25 : decode cX7_countFeuds 25 = .ok (.iadd, 1) := dz_iadd (y0 zE_cX7_countFeuds 0 25 (by decide +kernel))
theorem dX7_countFeuds_26 : decode cX7_countFeuds 26 = .ok (.istore_n 1, 1) := dz_istore_n_1 (y0 zE_cX7_countFeuds 0 26 (by decide +kernel))
theorem dX7_countFeuds_27 : decode cX7_countFeuds 27 = .ok (.iinc 2 1, 3) := dz_iinc (yii zE_cX7_countFeuds 0 27 (by decide +kernel))
theorem dX7_countFeuds_30 : decode cX7_countFeuds 30 = .ok (.goto (-26), 3) := dz_goto (ys2 zE_cX7_countFeuds 0 30 (by decide +kernel))
theorem dX7_countFeuds_33 : decode cX7_countFeuds 33 = .ok (.iload_n 1, 1) := dz_iload_n_1 (y0 zE_cX7_countFeuds 0 33 (by decide +kernel))
theorem dX7_countFeuds_34 : decode cX7_countFeuds 34 = .ok (.iconst 2, 1) := dz_iconst_2 (y0 zE_cX7_countFeuds 0 34 (by decide +kernel))
theorem dX7_countFeuds_35 : decode cX7_countFeuds 35 = .ok (.idiv, 1) := dz_idiv (y0 zE_cX7_countFeuds 0 35 (by decide +kernel))
theorem dX7_countFeuds_36 : decode cX7_countFeuds 36 = .ok (.ireturn, 1) := dz_ireturn (y0 zE_cX7_countFeuds 0 36 (by decide +kernel))
theorem gd_wsX7_countDaysOff : wsX7_countDaysOff.all goodWord = true := by decide +kernel
set_option maxRecDepth 20000 in
theorem ggX7_countDaysOff_J6_bitCount_0f7a4 : GoodIn wsX7_countDaysOff wsJ6_bitCount_0f7a4 := gi_q gd_wsX7_countDaysOff _ [(5, 4)] rfl
set_option maxRecDepth 20000 in
theorem gX7_countDaysOff_J6_bitCount_0f7a4 : GoodIn wsX7_countDaysOff (va_wsS RX7 128 yJ6_bitCount_0f7a4 wsJ6_bitCount_0f7a4) := goodIn_app (gi_q gd_wsX7_countDaysOff _ [(2, 3)] rfl) ggX7_countDaysOff_J6_bitCount_0f7a4
def zT_cX7_countDaysOff : List (List Nat) := [[3, 60, 3, 61, 28, 17, 1, 109, 163, 0, 21, 27, 42, 180, 0, 40, 28, 46, 184, 0, 128, 96, 60, 132, 2, 1, 167, 255, 234, 27, 172]]
theorem zE_cX7_countDaysOff : zTab cX7_countDaysOff.data.toList zT_cX7_countDaysOff = true := by decide +kernel
theorem dX7_countDaysOff_0 : decode cX7_countDaysOff 0 = .ok (.iconst 0, 1) := dz_iconst_0 (y0 zE_cX7_countDaysOff 0 0 (by decide +kernel))
theorem dX7_countDaysOff_1 : decode cX7_countDaysOff 1 = .ok (.istore_n 1, 1) := dz_istore_n_1 (y0 zE_cX7_countDaysOff 0 1 (by decide +kernel))
theorem dX7_countDaysOff_2 : decode cX7_countDaysOff 2 = .ok (.iconst 0, 1) := dz_iconst_0 (y0 zE_cX7_countDaysOff 0 2 (by decide +kernel))
theorem dX7_countDaysOff_3 : decode cX7_countDaysOff 3 = .ok (.istore_n 2, 1) := dz_istore_n_2 (y0 zE_cX7_countDaysOff 0 3 (by decide +kernel))
theorem dX7_countDaysOff_4 : decode cX7_countDaysOff 4 = .ok (.iload_n 2, 1) := dz_iload_n_2 (y0 zE_cX7_countDaysOff 0 4 (by decide +kernel))
theorem dX7_countDaysOff_5 : decode cX7_countDaysOff 5 = .ok (.sipush 365, 3) := dz_sipush (ys2 zE_cX7_countDaysOff 0 5 (by decide +kernel))
theorem dX7_countDaysOff_8 : decode cX7_countDaysOff 8 = .ok (.if_icmp .gt 21, 3) := dz_if_icmp_gt (ys2 zE_cX7_countDaysOff 0 8 (by decide +kernel))
theorem dX7_countDaysOff_11 : decode cX7_countDaysOff 11 = .ok (.iload_n 1, 1) := dz_iload_n_1 (y0 zE_cX7_countDaysOff 0 11 (by decide +kernel))
theorem dX7_countDaysOff_12 : decode cX7_countDaysOff 12 = .ok (.aload_n 0, 1) := dz_aload_n_0 (y0 zE_cX7_countDaysOff 0 12 (by decide +kernel))
theorem dX7_countDaysOff_13 : decode cX7_countDaysOff 13 = .ok (.getfield 40, 3) := dz_getfield (yu2 zE_cX7_countDaysOff 0 13 (by decide +kernel))
theorem dX7_countDaysOff_16 : decode cX7_countDaysOff 16 = .ok (.iload_n 2, 1) := dz_iload_n_2 (y0 zE_cX7_countDaysOff 0 16 (by decide +kernel))
theorem dX7_countDaysOff_17 : decode cX7_countDaysOff 17 = .ok (.iaload, 1) := dz_iaload (y0 zE_cX7_countDaysOff 0 17 (by decide +kernel))
theorem dX7_countDaysOff_18 : decode cX7_countDaysOff 18 = .ok (.invokestatic 128, 3) := dz_invokestatic (yu2 zE_cX7_countDaysOff 0 18 (by decide +kernel))
theorem dX7_countDaysOff_21 : decode cX7_countDaysOff 21 = .ok (.iadd, 1) := dz_iadd (y0 zE_cX7_countDaysOff 0 21 (by decide +kernel))
theorem dX7_countDaysOff_22 : decode cX7_countDaysOff 22 = .ok (.istore_n 1, 1) := dz_istore_n_1 (y0 zE_cX7_countDaysOff 0 22 (by decide +kernel))
theorem dX7_countDaysOff_23 : decode cX7_countDaysOff 23 = .ok (.iinc 2 1, 3) := dz_iinc (yii zE_cX7_countDaysOff 0 23 (by decide +kernel))
theorem dX7_countDaysOff_26 : decode cX7_countDaysOff 26 = .ok (.goto (-22), 3) := dz_goto (ys2 zE_cX7_countDaysOff 0 26 (by decide +kernel))
theorem dX7_countDaysOff_29 : decode cX7_countDaysOff 29 = .ok (.iload_n 1, 1) := dz_iload_n_1 (y0 zE_cX7_countDaysOff 0 29 (by decide +kernel))
theorem dX7_countDaysOff_30 : decode cX7_countDaysOff 30 = .ok (.ireturn, 1) := dz_ireturn (y0 zE_cX7_countDaysOff 0 30 (by decide +kernel))
def zT_cX7_allEarned : List (List Nat) := [[3, 60, 3, 61, 28, 42, 180, 0, 44, 162, 0, 21, 27, 42, 180, 0, 11, 28, 50, 180, 1, 45, 96, 60, 132, 2, 1, 167, 255, 233, 27, 172]]
theorem zE_cX7_allEarned : zTab cX7_allEarned.data.toList zT_cX7_allEarned = true := by decide +kernel
theorem dX7_allEarned_0 : decode cX7_allEarned 0 = .ok (.iconst 0, 1) := dz_iconst_0 (y0 zE_cX7_allEarned 0 0 (by decide +kernel))
theorem dX7_allEarned_1 : decode cX7_allEarned 1 = .ok (.istore_n 1, 1) := dz_istore_n_1 (y0 zE_cX7_allEarned 0 1 (by decide +kernel))
theorem dX7_allEarned_2 : decode cX7_allEarned 2 = .ok (.iconst 0, 1) := dz_iconst_0 (y0 zE_cX7_allEarned 0 2 (by decide +kernel))
theorem dX7_allEarned_3 : decode cX7_allEarned 3 = .ok (.istore_n 2, 1) := dz_istore_n_2 (y0 zE_cX7_allEarned 0 3 (by decide +kernel))
theorem dX7_allEarned_4 : decode cX7_allEarned 4 = .ok (.iload_n 2, 1) := dz_iload_n_2 (y0 zE_cX7_allEarned 0 4 (by decide +kernel))
theorem dX7_allEarned_5 : decode cX7_allEarned 5 = .ok (.aload_n 0, 1) := dz_aload_n_0 (y0 zE_cX7_allEarned 0 5 (by decide +kernel))
theorem dX7_allEarned_6 : decode cX7_allEarned 6 = .ok (.getfield 44, 3) := dz_getfield (yu2 zE_cX7_allEarned 0 6 (by decide +kernel))
theorem dX7_allEarned_9 : decode cX7_allEarned 9 = .ok (.if_icmp .ge 21, 3) := dz_if_icmp_ge (ys2 zE_cX7_allEarned 0 9 (by decide +kernel))
theorem dX7_allEarned_12 : decode cX7_allEarned 12 = .ok (.iload_n 1, 1) := dz_iload_n_1 (y0 zE_cX7_allEarned 0 12 (by decide +kernel))
theorem dX7_allEarned_13 : decode cX7_allEarned 13 = .ok (.aload_n 0, 1) := dz_aload_n_0 (y0 zE_cX7_allEarned 0 13 (by decide +kernel))
theorem dX7_allEarned_14 : decode cX7_allEarned 14 = .ok (.getfield 11, 3) := dz_getfield (yu2 zE_cX7_allEarned 0 14 (by decide +kernel))
theorem dX7_allEarned_17 : decode cX7_allEarned 17 = .ok (.iload_n 2, 1) := dz_iload_n_2 (y0 zE_cX7_allEarned 0 17 (by decide +kernel))
theorem dX7_allEarned_18 : decode cX7_allEarned 18 = .ok (.aaload, 1) := dz_aaload (y0 zE_cX7_allEarned 0 18 (by decide +kernel))
theorem dX7_allEarned_19 : decode cX7_allEarned 19 = .ok (.getfield 301, 3) := dz_getfield (yu2 zE_cX7_allEarned 0 19 (by decide +kernel))
theorem dX7_allEarned_22 : decode cX7_allEarned 22 = .ok (.iadd, 1) := dz_iadd (y0 zE_cX7_allEarned 0 22 (by decide +kernel))
theorem dX7_allEarned_23 : decode cX7_allEarned 23 = .ok (.istore_n 1, 1) := dz_istore_n_1 (y0 zE_cX7_allEarned 0 23 (by decide +kernel))
theorem dX7_allEarned_24 : decode cX7_allEarned 24 = .ok (.iinc 2 1, 3) := dz_iinc (yii zE_cX7_allEarned 0 24 (by decide +kernel))
theorem dX7_allEarned_27 : decode cX7_allEarned 27 = .ok (.goto (-23), 3) := dz_goto (ys2 zE_cX7_allEarned 0 27 (by decide +kernel))
theorem dX7_allEarned_30 : decode cX7_allEarned 30 = .ok (.iload_n 1, 1) := dz_iload_n_1 (y0 zE_cX7_allEarned 0 30 (by decide +kernel))
theorem dX7_allEarned_31 : decode cX7_allEarned 31 = .ok (.ireturn, 1) := dz_ireturn (y0 zE_cX7_allEarned 0 31 (by decide +kernel))
def zT_cX7_gapOfHours : List (List Nat) := [[3, 60, 42, 180, 0, 44, 154, 0, 7, 3, 167, 0, 12, 42, 180, 0, 11, 3, 50, 180, 1, 54, 61, 3, 62, 29, 42, 180, 0, 44, 162, 0, 37, 27, 42, 180, 0, 11, 29, 50, 180, 1, 54, 184, 1, 7, 60, 28, 42, 180, 0, 11, 29, 50, 180, 1, 54, 184, 2, 1, 61, 132, 3, 1, 167, 255, 217, 27], [167, 255, 217, 27, 28, 100, 172]]
theorem zE_cX7_gapOfHours : zTab cX7_gapOfHours.data.toList zT_cX7_gapOfHours = true := by decide +kernel
theorem dX7_gapOfHours_0 : decode cX7_gapOfHours 0 = .ok (.iconst 0, 1) := dz_iconst_0 (y0 zE_cX7_gapOfHours 0 0 (by decide +kernel))
theorem dX7_gapOfHours_1 : decode cX7_gapOfHours 1 = .ok (.istore_n 1, 1) := dz_istore_n_1 (y0 zE_cX7_gapOfHours 0 1 (by decide +kernel))
theorem dX7_gapOfHours_2 : decode cX7_gapOfHours 2 = .ok (.aload_n 0, 1) := dz_aload_n_0 (y0 zE_cX7_gapOfHours 0 2 (by decide +kernel))
theorem dX7_gapOfHours_3 : decode cX7_gapOfHours 3 = .ok (.getfield 44, 3) := dz_getfield (yu2 zE_cX7_gapOfHours 0 3 (by decide +kernel))
theorem dX7_gapOfHours_6 : decode cX7_gapOfHours 6 = .ok (.ifCond .ne 7, 3) := dz_ifCond_ne (ys2 zE_cX7_gapOfHours 0 6 (by decide +kernel))
theorem dX7_gapOfHours_9 : decode cX7_gapOfHours 9 = .ok (.iconst 0, 1) := dz_iconst_0 (y0 zE_cX7_gapOfHours 0 9 (by decide +kernel))
theorem dX7_gapOfHours_10 : decode cX7_gapOfHours 10 = .ok (.goto 12, 3) := dz_goto (ys2 zE_cX7_gapOfHours 0 10 (by decide +kernel))
theorem dX7_gapOfHours_13 : decode cX7_gapOfHours 13 = .ok (.aload_n 0, 1) := dz_aload_n_0 (y0 zE_cX7_gapOfHours 0 13 (by decide +kernel))
theorem dX7_gapOfHours_14 : decode cX7_gapOfHours 14 = .ok (.getfield 11, 3) := dz_getfield (yu2 zE_cX7_gapOfHours 0 14 (by decide +kernel))
theorem dX7_gapOfHours_17 : decode cX7_gapOfHours 17 = .ok (.iconst 0, 1) := dz_iconst_0 (y0 zE_cX7_gapOfHours 0 17 (by decide +kernel))
theorem dX7_gapOfHours_18 : decode cX7_gapOfHours 18 = .ok (.aaload, 1) := dz_aaload (y0 zE_cX7_gapOfHours 0 18 (by decide +kernel))
theorem dX7_gapOfHours_19 : decode cX7_gapOfHours 19 = .ok (.getfield 310, 3) := dz_getfield (yu2 zE_cX7_gapOfHours 0 19 (by decide +kernel))
theorem dX7_gapOfHours_22 : decode cX7_gapOfHours 22 = .ok (.istore_n 2, 1) := dz_istore_n_2 (y0 zE_cX7_gapOfHours 0 22 (by decide +kernel))
theorem dX7_gapOfHours_23 : decode cX7_gapOfHours 23 = .ok (.iconst 0, 1) := dz_iconst_0 (y0 zE_cX7_gapOfHours 0 23 (by decide +kernel))
theorem dX7_gapOfHours_24 : decode cX7_gapOfHours 24 = .ok (.istore_n 3, 1) := dz_istore_n_3 (y0 zE_cX7_gapOfHours 0 24 (by decide +kernel))
theorem dX7_gapOfHours_25 : decode cX7_gapOfHours 25 = .ok (.iload_n 3, 1) := dz_iload_n_3 (y0 zE_cX7_gapOfHours 0 25 (by decide +kernel))
theorem dX7_gapOfHours_26 : decode cX7_gapOfHours 26 = .ok (.aload_n 0, 1) := dz_aload_n_0 (y0 zE_cX7_gapOfHours 0 26 (by decide +kernel))
theorem dX7_gapOfHours_27 : decode cX7_gapOfHours 27 = .ok (.getfield 44, 3) := dz_getfield (yu2 zE_cX7_gapOfHours 0 27 (by decide +kernel))
theorem dX7_gapOfHours_30 : decode cX7_gapOfHours 30 = .ok (.if_icmp .ge 37, 3) := dz_if_icmp_ge (ys2 zE_cX7_gapOfHours 0 30 (by decide +kernel))
theorem dX7_gapOfHours_33 : decode cX7_gapOfHours 33 = .ok (.iload_n 1, 1) := dz_iload_n_1 (y0 zE_cX7_gapOfHours 0 33 (by decide +kernel))
theorem dX7_gapOfHours_34 : decode cX7_gapOfHours 34 = .ok (.aload_n 0, 1) := dz_aload_n_0 (y0 zE_cX7_gapOfHours 0 34 (by decide +kernel))
theorem dX7_gapOfHours_35 : decode cX7_gapOfHours 35 = .ok (.getfield 11, 3) := dz_getfield (yu2 zE_cX7_gapOfHours 0 35 (by decide +kernel))
theorem dX7_gapOfHours_38 : decode cX7_gapOfHours 38 = .ok (.iload_n 3, 1) := dz_iload_n_3 (y0 zE_cX7_gapOfHours 0 38 (by decide +kernel))
theorem dX7_gapOfHours_39 : decode cX7_gapOfHours 39 = .ok (.aaload, 1) := dz_aaload (y0 zE_cX7_gapOfHours 0 39 (by decide +kernel))
theorem dX7_gapOfHours_40 : decode cX7_gapOfHours 40 = .ok (.getfield 310, 3) := dz_getfield (yu2 zE_cX7_gapOfHours 0 40 (by decide +kernel))
theorem dX7_gapOfHours_43 : decode cX7_gapOfHours 43 = .ok (.invokestatic 263, 3) := dz_invokestatic (yu2 zE_cX7_gapOfHours 0 43 (by decide +kernel))
theorem dX7_gapOfHours_46 : decode cX7_gapOfHours 46 = .ok (.istore_n 1, 1) := dz_istore_n_1 (y0 zE_cX7_gapOfHours 0 46 (by decide +kernel))
theorem dX7_gapOfHours_47 : decode cX7_gapOfHours 47 = .ok (.iload_n 2, 1) := dz_iload_n_2 (y0 zE_cX7_gapOfHours 0 47 (by decide +kernel))
theorem dX7_gapOfHours_48 : decode cX7_gapOfHours 48 = .ok (.aload_n 0, 1) := dz_aload_n_0 (y0 zE_cX7_gapOfHours 0 48 (by decide +kernel))
theorem dX7_gapOfHours_49 : decode cX7_gapOfHours 49 = .ok (.getfield 11, 3) := dz_getfield (yu2 zE_cX7_gapOfHours 0 49 (by decide +kernel))
theorem dX7_gapOfHours_52 : decode cX7_gapOfHours 52 = .ok (.iload_n 3, 1) := dz_iload_n_3 (y0 zE_cX7_gapOfHours 0 52 (by decide +kernel))
theorem dX7_gapOfHours_53 : decode cX7_gapOfHours 53 = .ok (.aaload, 1) := dz_aaload (y0 zE_cX7_gapOfHours 0 53 (by decide +kernel))
theorem dX7_gapOfHours_54 : decode cX7_gapOfHours 54 = .ok (.getfield 310, 3) := dz_getfield (yu2 zE_cX7_gapOfHours 0 54 (by decide +kernel))
theorem dX7_gapOfHours_57 : decode cX7_gapOfHours 57 = .ok (.invokestatic 513, 3) := dz_invokestatic (yu2 zE_cX7_gapOfHours 0 57 (by decide +kernel))
theorem dX7_gapOfHours_60 : decode cX7_gapOfHours 60 = .ok (.istore_n 2, 1) := dz_istore_n_2 (y0 zE_cX7_gapOfHours 0 60 (by decide +kernel))
theorem dX7_gapOfHours_61 : decode cX7_gapOfHours 61 = .ok (.iinc 3 1, 3) := dz_iinc (yii zE_cX7_gapOfHours 0 61 (by decide +kernel))
theorem dX7_gapOfHours_64 : decode cX7_gapOfHours 64 = .ok (.goto (-39), 3) := dz_goto (ys2 zE_cX7_gapOfHours 1 0 (by decide +kernel))
theorem dX7_gapOfHours_67 : decode cX7_gapOfHours 67 = .ok (.iload_n 1, 1) := dz_iload_n_1 (y0 zE_cX7_gapOfHours 1 3 (by decide +kernel))
theorem dX7_gapOfHours_68 : decode cX7_gapOfHours 68 = .ok (.iload_n 2, 1) := dz_iload_n_2 (y0 zE_cX7_gapOfHours 1 4 (by decide +kernel))
theorem dX7_gapOfHours_69 : decode cX7_gapOfHours 69 = .ok (.isub, 1) := dz_isub (y0 zE_cX7_gapOfHours 1 5 (by decide +kernel))
theorem dX7_gapOfHours_70 : decode cX7_gapOfHours 70 = .ok (.ireturn, 1) := dz_ireturn (y0 zE_cX7_gapOfHours 1 6 (by decide +kernel))
def zT_cX7_shareOf : List (List Nat) := [[3, 61, 3, 62, 29, 16, 16, 162, 0, 31, 28, 42, 180, 0, 17, 29, 50, 180, 0, 139, 42, 180, 0, 17, 29, 50, 180, 1, 59, 104, 96, 61, 132, 3, 1, 167, 255, 225, 28, 154, 0, 7, 3, 167, 0, 18, 43, 180, 0, 139, 43, 180, 1, 59, 104, 17, 3, 232, 104, 28, 108, 172]]
theorem zE_cX7_shareOf : zTab cX7_shareOf.data.toList zT_cX7_shareOf = true := by decide +kernel
theorem dX7_shareOf_0 : decode cX7_shareOf 0 = .ok (.iconst 0, 1) := dz_iconst_0 (y0 zE_cX7_shareOf 0 0 (by decide +kernel))
theorem dX7_shareOf_1 : decode cX7_shareOf 1 = .ok (.istore_n 2, 1) := dz_istore_n_2 (y0 zE_cX7_shareOf 0 1 (by decide +kernel))
theorem dX7_shareOf_2 : decode cX7_shareOf 2 = .ok (.iconst 0, 1) := dz_iconst_0 (y0 zE_cX7_shareOf 0 2 (by decide +kernel))
theorem dX7_shareOf_3 : decode cX7_shareOf 3 = .ok (.istore_n 3, 1) := dz_istore_n_3 (y0 zE_cX7_shareOf 0 3 (by decide +kernel))
theorem dX7_shareOf_4 : decode cX7_shareOf 4 = .ok (.iload_n 3, 1) := dz_iload_n_3 (y0 zE_cX7_shareOf 0 4 (by decide +kernel))
theorem dX7_shareOf_5 : decode cX7_shareOf 5 = .ok (.bipush 16, 2) := dz_bipush (ys1 zE_cX7_shareOf 0 5 (by decide +kernel))
theorem dX7_shareOf_7 : decode cX7_shareOf 7 = .ok (.if_icmp .ge 31, 3) := dz_if_icmp_ge (ys2 zE_cX7_shareOf 0 7 (by decide +kernel))
theorem dX7_shareOf_10 : decode cX7_shareOf 10 = .ok (.iload_n 2, 1) := dz_iload_n_2 (y0 zE_cX7_shareOf 0 10 (by decide +kernel))
theorem dX7_shareOf_11 : decode cX7_shareOf 11 = .ok (.aload_n 0, 1) := dz_aload_n_0 (y0 zE_cX7_shareOf 0 11 (by decide +kernel))
theorem dX7_shareOf_12 : decode cX7_shareOf 12 = .ok (.getfield 17, 3) := dz_getfield (yu2 zE_cX7_shareOf 0 12 (by decide +kernel))
theorem dX7_shareOf_15 : decode cX7_shareOf 15 = .ok (.iload_n 3, 1) := dz_iload_n_3 (y0 zE_cX7_shareOf 0 15 (by decide +kernel))
theorem dX7_shareOf_16 : decode cX7_shareOf 16 = .ok (.aaload, 1) := dz_aaload (y0 zE_cX7_shareOf 0 16 (by decide +kernel))
theorem dX7_shareOf_17 : decode cX7_shareOf 17 = .ok (.getfield 139, 3) := dz_getfield (yu2 zE_cX7_shareOf 0 17 (by decide +kernel))
theorem dX7_shareOf_20 : decode cX7_shareOf 20 = .ok (.aload_n 0, 1) := dz_aload_n_0 (y0 zE_cX7_shareOf 0 20 (by decide +kernel))
theorem dX7_shareOf_21 : decode cX7_shareOf 21 = .ok (.getfield 17, 3) := dz_getfield (yu2 zE_cX7_shareOf 0 21 (by decide +kernel))
theorem dX7_shareOf_24 : decode cX7_shareOf 24 = .ok (.iload_n 3, 1) := dz_iload_n_3 (y0 zE_cX7_shareOf 0 24 (by decide +kernel))
theorem dX7_shareOf_25 : decode cX7_shareOf 25 = .ok (.aaload, 1) := dz_aaload (y0 zE_cX7_shareOf 0 25 (by decide +kernel))
theorem dX7_shareOf_26 : decode cX7_shareOf 26 = .ok (.getfield 315, 3) := dz_getfield (yu2 zE_cX7_shareOf 0 26 (by decide +kernel))
theorem dX7_shareOf_29 : decode cX7_shareOf 29 = .ok (.imul, 1) := dz_imul (y0 zE_cX7_shareOf 0 29 (by decide +kernel))
theorem dX7_shareOf_30 : decode cX7_shareOf 30 = .ok (.iadd, 1) := dz_iadd (y0 zE_cX7_shareOf 0 30 (by decide +kernel))
theorem dX7_shareOf_31 : decode cX7_shareOf 31 = .ok (.istore_n 2, 1) := dz_istore_n_2 (y0 zE_cX7_shareOf 0 31 (by decide +kernel))
theorem dX7_shareOf_32 : decode cX7_shareOf 32 = .ok (.iinc 3 1, 3) := dz_iinc (yii zE_cX7_shareOf 0 32 (by decide +kernel))
theorem dX7_shareOf_35 : decode cX7_shareOf 35 = .ok (.goto (-31), 3) := dz_goto (ys2 zE_cX7_shareOf 0 35 (by decide +kernel))
theorem dX7_shareOf_38 : decode cX7_shareOf 38 = .ok (.iload_n 2, 1) := dz_iload_n_2 (y0 zE_cX7_shareOf 0 38 (by decide +kernel))
theorem dX7_shareOf_39 : decode cX7_shareOf 39 = .ok (.ifCond .ne 7, 3) := dz_ifCond_ne (ys2 zE_cX7_shareOf 0 39 (by decide +kernel))
theorem dX7_shareOf_42 : decode cX7_shareOf 42 = .ok (.iconst 0, 1) := dz_iconst_0 (y0 zE_cX7_shareOf 0 42 (by decide +kernel))
theorem dX7_shareOf_43 : decode cX7_shareOf 43 = .ok (.goto 18, 3) := dz_goto (ys2 zE_cX7_shareOf 0 43 (by decide +kernel))
theorem dX7_shareOf_46 : decode cX7_shareOf 46 = .ok (.aload_n 1, 1) := dz_aload_n_1 (y0 zE_cX7_shareOf 0 46 (by decide +kernel))
theorem dX7_shareOf_47 : decode cX7_shareOf 47 = .ok (.getfield 139, 3) := dz_getfield (yu2 zE_cX7_shareOf 0 47 (by decide +kernel))
theorem dX7_shareOf_50 : decode cX7_shareOf 50 = .ok (.aload_n 1, 1) := dz_aload_n_1 (y0 zE_cX7_shareOf 0 50 (by decide +kernel))
theorem dX7_shareOf_51 : decode cX7_shareOf 51 = .ok (.getfield 315, 3) := dz_getfield (yu2 zE_cX7_shareOf 0 51 (by decide +kernel))
theorem dX7_shareOf_54 : decode cX7_shareOf 54 = .ok (.imul, 1) := dz_imul (y0 zE_cX7_shareOf 0 54 (by decide +kernel))
theorem dX7_shareOf_55 : decode cX7_shareOf 55 = .ok (.sipush 1000, 3) := dz_sipush (ys2 zE_cX7_shareOf 0 55 (by decide +kernel))
theorem dX7_shareOf_58 : decode cX7_shareOf 58 = .ok (.imul, 1) := dz_imul (y0 zE_cX7_shareOf 0 58 (by decide +kernel))
theorem dX7_shareOf_59 : decode cX7_shareOf 59 = .ok (.iload_n 2, 1) := dz_iload_n_2 (y0 zE_cX7_shareOf 0 59 (by decide +kernel))
theorem dX7_shareOf_60 : decode cX7_shareOf 60 = .ok (.idiv, 1) := dz_idiv (y0 zE_cX7_shareOf 0 60 (by decide +kernel))
theorem dX7_shareOf_61 : decode cX7_shareOf 61 = .ok (.ireturn, 1) := dz_ireturn (y0 zE_cX7_shareOf 0 61 (by decide +kernel))
def zT_cX7_nameOfState : List (List Nat) := [[26, 170, 0, 0, 0, 0, 0, 39, 0, 0, 0, 0, 0, 0, 0, 2, 0, 0, 0, 27, 0, 0, 0, 31, 0, 0, 0, 35, 19, 2, 31, 176, 19, 2, 33, 176, 19, 2, 35, 176, 19, 2, 36, 176]]
theorem zE_cX7_nameOfState : zTab cX7_nameOfState.data.toList zT_cX7_nameOfState = true := by decide +kernel
theorem dX7_nameOfState_0 : decode cX7_nameOfState 0 = .ok (.iload_n 0, 1) := dz_iload_n_0 (y0 zE_cX7_nameOfState 0 0 (by decide +kernel))
theorem dX7_nameOfState_1 : decode cX7_nameOfState 1 = .ok (.tableswitch 39 0 2 #[27, 31, 35], 27) := dkT (by decide +kernel)
theorem dX7_nameOfState_28 : decode cX7_nameOfState 28 = .ok (.ldc_w 543, 3) := dz_ldc_w (yu2 zE_cX7_nameOfState 0 28 (by decide +kernel))
theorem dX7_nameOfState_31 : decode cX7_nameOfState 31 = .ok (.areturn, 1) := dz_areturn (y0 zE_cX7_nameOfState 0 31 (by decide +kernel))
theorem dX7_nameOfState_32 : decode cX7_nameOfState 32 = .ok (.ldc_w 545, 3) := dz_ldc_w (yu2 zE_cX7_nameOfState 0 32 (by decide +kernel))
theorem dX7_nameOfState_35 : decode cX7_nameOfState 35 = .ok (.areturn, 1) := dz_areturn (y0 zE_cX7_nameOfState 0 35 (by decide +kernel))
theorem dX7_nameOfState_36 : decode cX7_nameOfState 36 = .ok (.ldc_w 547, 3) := dz_ldc_w (yu2 zE_cX7_nameOfState 0 36 (by decide +kernel))
theorem dX7_nameOfState_39 : decode cX7_nameOfState 39 = .ok (.areturn, 1) := dz_areturn (y0 zE_cX7_nameOfState 0 39 (by decide +kernel))
theorem dX7_nameOfState_40 : decode cX7_nameOfState 40 = .ok (.ldc_w 548, 3) := dz_ldc_w (yu2 zE_cX7_nameOfState 0 40 (by decide +kernel))
theorem dX7_nameOfState_43 : decode cX7_nameOfState 43 = .ok (.areturn, 1) := dz_areturn (y0 zE_cX7_nameOfState 0 43 (by decide +kernel))
theorem gd_wsX7_appendPlayers : wsX7_appendPlayers.all goodWord = true := by decide +kernel
set_option maxRecDepth 20000 in
theorem ggX7_appendPlayers_X7_has : GoodIn wsX7_appendPlayers wsX7_has := gi_q gd_wsX7_appendPlayers _ [(5, 1)] rfl
set_option maxRecDepth 20000 in
theorem gX7_appendPlayers_X7_has : GoodIn wsX7_appendPlayers (va_wsS RX7 153 yX7_has wsX7_has) := goodIn_app (gi_q gd_wsX7_appendPlayers _ [(2, 3)] rfl) ggX7_appendPlayers_X7_has
set_option maxRecDepth 20000 in
theorem ggX7_appendPlayers_J4_append_15ec4 : GoodIn wsX7_appendPlayers wsJ4_append_15ec4 := gi_q gd_wsX7_appendPlayers _ [(10, 143), (193, 8)] rfl
set_option maxRecDepth 20000 in
theorem gX7_appendPlayers_J4_append_15ec4 : GoodIn wsX7_appendPlayers (wsV RX7 402 RJ4 yJ4_append_15ec4 wsJ4_append_15ec4) := goodIn_app (gi_q gd_wsX7_appendPlayers _ [(6, 4)] rfl) ggX7_appendPlayers_J4_append_15ec4
set_option maxRecDepth 20000 in
theorem ggX7_appendPlayers_J4_append_bf812 : GoodIn wsX7_appendPlayers wsJ4_append_bf812 := gi_q gd_wsX7_appendPlayers _ [(156, 3), (13, 1), (159, 1), (15, 1), (160, 1), (17, 1), (23, 1), (161, 4), (24, 48), (165, 7), (74, 1), (172, 1), (76, 16), (173, 5), (92, 5), (193, 4)] rfl
set_option maxRecDepth 20000 in
theorem gX7_appendPlayers_J4_append_bf812 : GoodIn wsX7_appendPlayers (wsV RX7 376 RJ4 yJ4_append_bf812 wsJ4_append_bf812) := goodIn_app (gi_q gd_wsX7_appendPlayers _ [(153, 3), (9, 1)] rfl) ggX7_appendPlayers_J4_append_bf812
def zT_cX7_appendPlayers : List (List Nat) := [[4, 62, 3, 54, 4, 21, 4, 42, 180, 0, 44, 162, 0, 43, 28, 21, 4, 184, 0, 153, 153, 0, 28, 43, 29, 153, 0, 9, 19, 2, 38, 167, 0, 6, 19, 2, 40, 182, 1, 146, 21, 4, 182, 1, 120, 87, 3, 62, 132, 4, 1, 167, 255, 210, 177]]
theorem zE_cX7_appendPlayers : zTab cX7_appendPlayers.data.toList zT_cX7_appendPlayers = true := by decide +kernel
theorem dX7_appendPlayers_0 : decode cX7_appendPlayers 0 = .ok (.iconst 1, 1) := dz_iconst_1 (y0 zE_cX7_appendPlayers 0 0 (by decide +kernel))
theorem dX7_appendPlayers_1 : decode cX7_appendPlayers 1 = .ok (.istore_n 3, 1) := dz_istore_n_3 (y0 zE_cX7_appendPlayers 0 1 (by decide +kernel))
theorem dX7_appendPlayers_2 : decode cX7_appendPlayers 2 = .ok (.iconst 0, 1) := dz_iconst_0 (y0 zE_cX7_appendPlayers 0 2 (by decide +kernel))
theorem dX7_appendPlayers_3 : decode cX7_appendPlayers 3 = .ok (.istore 4, 2) := dz_istore (yu1 zE_cX7_appendPlayers 0 3 (by decide +kernel))
theorem dX7_appendPlayers_5 : decode cX7_appendPlayers 5 = .ok (.iload 4, 2) := dz_iload (yu1 zE_cX7_appendPlayers 0 5 (by decide +kernel))
theorem dX7_appendPlayers_7 : decode cX7_appendPlayers 7 = .ok (.aload_n 0, 1) := dz_aload_n_0 (y0 zE_cX7_appendPlayers 0 7 (by decide +kernel))
theorem dX7_appendPlayers_8 : decode cX7_appendPlayers 8 = .ok (.getfield 44, 3) := dz_getfield (yu2 zE_cX7_appendPlayers 0 8 (by decide +kernel))
theorem dX7_appendPlayers_11 : decode cX7_appendPlayers 11 = .ok (.if_icmp .ge 43, 3) := dz_if_icmp_ge (ys2 zE_cX7_appendPlayers 0 11 (by decide +kernel))
theorem dX7_appendPlayers_14 : decode cX7_appendPlayers 14 = .ok (.iload_n 2, 1) := dz_iload_n_2 (y0 zE_cX7_appendPlayers 0 14 (by decide +kernel))
theorem dX7_appendPlayers_15 : decode cX7_appendPlayers 15 = .ok (.iload 4, 2) := dz_iload (yu1 zE_cX7_appendPlayers 0 15 (by decide +kernel))
theorem dX7_appendPlayers_17 : decode cX7_appendPlayers 17 = .ok (.invokestatic 153, 3) := dz_invokestatic (yu2 zE_cX7_appendPlayers 0 17 (by decide +kernel))
theorem dX7_appendPlayers_20 : decode cX7_appendPlayers 20 = .ok (.ifCond .eq 28, 3) := dz_ifCond_eq (ys2 zE_cX7_appendPlayers 0 20 (by decide +kernel))
theorem dX7_appendPlayers_23 : decode cX7_appendPlayers 23 = .ok (.aload_n 1, 1) := dz_aload_n_1 (y0 zE_cX7_appendPlayers 0 23 (by decide +kernel))
theorem dX7_appendPlayers_24 : decode cX7_appendPlayers 24 = .ok (.iload_n 3, 1) := dz_iload_n_3 (y0 zE_cX7_appendPlayers 0 24 (by decide +kernel))
theorem dX7_appendPlayers_25 : decode cX7_appendPlayers 25 = .ok (.ifCond .eq 9, 3) := dz_ifCond_eq (ys2 zE_cX7_appendPlayers 0 25 (by decide +kernel))
theorem dX7_appendPlayers_28 : decode cX7_appendPlayers 28 = .ok (.ldc_w 550, 3) := dz_ldc_w (yu2 zE_cX7_appendPlayers 0 28 (by decide +kernel))
theorem dX7_appendPlayers_31 : decode cX7_appendPlayers 31 = .ok (.goto 6, 3) := dz_goto (ys2 zE_cX7_appendPlayers 0 31 (by decide +kernel))
theorem dX7_appendPlayers_34 : decode cX7_appendPlayers 34 = .ok (.ldc_w 552, 3) := dz_ldc_w (yu2 zE_cX7_appendPlayers 0 34 (by decide +kernel))
theorem dX7_appendPlayers_37 : decode cX7_appendPlayers 37 = .ok (.invokevirtual 402, 3) := dz_invokevirtual (yu2 zE_cX7_appendPlayers 0 37 (by decide +kernel))
theorem dX7_appendPlayers_40 : decode cX7_appendPlayers 40 = .ok (.iload 4, 2) := dz_iload (yu1 zE_cX7_appendPlayers 0 40 (by decide +kernel))
theorem dX7_appendPlayers_42 : decode cX7_appendPlayers 42 = .ok (.invokevirtual 376, 3) := dz_invokevirtual (yu2 zE_cX7_appendPlayers 0 42 (by decide +kernel))
theorem dX7_appendPlayers_45 : decode cX7_appendPlayers 45 = .ok (.pop, 1) := dz_pop (y0 zE_cX7_appendPlayers 0 45 (by decide +kernel))
theorem dX7_appendPlayers_46 : decode cX7_appendPlayers 46 = .ok (.iconst 0, 1) := dz_iconst_0 (y0 zE_cX7_appendPlayers 0 46 (by decide +kernel))
theorem dX7_appendPlayers_47 : decode cX7_appendPlayers 47 = .ok (.istore_n 3, 1) := dz_istore_n_3 (y0 zE_cX7_appendPlayers 0 47 (by decide +kernel))
theorem dX7_appendPlayers_48 : decode cX7_appendPlayers 48 = .ok (.iinc 4 1, 3) := dz_iinc (yii zE_cX7_appendPlayers 0 48 (by decide +kernel))
theorem dX7_appendPlayers_51 : decode cX7_appendPlayers 51 = .ok (.goto (-46), 3) := dz_goto (ys2 zE_cX7_appendPlayers 0 51 (by decide +kernel))
theorem dX7_appendPlayers_54 : decode cX7_appendPlayers 54 = .ok (.return_, 1) := dz_return (y0 zE_cX7_appendPlayers 0 54 (by decide +kernel))
theorem gd_wsX7_areFixedOnesSound : wsX7_areFixedOnesSound.all goodWord = true := by decide +kernel
set_option maxRecDepth 20000 in
theorem ggX7_areFixedOnesSound_X7_isFixedOneSound : GoodIn wsX7_areFixedOnesSound wsX7_isFixedOneSound := gi_q gd_wsX7_areFixedOnesSound _ [(8, 1), (2, 1), (9, 4), (3, 1), (13, 38)] rfl
set_option maxRecDepth 20000 in
theorem gX7_areFixedOnesSound_X7_isFixedOneSound : GoodIn wsX7_areFixedOnesSound (wsV RX7 554 RX7 yX7_isFixedOneSound wsX7_isFixedOneSound) := goodIn_app (gi_q gd_wsX7_areFixedOnesSound _ [(4, 4)] rfl) ggX7_areFixedOnesSound_X7_isFixedOneSound
def zT_cX7_areFixedOnesSound : List (List Nat) := [[3, 60, 27, 42, 180, 0, 51, 162, 0, 32, 42, 180, 0, 29, 27, 50, 180, 0, 233, 4, 160, 0, 13, 42, 27, 182, 2, 42, 154, 0, 5, 3, 172, 132, 1, 1, 167, 255, 222, 4, 172]]
theorem zE_cX7_areFixedOnesSound : zTab cX7_areFixedOnesSound.data.toList zT_cX7_areFixedOnesSound = true := by decide +kernel
theorem dX7_areFixedOnesSound_0 : decode cX7_areFixedOnesSound 0 = .ok (.iconst 0, 1) := dz_iconst_0 (y0 zE_cX7_areFixedOnesSound 0 0 (by decide +kernel))
theorem dX7_areFixedOnesSound_1 : decode cX7_areFixedOnesSound 1 = .ok (.istore_n 1, 1) := dz_istore_n_1 (y0 zE_cX7_areFixedOnesSound 0 1 (by decide +kernel))
theorem dX7_areFixedOnesSound_2 : decode cX7_areFixedOnesSound 2 = .ok (.iload_n 1, 1) := dz_iload_n_1 (y0 zE_cX7_areFixedOnesSound 0 2 (by decide +kernel))
theorem dX7_areFixedOnesSound_3 : decode cX7_areFixedOnesSound 3 = .ok (.aload_n 0, 1) := dz_aload_n_0 (y0 zE_cX7_areFixedOnesSound 0 3 (by decide +kernel))
theorem dX7_areFixedOnesSound_4 : decode cX7_areFixedOnesSound 4 = .ok (.getfield 51, 3) := dz_getfield (yu2 zE_cX7_areFixedOnesSound 0 4 (by decide +kernel))
theorem dX7_areFixedOnesSound_7 : decode cX7_areFixedOnesSound 7 = .ok (.if_icmp .ge 32, 3) := dz_if_icmp_ge (ys2 zE_cX7_areFixedOnesSound 0 7 (by decide +kernel))
theorem dX7_areFixedOnesSound_10 : decode cX7_areFixedOnesSound 10 = .ok (.aload_n 0, 1) := dz_aload_n_0 (y0 zE_cX7_areFixedOnesSound 0 10 (by decide +kernel))
theorem dX7_areFixedOnesSound_11 : decode cX7_areFixedOnesSound 11 = .ok (.getfield 29, 3) := dz_getfield (yu2 zE_cX7_areFixedOnesSound 0 11 (by decide +kernel))
theorem dX7_areFixedOnesSound_14 : decode cX7_areFixedOnesSound 14 = .ok (.iload_n 1, 1) := dz_iload_n_1 (y0 zE_cX7_areFixedOnesSound 0 14 (by decide +kernel))
theorem dX7_areFixedOnesSound_15 : decode cX7_areFixedOnesSound 15 = .ok (.aaload, 1) := dz_aaload (y0 zE_cX7_areFixedOnesSound 0 15 (by decide +kernel))
theorem dX7_areFixedOnesSound_16 : decode cX7_areFixedOnesSound 16 = .ok (.getfield 233, 3) := dz_getfield (yu2 zE_cX7_areFixedOnesSound 0 16 (by decide +kernel))
theorem dX7_areFixedOnesSound_19 : decode cX7_areFixedOnesSound 19 = .ok (.iconst 1, 1) := dz_iconst_1 (y0 zE_cX7_areFixedOnesSound 0 19 (by decide +kernel))
theorem dX7_areFixedOnesSound_20 : decode cX7_areFixedOnesSound 20 = .ok (.if_icmp .ne 13, 3) := dz_if_icmp_ne (ys2 zE_cX7_areFixedOnesSound 0 20 (by decide +kernel))
theorem dX7_areFixedOnesSound_23 : decode cX7_areFixedOnesSound 23 = .ok (.aload_n 0, 1) := dz_aload_n_0 (y0 zE_cX7_areFixedOnesSound 0 23 (by decide +kernel))
theorem dX7_areFixedOnesSound_24 : decode cX7_areFixedOnesSound 24 = .ok (.iload_n 1, 1) := dz_iload_n_1 (y0 zE_cX7_areFixedOnesSound 0 24 (by decide +kernel))
theorem dX7_areFixedOnesSound_25 : decode cX7_areFixedOnesSound 25 = .ok (.invokevirtual 554, 3) := dz_invokevirtual (yu2 zE_cX7_areFixedOnesSound 0 25 (by decide +kernel))
theorem dX7_areFixedOnesSound_28 : decode cX7_areFixedOnesSound 28 = .ok (.ifCond .ne 5, 3) := dz_ifCond_ne (ys2 zE_cX7_areFixedOnesSound 0 28 (by decide +kernel))
theorem dX7_areFixedOnesSound_31 : decode cX7_areFixedOnesSound 31 = .ok (.iconst 0, 1) := dz_iconst_0 (y0 zE_cX7_areFixedOnesSound 0 31 (by decide +kernel))
theorem dX7_areFixedOnesSound_32 : decode cX7_areFixedOnesSound 32 = .ok (.ireturn, 1) := dz_ireturn (y0 zE_cX7_areFixedOnesSound 0 32 (by decide +kernel))
theorem dX7_areFixedOnesSound_33 : decode cX7_areFixedOnesSound 33 = .ok (.iinc 1 1, 3) := dz_iinc (yii zE_cX7_areFixedOnesSound 0 33 (by decide +kernel))
theorem dX7_areFixedOnesSound_36 : decode cX7_areFixedOnesSound 36 = .ok (.goto (-34), 3) := dz_goto (ys2 zE_cX7_areFixedOnesSound 0 36 (by decide +kernel))
theorem dX7_areFixedOnesSound_39 : decode cX7_areFixedOnesSound 39 = .ok (.iconst 1, 1) := dz_iconst_1 (y0 zE_cX7_areFixedOnesSound 0 39 (by decide +kernel))
theorem dX7_areFixedOnesSound_40 : decode cX7_areFixedOnesSound 40 = .ok (.ireturn, 1) := dz_ireturn (y0 zE_cX7_areFixedOnesSound 0 40 (by decide +kernel))
theorem gd_wsX7_isFixedOneSound : wsX7_isFixedOneSound.all goodWord = true := by decide +kernel
set_option maxRecDepth 20000 in
theorem ggX7_isFixedOneSound_J6_bitCount_0f7a4 : GoodIn wsX7_isFixedOneSound wsJ6_bitCount_0f7a4 := gi_q gd_wsX7_isFixedOneSound _ [(11, 4)] rfl
set_option maxRecDepth 20000 in
theorem gX7_isFixedOneSound_J6_bitCount_0f7a4 : GoodIn wsX7_isFixedOneSound (va_wsS RX7 128 yJ6_bitCount_0f7a4 wsJ6_bitCount_0f7a4) := goodIn_app (gi_q gd_wsX7_isFixedOneSound _ [(8, 3)] rfl) ggX7_isFixedOneSound_J6_bitCount_0f7a4
def zT_cX7_isFixedOneSound : List (List Nat) := [[42, 180, 0, 29, 27, 50, 77, 44, 180, 0, 239, 184, 0, 128, 42, 180, 0, 23, 44, 180, 0, 193, 50, 180, 1, 74, 159, 0, 5, 3, 172, 3, 62, 29, 27, 162, 0, 52, 42, 180, 0, 29, 29, 50, 58, 4, 25, 4, 180, 0, 233, 4, 160, 0, 29, 25, 4, 180, 0, 193, 44, 180, 0, 193, 160, 0, 17, 25], [160, 0, 17, 25, 4, 180, 0, 196, 44, 180, 0, 196, 160, 0, 5, 3, 172, 132, 3, 1, 167, 255, 205, 4, 172]]
theorem zE_cX7_isFixedOneSound : zTab cX7_isFixedOneSound.data.toList zT_cX7_isFixedOneSound = true := by decide +kernel
theorem dX7_isFixedOneSound_0 : decode cX7_isFixedOneSound 0 = .ok (.aload_n 0, 1) := dz_aload_n_0 (y0 zE_cX7_isFixedOneSound 0 0 (by decide +kernel))
theorem dX7_isFixedOneSound_1 : decode cX7_isFixedOneSound 1 = .ok (.getfield 29, 3) := dz_getfield (yu2 zE_cX7_isFixedOneSound 0 1 (by decide +kernel))
theorem dX7_isFixedOneSound_4 : decode cX7_isFixedOneSound 4 = .ok (.iload_n 1, 1) := dz_iload_n_1 (y0 zE_cX7_isFixedOneSound 0 4 (by decide +kernel))
theorem dX7_isFixedOneSound_5 : decode cX7_isFixedOneSound 5 = .ok (.aaload, 1) := dz_aaload (y0 zE_cX7_isFixedOneSound 0 5 (by decide +kernel))
theorem dX7_isFixedOneSound_6 : decode cX7_isFixedOneSound 6 = .ok (.astore_n 2, 1) := dz_astore_n_2 (y0 zE_cX7_isFixedOneSound 0 6 (by decide +kernel))
theorem dX7_isFixedOneSound_7 : decode cX7_isFixedOneSound 7 = .ok (.aload_n 2, 1) := dz_aload_n_2 (y0 zE_cX7_isFixedOneSound 0 7 (by decide +kernel))
theorem dX7_isFixedOneSound_8 : decode cX7_isFixedOneSound 8 = .ok (.getfield 239, 3) := dz_getfield (yu2 zE_cX7_isFixedOneSound 0 8 (by decide +kernel))
theorem dX7_isFixedOneSound_11 : decode cX7_isFixedOneSound 11 = .ok (.invokestatic 128, 3) := dz_invokestatic (yu2 zE_cX7_isFixedOneSound 0 11 (by decide +kernel))
theorem dX7_isFixedOneSound_14 : decode cX7_isFixedOneSound 14 = .ok (.aload_n 0, 1) := dz_aload_n_0 (y0 zE_cX7_isFixedOneSound 0 14 (by decide +kernel))
theorem dX7_isFixedOneSound_15 : decode cX7_isFixedOneSound 15 = .ok (.getfield 23, 3) := dz_getfield (yu2 zE_cX7_isFixedOneSound 0 15 (by decide +kernel))
theorem dX7_isFixedOneSound_18 : decode cX7_isFixedOneSound 18 = .ok (.aload_n 2, 1) := dz_aload_n_2 (y0 zE_cX7_isFixedOneSound 0 18 (by decide +kernel))
theorem dX7_isFixedOneSound_19 : decode cX7_isFixedOneSound 19 = .ok (.getfield 193, 3) := dz_getfield (yu2 zE_cX7_isFixedOneSound 0 19 (by decide +kernel))
theorem dX7_isFixedOneSound_22 : decode cX7_isFixedOneSound 22 = .ok (.aaload, 1) := dz_aaload (y0 zE_cX7_isFixedOneSound 0 22 (by decide +kernel))
theorem dX7_isFixedOneSound_23 : decode cX7_isFixedOneSound 23 = .ok (.getfield 330, 3) := dz_getfield (yu2 zE_cX7_isFixedOneSound 0 23 (by decide +kernel))
theorem dX7_isFixedOneSound_26 : decode cX7_isFixedOneSound 26 = .ok (.if_icmp .eq 5, 3) := dz_if_icmp_eq (ys2 zE_cX7_isFixedOneSound 0 26 (by decide +kernel))
theorem dX7_isFixedOneSound_29 : decode cX7_isFixedOneSound 29 = .ok (.iconst 0, 1) := dz_iconst_0 (y0 zE_cX7_isFixedOneSound 0 29 (by decide +kernel))
theorem dX7_isFixedOneSound_30 : decode cX7_isFixedOneSound 30 = .ok (.ireturn, 1) := dz_ireturn (y0 zE_cX7_isFixedOneSound 0 30 (by decide +kernel))
theorem dX7_isFixedOneSound_31 : decode cX7_isFixedOneSound 31 = .ok (.iconst 0, 1) := dz_iconst_0 (y0 zE_cX7_isFixedOneSound 0 31 (by decide +kernel))
theorem dX7_isFixedOneSound_32 : decode cX7_isFixedOneSound 32 = .ok (.istore_n 3, 1) := dz_istore_n_3 (y0 zE_cX7_isFixedOneSound 0 32 (by decide +kernel))
theorem dX7_isFixedOneSound_33 : decode cX7_isFixedOneSound 33 = .ok (.iload_n 3, 1) := dz_iload_n_3 (y0 zE_cX7_isFixedOneSound 0 33 (by decide +kernel))
theorem dX7_isFixedOneSound_34 : decode cX7_isFixedOneSound 34 = .ok (.iload_n 1, 1) := dz_iload_n_1 (y0 zE_cX7_isFixedOneSound 0 34 (by decide +kernel))
theorem dX7_isFixedOneSound_35 : decode cX7_isFixedOneSound 35 = .ok (.if_icmp .ge 52, 3) := dz_if_icmp_ge (ys2 zE_cX7_isFixedOneSound 0 35 (by decide +kernel))
theorem dX7_isFixedOneSound_38 : decode cX7_isFixedOneSound 38 = .ok (.aload_n 0, 1) := dz_aload_n_0 (y0 zE_cX7_isFixedOneSound 0 38 (by decide +kernel))
theorem dX7_isFixedOneSound_39 : decode cX7_isFixedOneSound 39 = .ok (.getfield 29, 3) := dz_getfield (yu2 zE_cX7_isFixedOneSound 0 39 (by decide +kernel))
theorem dX7_isFixedOneSound_42 : decode cX7_isFixedOneSound 42 = .ok (.iload_n 3, 1) := dz_iload_n_3 (y0 zE_cX7_isFixedOneSound 0 42 (by decide +kernel))
theorem dX7_isFixedOneSound_43 : decode cX7_isFixedOneSound 43 = .ok (.aaload, 1) := dz_aaload (y0 zE_cX7_isFixedOneSound 0 43 (by decide +kernel))
theorem dX7_isFixedOneSound_44 : decode cX7_isFixedOneSound 44 = .ok (.astore 4, 2) := dz_astore (yu1 zE_cX7_isFixedOneSound 0 44 (by decide +kernel))
theorem dX7_isFixedOneSound_46 : decode cX7_isFixedOneSound 46 = .ok (.aload 4, 2) := dz_aload (yu1 zE_cX7_isFixedOneSound 0 46 (by decide +kernel))
theorem dX7_isFixedOneSound_48 : decode cX7_isFixedOneSound 48 = .ok (.getfield 233, 3) := dz_getfield (yu2 zE_cX7_isFixedOneSound 0 48 (by decide +kernel))
theorem dX7_isFixedOneSound_51 : decode cX7_isFixedOneSound 51 = .ok (.iconst 1, 1) := dz_iconst_1 (y0 zE_cX7_isFixedOneSound 0 51 (by decide +kernel))
theorem dX7_isFixedOneSound_52 : decode cX7_isFixedOneSound 52 = .ok (.if_icmp .ne 29, 3) := dz_if_icmp_ne (ys2 zE_cX7_isFixedOneSound 0 52 (by decide +kernel))
theorem dX7_isFixedOneSound_55 : decode cX7_isFixedOneSound 55 = .ok (.aload 4, 2) := dz_aload (yu1 zE_cX7_isFixedOneSound 0 55 (by decide +kernel))
theorem dX7_isFixedOneSound_57 : decode cX7_isFixedOneSound 57 = .ok (.getfield 193, 3) := dz_getfield (yu2 zE_cX7_isFixedOneSound 0 57 (by decide +kernel))
theorem dX7_isFixedOneSound_60 : decode cX7_isFixedOneSound 60 = .ok (.aload_n 2, 1) := dz_aload_n_2 (y0 zE_cX7_isFixedOneSound 0 60 (by decide +kernel))
theorem dX7_isFixedOneSound_61 : decode cX7_isFixedOneSound 61 = .ok (.getfield 193, 3) := dz_getfield (yu2 zE_cX7_isFixedOneSound 0 61 (by decide +kernel))
theorem dX7_isFixedOneSound_64 : decode cX7_isFixedOneSound 64 = .ok (.if_icmp .ne 17, 3) := dz_if_icmp_ne (ys2 zE_cX7_isFixedOneSound 1 0 (by decide +kernel))
theorem dX7_isFixedOneSound_67 : decode cX7_isFixedOneSound 67 = .ok (.aload 4, 2) := dz_aload (yu1 zE_cX7_isFixedOneSound 1 3 (by decide +kernel))
theorem dX7_isFixedOneSound_69 : decode cX7_isFixedOneSound 69 = .ok (.getfield 196, 3) := dz_getfield (yu2 zE_cX7_isFixedOneSound 1 5 (by decide +kernel))
theorem dX7_isFixedOneSound_72 : decode cX7_isFixedOneSound 72 = .ok (.aload_n 2, 1) := dz_aload_n_2 (y0 zE_cX7_isFixedOneSound 1 8 (by decide +kernel))
theorem dX7_isFixedOneSound_73 : decode cX7_isFixedOneSound 73 = .ok (.getfield 196, 3) := dz_getfield (yu2 zE_cX7_isFixedOneSound 1 9 (by decide +kernel))
theorem dX7_isFixedOneSound_76 : decode cX7_isFixedOneSound 76 = .ok (.if_icmp .ne 5, 3) := dz_if_icmp_ne (ys2 zE_cX7_isFixedOneSound 1 12 (by decide +kernel))
theorem dX7_isFixedOneSound_79 : decode cX7_isFixedOneSound 79 = .ok (.iconst 0, 1) := dz_iconst_0 (y0 zE_cX7_isFixedOneSound 1 15 (by decide +kernel))
theorem dX7_isFixedOneSound_80 : decode cX7_isFixedOneSound 80 = .ok (.ireturn, 1) := dz_ireturn (y0 zE_cX7_isFixedOneSound 1 16 (by decide +kernel))
theorem dX7_isFixedOneSound_81 : decode cX7_isFixedOneSound 81 = .ok (.iinc 3 1, 3) := dz_iinc (yii zE_cX7_isFixedOneSound 1 17 (by decide +kernel))
theorem dX7_isFixedOneSound_84 : decode cX7_isFixedOneSound 84 = .ok (.goto (-51), 3) := dz_goto (ys2 zE_cX7_isFixedOneSound 1 20 (by decide +kernel))
theorem dX7_isFixedOneSound_87 : decode cX7_isFixedOneSound 87 = .ok (.iconst 1, 1) := dz_iconst_1 (y0 zE_cX7_isFixedOneSound 1 23 (by decide +kernel))
theorem dX7_isFixedOneSound_88 : decode cX7_isFixedOneSound 88 = .ok (.ireturn, 1) := dz_ireturn (y0 zE_cX7_isFixedOneSound 1 24 (by decide +kernel))
theorem gd_wsX7_isCashSound : wsX7_isCashSound.all goodWord = true := by decide +kernel
set_option maxRecDepth 20000 in
theorem ggX7_isCashSound_X7_allEarned : GoodIn wsX7_isCashSound wsX7_allEarned := gi_q gd_wsX7_isCashSound _ [(9, 19), (40, 8)] rfl
set_option maxRecDepth 20000 in
theorem gX7_isCashSound_X7_allEarned : GoodIn wsX7_isCashSound (wsV RX7 389 RX7 yX7_allEarned wsX7_allEarned) := goodIn_app (gi_q gd_wsX7_isCashSound _ [(5, 4)] rfl) ggX7_isCashSound_X7_allEarned
def zT_cX7_isCashSound : List (List Nat) := [[3, 60, 3, 61, 28, 42, 180, 0, 51, 162, 0, 21, 27, 42, 180, 0, 29, 28, 50, 180, 1, 4, 96, 60, 132, 2, 1, 167, 255, 233, 42, 180, 0, 57, 27, 42, 182, 1, 133, 100, 160, 0, 7, 4, 167, 0, 4, 3, 172]]
theorem zE_cX7_isCashSound : zTab cX7_isCashSound.data.toList zT_cX7_isCashSound = true := by decide +kernel
theorem dX7_isCashSound_0 : decode cX7_isCashSound 0 = .ok (.iconst 0, 1) := dz_iconst_0 (y0 zE_cX7_isCashSound 0 0 (by decide +kernel))
theorem dX7_isCashSound_1 : decode cX7_isCashSound 1 = .ok (.istore_n 1, 1) := dz_istore_n_1 (y0 zE_cX7_isCashSound 0 1 (by decide +kernel))
theorem dX7_isCashSound_2 : decode cX7_isCashSound 2 = .ok (.iconst 0, 1) := dz_iconst_0 (y0 zE_cX7_isCashSound 0 2 (by decide +kernel))
theorem dX7_isCashSound_3 : decode cX7_isCashSound 3 = .ok (.istore_n 2, 1) := dz_istore_n_2 (y0 zE_cX7_isCashSound 0 3 (by decide +kernel))
theorem dX7_isCashSound_4 : decode cX7_isCashSound 4 = .ok (.iload_n 2, 1) := dz_iload_n_2 (y0 zE_cX7_isCashSound 0 4 (by decide +kernel))
theorem dX7_isCashSound_5 : decode cX7_isCashSound 5 = .ok (.aload_n 0, 1) := dz_aload_n_0 (y0 zE_cX7_isCashSound 0 5 (by decide +kernel))
theorem dX7_isCashSound_6 : decode cX7_isCashSound 6 = .ok (.getfield 51, 3) := dz_getfield (yu2 zE_cX7_isCashSound 0 6 (by decide +kernel))
theorem dX7_isCashSound_9 : decode cX7_isCashSound 9 = .ok (.if_icmp .ge 21, 3) := dz_if_icmp_ge (ys2 zE_cX7_isCashSound 0 9 (by decide +kernel))
theorem dX7_isCashSound_12 : decode cX7_isCashSound 12 = .ok (.iload_n 1, 1) := dz_iload_n_1 (y0 zE_cX7_isCashSound 0 12 (by decide +kernel))
theorem dX7_isCashSound_13 : decode cX7_isCashSound 13 = .ok (.aload_n 0, 1) := dz_aload_n_0 (y0 zE_cX7_isCashSound 0 13 (by decide +kernel))
theorem dX7_isCashSound_14 : decode cX7_isCashSound 14 = .ok (.getfield 29, 3) := dz_getfield (yu2 zE_cX7_isCashSound 0 14 (by decide +kernel))
theorem dX7_isCashSound_17 : decode cX7_isCashSound 17 = .ok (.iload_n 2, 1) := dz_iload_n_2 (y0 zE_cX7_isCashSound 0 17 (by decide +kernel))
theorem dX7_isCashSound_18 : decode cX7_isCashSound 18 = .ok (.aaload, 1) := dz_aaload (y0 zE_cX7_isCashSound 0 18 (by decide +kernel))
theorem dX7_isCashSound_19 : decode cX7_isCashSound 19 = .ok (.getfield 260, 3) := dz_getfield (yu2 zE_cX7_isCashSound 0 19 (by decide +kernel))
theorem dX7_isCashSound_22 : decode cX7_isCashSound 22 = .ok (.iadd, 1) := dz_iadd (y0 zE_cX7_isCashSound 0 22 (by decide +kernel))
theorem dX7_isCashSound_23 : decode cX7_isCashSound 23 = .ok (.istore_n 1, 1) := dz_istore_n_1 (y0 zE_cX7_isCashSound 0 23 (by decide +kernel))
theorem dX7_isCashSound_24 : decode cX7_isCashSound 24 = .ok (.iinc 2 1, 3) := dz_iinc (yii zE_cX7_isCashSound 0 24 (by decide +kernel))
theorem dX7_isCashSound_27 : decode cX7_isCashSound 27 = .ok (.goto (-23), 3) := dz_goto (ys2 zE_cX7_isCashSound 0 27 (by decide +kernel))
theorem dX7_isCashSound_30 : decode cX7_isCashSound 30 = .ok (.aload_n 0, 1) := dz_aload_n_0 (y0 zE_cX7_isCashSound 0 30 (by decide +kernel))
theorem dX7_isCashSound_31 : decode cX7_isCashSound 31 = .ok (.getfield 57, 3) := dz_getfield (yu2 zE_cX7_isCashSound 0 31 (by decide +kernel))
theorem dX7_isCashSound_34 : decode cX7_isCashSound 34 = .ok (.iload_n 1, 1) := dz_iload_n_1 (y0 zE_cX7_isCashSound 0 34 (by decide +kernel))
theorem dX7_isCashSound_35 : decode cX7_isCashSound 35 = .ok (.aload_n 0, 1) := dz_aload_n_0 (y0 zE_cX7_isCashSound 0 35 (by decide +kernel))
theorem dX7_isCashSound_36 : decode cX7_isCashSound 36 = .ok (.invokevirtual 389, 3) := dz_invokevirtual (yu2 zE_cX7_isCashSound 0 36 (by decide +kernel))
theorem dX7_isCashSound_39 : decode cX7_isCashSound 39 = .ok (.isub, 1) := dz_isub (y0 zE_cX7_isCashSound 0 39 (by decide +kernel))
theorem dX7_isCashSound_40 : decode cX7_isCashSound 40 = .ok (.if_icmp .ne 7, 3) := dz_if_icmp_ne (ys2 zE_cX7_isCashSound 0 40 (by decide +kernel))
theorem dX7_isCashSound_43 : decode cX7_isCashSound 43 = .ok (.iconst 1, 1) := dz_iconst_1 (y0 zE_cX7_isCashSound 0 43 (by decide +kernel))
theorem dX7_isCashSound_44 : decode cX7_isCashSound 44 = .ok (.goto 4, 3) := dz_goto (ys2 zE_cX7_isCashSound 0 44 (by decide +kernel))
theorem dX7_isCashSound_47 : decode cX7_isCashSound 47 = .ok (.iconst 0, 1) := dz_iconst_0 (y0 zE_cX7_isCashSound 0 47 (by decide +kernel))
theorem dX7_isCashSound_48 : decode cX7_isCashSound 48 = .ok (.ireturn, 1) := dz_ireturn (y0 zE_cX7_isCashSound 0 48 (by decide +kernel))
theorem gd_wsX7_areHoursSound : wsX7_areHoursSound.all goodWord = true := by decide +kernel
set_option maxRecDepth 20000 in
theorem ggX7_areHoursSound_J6_bitCount_0f7a4 : GoodIn wsX7_areHoursSound wsJ6_bitCount_0f7a4 := gi_q gd_wsX7_areHoursSound _ [(12, 4)] rfl
set_option maxRecDepth 20000 in
theorem gX7_areHoursSound_J6_bitCount_0f7a4 : GoodIn wsX7_areHoursSound (va_wsS RX7 128 yJ6_bitCount_0f7a4 wsJ6_bitCount_0f7a4) := goodIn_app (gi_q gd_wsX7_areHoursSound _ [(9, 3)] rfl) ggX7_areHoursSound_J6_bitCount_0f7a4
def zT_cX7_areHoursSound : List (List Nat) := [[3, 60, 3, 61, 28, 42, 180, 0, 44, 162, 0, 21, 27, 42, 180, 0, 11, 28, 50, 180, 1, 54, 96, 60, 132, 2, 1, 167, 255, 233, 3, 61, 28, 42, 180, 0, 51, 162, 0, 47, 42, 180, 0, 29, 28, 50, 180, 0, 233, 5, 160, 0, 28, 27, 42, 180, 0, 29, 28, 50, 180, 0, 205, 42, 180, 0, 29, 28], [180, 0, 29, 28, 50, 180, 0, 239, 184, 0, 128, 104, 100, 60, 132, 2, 1, 167, 255, 207, 27, 154, 0, 7, 4, 167, 0, 4, 3, 172]]
theorem zE_cX7_areHoursSound : zTab cX7_areHoursSound.data.toList zT_cX7_areHoursSound = true := by decide +kernel
theorem dX7_areHoursSound_0 : decode cX7_areHoursSound 0 = .ok (.iconst 0, 1) := dz_iconst_0 (y0 zE_cX7_areHoursSound 0 0 (by decide +kernel))
theorem dX7_areHoursSound_1 : decode cX7_areHoursSound 1 = .ok (.istore_n 1, 1) := dz_istore_n_1 (y0 zE_cX7_areHoursSound 0 1 (by decide +kernel))
theorem dX7_areHoursSound_2 : decode cX7_areHoursSound 2 = .ok (.iconst 0, 1) := dz_iconst_0 (y0 zE_cX7_areHoursSound 0 2 (by decide +kernel))
theorem dX7_areHoursSound_3 : decode cX7_areHoursSound 3 = .ok (.istore_n 2, 1) := dz_istore_n_2 (y0 zE_cX7_areHoursSound 0 3 (by decide +kernel))
theorem dX7_areHoursSound_4 : decode cX7_areHoursSound 4 = .ok (.iload_n 2, 1) := dz_iload_n_2 (y0 zE_cX7_areHoursSound 0 4 (by decide +kernel))
theorem dX7_areHoursSound_5 : decode cX7_areHoursSound 5 = .ok (.aload_n 0, 1) := dz_aload_n_0 (y0 zE_cX7_areHoursSound 0 5 (by decide +kernel))
theorem dX7_areHoursSound_6 : decode cX7_areHoursSound 6 = .ok (.getfield 44, 3) := dz_getfield (yu2 zE_cX7_areHoursSound 0 6 (by decide +kernel))
theorem dX7_areHoursSound_9 : decode cX7_areHoursSound 9 = .ok (.if_icmp .ge 21, 3) := dz_if_icmp_ge (ys2 zE_cX7_areHoursSound 0 9 (by decide +kernel))
theorem dX7_areHoursSound_12 : decode cX7_areHoursSound 12 = .ok (.iload_n 1, 1) := dz_iload_n_1 (y0 zE_cX7_areHoursSound 0 12 (by decide +kernel))
theorem dX7_areHoursSound_13 : decode cX7_areHoursSound 13 = .ok (.aload_n 0, 1) := dz_aload_n_0 (y0 zE_cX7_areHoursSound 0 13 (by decide +kernel))
theorem dX7_areHoursSound_14 : decode cX7_areHoursSound 14 = .ok (.getfield 11, 3) := dz_getfield (yu2 zE_cX7_areHoursSound 0 14 (by decide +kernel))
theorem dX7_areHoursSound_17 : decode cX7_areHoursSound 17 = .ok (.iload_n 2, 1) := dz_iload_n_2 (y0 zE_cX7_areHoursSound 0 17 (by decide +kernel))
theorem dX7_areHoursSound_18 : decode cX7_areHoursSound 18 = .ok (.aaload, 1) := dz_aaload (y0 zE_cX7_areHoursSound 0 18 (by decide +kernel))
theorem dX7_areHoursSound_19 : decode cX7_areHoursSound 19 = .ok (.getfield 310, 3) := dz_getfield (yu2 zE_cX7_areHoursSound 0 19 (by decide +kernel))
theorem dX7_areHoursSound_22 : decode cX7_areHoursSound 22 = .ok (.iadd, 1) := dz_iadd (y0 zE_cX7_areHoursSound 0 22 (by decide +kernel))
theorem dX7_areHoursSound_23 : decode cX7_areHoursSound 23 = .ok (.istore_n 1, 1) := dz_istore_n_1 (y0 zE_cX7_areHoursSound 0 23 (by decide +kernel))
theorem dX7_areHoursSound_24 : decode cX7_areHoursSound 24 = .ok (.iinc 2 1, 3) := dz_iinc (yii zE_cX7_areHoursSound 0 24 (by decide +kernel))
theorem dX7_areHoursSound_27 : decode cX7_areHoursSound 27 = .ok (.goto (-23), 3) := dz_goto (ys2 zE_cX7_areHoursSound 0 27 (by decide +kernel))
theorem dX7_areHoursSound_30 : decode cX7_areHoursSound 30 = .ok (.iconst 0, 1) := dz_iconst_0 (y0 zE_cX7_areHoursSound 0 30 (by decide +kernel))
theorem dX7_areHoursSound_31 : decode cX7_areHoursSound 31 = .ok (.istore_n 2, 1) := dz_istore_n_2 (y0 zE_cX7_areHoursSound 0 31 (by decide +kernel))
theorem dX7_areHoursSound_32 : decode cX7_areHoursSound 32 = .ok (.iload_n 2, 1) := dz_iload_n_2 (y0 zE_cX7_areHoursSound 0 32 (by decide +kernel))
theorem dX7_areHoursSound_33 : decode cX7_areHoursSound 33 = .ok (.aload_n 0, 1) := dz_aload_n_0 (y0 zE_cX7_areHoursSound 0 33 (by decide +kernel))
theorem dX7_areHoursSound_34 : decode cX7_areHoursSound 34 = .ok (.getfield 51, 3) := dz_getfield (yu2 zE_cX7_areHoursSound 0 34 (by decide +kernel))
theorem dX7_areHoursSound_37 : decode cX7_areHoursSound 37 = .ok (.if_icmp .ge 47, 3) := dz_if_icmp_ge (ys2 zE_cX7_areHoursSound 0 37 (by decide +kernel))
theorem dX7_areHoursSound_40 : decode cX7_areHoursSound 40 = .ok (.aload_n 0, 1) := dz_aload_n_0 (y0 zE_cX7_areHoursSound 0 40 (by decide +kernel))
theorem dX7_areHoursSound_41 : decode cX7_areHoursSound 41 = .ok (.getfield 29, 3) := dz_getfield (yu2 zE_cX7_areHoursSound 0 41 (by decide +kernel))
theorem dX7_areHoursSound_44 : decode cX7_areHoursSound 44 = .ok (.iload_n 2, 1) := dz_iload_n_2 (y0 zE_cX7_areHoursSound 0 44 (by decide +kernel))
theorem dX7_areHoursSound_45 : decode cX7_areHoursSound 45 = .ok (.aaload, 1) := dz_aaload (y0 zE_cX7_areHoursSound 0 45 (by decide +kernel))
theorem dX7_areHoursSound_46 : decode cX7_areHoursSound 46 = .ok (.getfield 233, 3) := dz_getfield (yu2 zE_cX7_areHoursSound 0 46 (by decide +kernel))
theorem dX7_areHoursSound_49 : decode cX7_areHoursSound 49 = .ok (.iconst 2, 1) := dz_iconst_2 (y0 zE_cX7_areHoursSound 0 49 (by decide +kernel))
theorem dX7_areHoursSound_50 : decode cX7_areHoursSound 50 = .ok (.if_icmp .ne 28, 3) := dz_if_icmp_ne (ys2 zE_cX7_areHoursSound 0 50 (by decide +kernel))
theorem dX7_areHoursSound_53 : decode cX7_areHoursSound 53 = .ok (.iload_n 1, 1) := dz_iload_n_1 (y0 zE_cX7_areHoursSound 0 53 (by decide +kernel))
theorem dX7_areHoursSound_54 : decode cX7_areHoursSound 54 = .ok (.aload_n 0, 1) := dz_aload_n_0 (y0 zE_cX7_areHoursSound 0 54 (by decide +kernel))
theorem dX7_areHoursSound_55 : decode cX7_areHoursSound 55 = .ok (.getfield 29, 3) := dz_getfield (yu2 zE_cX7_areHoursSound 0 55 (by decide +kernel))
theorem dX7_areHoursSound_58 : decode cX7_areHoursSound 58 = .ok (.iload_n 2, 1) := dz_iload_n_2 (y0 zE_cX7_areHoursSound 0 58 (by decide +kernel))
theorem dX7_areHoursSound_59 : decode cX7_areHoursSound 59 = .ok (.aaload, 1) := dz_aaload (y0 zE_cX7_areHoursSound 0 59 (by decide +kernel))
theorem dX7_areHoursSound_60 : decode cX7_areHoursSound 60 = .ok (.getfield 205, 3) := dz_getfield (yu2 zE_cX7_areHoursSound 0 60 (by decide +kernel))
theorem dX7_areHoursSound_63 : decode cX7_areHoursSound 63 = .ok (.aload_n 0, 1) := dz_aload_n_0 (y0 zE_cX7_areHoursSound 0 63 (by decide +kernel))
theorem dX7_areHoursSound_64 : decode cX7_areHoursSound 64 = .ok (.getfield 29, 3) := dz_getfield (yu2 zE_cX7_areHoursSound 1 0 (by decide +kernel))
theorem dX7_areHoursSound_67 : decode cX7_areHoursSound 67 = .ok (.iload_n 2, 1) := dz_iload_n_2 (y0 zE_cX7_areHoursSound 1 3 (by decide +kernel))
theorem dX7_areHoursSound_68 : decode cX7_areHoursSound 68 = .ok (.aaload, 1) := dz_aaload (y0 zE_cX7_areHoursSound 1 4 (by decide +kernel))
theorem dX7_areHoursSound_69 : decode cX7_areHoursSound 69 = .ok (.getfield 239, 3) := dz_getfield (yu2 zE_cX7_areHoursSound 1 5 (by decide +kernel))
theorem dX7_areHoursSound_72 : decode cX7_areHoursSound 72 = .ok (.invokestatic 128, 3) := dz_invokestatic (yu2 zE_cX7_areHoursSound 1 8 (by decide +kernel))
theorem dX7_areHoursSound_75 : decode cX7_areHoursSound 75 = .ok (.imul, 1) := dz_imul (y0 zE_cX7_areHoursSound 1 11 (by decide +kernel))
theorem dX7_areHoursSound_76 : decode cX7_areHoursSound 76 = .ok (.isub, 1) := dz_isub (y0 zE_cX7_areHoursSound 1 12 (by decide +kernel))
theorem dX7_areHoursSound_77 : decode cX7_areHoursSound 77 = .ok (.istore_n 1, 1) := dz_istore_n_1 (y0 zE_cX7_areHoursSound 1 13 (by decide +kernel))
theorem dX7_areHoursSound_78 : decode cX7_areHoursSound 78 = .ok (.iinc 2 1, 3) := dz_iinc (yii zE_cX7_areHoursSound 1 14 (by decide +kernel))
theorem dX7_areHoursSound_81 : decode cX7_areHoursSound 81 = .ok (.goto (-49), 3) := dz_goto (ys2 zE_cX7_areHoursSound 1 17 (by decide +kernel))
theorem dX7_areHoursSound_84 : decode cX7_areHoursSound 84 = .ok (.iload_n 1, 1) := dz_iload_n_1 (y0 zE_cX7_areHoursSound 1 20 (by decide +kernel))
theorem dX7_areHoursSound_85 : decode cX7_areHoursSound 85 = .ok (.ifCond .ne 7, 3) := dz_ifCond_ne (ys2 zE_cX7_areHoursSound 1 21 (by decide +kernel))
theorem dX7_areHoursSound_88 : decode cX7_areHoursSound 88 = .ok (.iconst 1, 1) := dz_iconst_1 (y0 zE_cX7_areHoursSound 1 24 (by decide +kernel))
theorem dX7_areHoursSound_89 : decode cX7_areHoursSound 89 = .ok (.goto 4, 3) := dz_goto (ys2 zE_cX7_areHoursSound 1 25 (by decide +kernel))
theorem dX7_areHoursSound_92 : decode cX7_areHoursSound 92 = .ok (.iconst 0, 1) := dz_iconst_0 (y0 zE_cX7_areHoursSound 1 28 (by decide +kernel))
theorem dX7_areHoursSound_93 : decode cX7_areHoursSound 93 = .ok (.ireturn, 1) := dz_ireturn (y0 zE_cX7_areHoursSound 1 29 (by decide +kernel))
theorem gd_wsX7_areSharesSound : wsX7_areSharesSound.all goodWord = true := by decide +kernel
set_option maxRecDepth 20000 in
theorem ggX7_areSharesSound_X7_shareOf : GoodIn wsX7_areSharesSound wsX7_shareOf := gi_q gd_wsX7_areSharesSound _ [(6, 1), (1, 1), (7, 21)] rfl
set_option maxRecDepth 20000 in
theorem gX7_areSharesSound_X7_shareOf : GoodIn wsX7_areSharesSound (wsV RX7 316 RX7 yX7_shareOf wsX7_shareOf) := goodIn_app (gi_q gd_wsX7_areSharesSound _ [(2, 4)] rfl) ggX7_areSharesSound_X7_shareOf
def zT_cX7_areSharesSound : List (List Nat) := [[3, 60, 3, 61, 28, 16, 16, 162, 0, 22, 27, 42, 42, 180, 0, 17, 28, 50, 182, 1, 60, 96, 60, 132, 2, 1, 167, 255, 234, 27, 17, 3, 232, 163, 0, 7, 4, 167, 0, 4, 3, 172]]
theorem zE_cX7_areSharesSound : zTab cX7_areSharesSound.data.toList zT_cX7_areSharesSound = true := by decide +kernel
theorem dX7_areSharesSound_0 : decode cX7_areSharesSound 0 = .ok (.iconst 0, 1) := dz_iconst_0 (y0 zE_cX7_areSharesSound 0 0 (by decide +kernel))
theorem dX7_areSharesSound_1 : decode cX7_areSharesSound 1 = .ok (.istore_n 1, 1) := dz_istore_n_1 (y0 zE_cX7_areSharesSound 0 1 (by decide +kernel))
theorem dX7_areSharesSound_2 : decode cX7_areSharesSound 2 = .ok (.iconst 0, 1) := dz_iconst_0 (y0 zE_cX7_areSharesSound 0 2 (by decide +kernel))
theorem dX7_areSharesSound_3 : decode cX7_areSharesSound 3 = .ok (.istore_n 2, 1) := dz_istore_n_2 (y0 zE_cX7_areSharesSound 0 3 (by decide +kernel))
theorem dX7_areSharesSound_4 : decode cX7_areSharesSound 4 = .ok (.iload_n 2, 1) := dz_iload_n_2 (y0 zE_cX7_areSharesSound 0 4 (by decide +kernel))
theorem dX7_areSharesSound_5 : decode cX7_areSharesSound 5 = .ok (.bipush 16, 2) := dz_bipush (ys1 zE_cX7_areSharesSound 0 5 (by decide +kernel))
theorem dX7_areSharesSound_7 : decode cX7_areSharesSound 7 = .ok (.if_icmp .ge 22, 3) := dz_if_icmp_ge (ys2 zE_cX7_areSharesSound 0 7 (by decide +kernel))
theorem dX7_areSharesSound_10 : decode cX7_areSharesSound 10 = .ok (.iload_n 1, 1) := dz_iload_n_1 (y0 zE_cX7_areSharesSound 0 10 (by decide +kernel))
theorem dX7_areSharesSound_11 : decode cX7_areSharesSound 11 = .ok (.aload_n 0, 1) := dz_aload_n_0 (y0 zE_cX7_areSharesSound 0 11 (by decide +kernel))
theorem dX7_areSharesSound_12 : decode cX7_areSharesSound 12 = .ok (.aload_n 0, 1) := dz_aload_n_0 (y0 zE_cX7_areSharesSound 0 12 (by decide +kernel))
theorem dX7_areSharesSound_13 : decode cX7_areSharesSound 13 = .ok (.getfield 17, 3) := dz_getfield (yu2 zE_cX7_areSharesSound 0 13 (by decide +kernel))
theorem dX7_areSharesSound_16 : decode cX7_areSharesSound 16 = .ok (.iload_n 2, 1) := dz_iload_n_2 (y0 zE_cX7_areSharesSound 0 16 (by decide +kernel))
theorem dX7_areSharesSound_17 : decode cX7_areSharesSound 17 = .ok (.aaload, 1) := dz_aaload (y0 zE_cX7_areSharesSound 0 17 (by decide +kernel))
theorem dX7_areSharesSound_18 : decode cX7_areSharesSound 18 = .ok (.invokevirtual 316, 3) := dz_invokevirtual (yu2 zE_cX7_areSharesSound 0 18 (by decide +kernel))
theorem dX7_areSharesSound_21 : decode cX7_areSharesSound 21 = .ok (.iadd, 1) := dz_iadd (y0 zE_cX7_areSharesSound 0 21 (by decide +kernel))
theorem dX7_areSharesSound_22 : decode cX7_areSharesSound 22 = .ok (.istore_n 1, 1) := dz_istore_n_1 (y0 zE_cX7_areSharesSound 0 22 (by decide +kernel))
theorem dX7_areSharesSound_23 : decode cX7_areSharesSound 23 = .ok (.iinc 2 1, 3) := dz_iinc (yii zE_cX7_areSharesSound 0 23 (by decide +kernel))
theorem dX7_areSharesSound_26 : decode cX7_areSharesSound 26 = .ok (.goto (-22), 3) := dz_goto (ys2 zE_cX7_areSharesSound 0 26 (by decide +kernel))
theorem dX7_areSharesSound_29 : decode cX7_areSharesSound 29 = .ok (.iload_n 1, 1) := dz_iload_n_1 (y0 zE_cX7_areSharesSound 0 29 (by decide +kernel))
theorem dX7_areSharesSound_30 : decode cX7_areSharesSound 30 = .ok (.sipush 1000, 3) := dz_sipush (ys2 zE_cX7_areSharesSound 0 30 (by decide +kernel))
theorem dX7_areSharesSound_33 : decode cX7_areSharesSound 33 = .ok (.if_icmp .gt 7, 3) := dz_if_icmp_gt (ys2 zE_cX7_areSharesSound 0 33 (by decide +kernel))
theorem dX7_areSharesSound_36 : decode cX7_areSharesSound 36 = .ok (.iconst 1, 1) := dz_iconst_1 (y0 zE_cX7_areSharesSound 0 36 (by decide +kernel))
theorem dX7_areSharesSound_37 : decode cX7_areSharesSound 37 = .ok (.goto 4, 3) := dz_goto (ys2 zE_cX7_areSharesSound 0 37 (by decide +kernel))
theorem dX7_areSharesSound_40 : decode cX7_areSharesSound 40 = .ok (.iconst 0, 1) := dz_iconst_0 (y0 zE_cX7_areSharesSound 0 40 (by decide +kernel))
theorem dX7_areSharesSound_41 : decode cX7_areSharesSound 41 = .ok (.ireturn, 1) := dz_ireturn (y0 zE_cX7_areSharesSound 0 41 (by decide +kernel))
theorem dX8_init_0 : decode cX8_init 0 = .ok (.aload_n 0, 1) := dkT (by decide +kernel)
theorem dX8_init_1 : decode cX8_init 1 = .ok (.invokespecial 1, 3) := dkT (by decide +kernel)
theorem dX8_init_4 : decode cX8_init 4 = .ok (.return_, 1) := dkT (by decide +kernel)
theorem dX9_init_0 : decode cX9_init 0 = .ok (.aload_n 0, 1) := dkT (by decide +kernel)
theorem dX9_init_1 : decode cX9_init 1 = .ok (.invokespecial 3, 3) := dkT (by decide +kernel)
theorem dX9_init_4 : decode cX9_init 4 = .ok (.aload_n 0, 1) := dkT (by decide +kernel)
theorem dX9_init_5 : decode cX9_init 5 = .ok (.sipush 366, 3) := dkT (by decide +kernel)
theorem dX9_init_8 : decode cX9_init 8 = .ok (.newarray .boolean, 2) := dkT (by decide +kernel)
theorem dX9_init_10 : decode cX9_init 10 = .ok (.putfield 9, 3) := dkT (by decide +kernel)
theorem dX9_init_13 : decode cX9_init 13 = .ok (.return_, 1) := dkT (by decide +kernel)
theorem dX10_init_0 : decode cX10_init 0 = .ok (.aload_n 0, 1) := dkT (by decide +kernel)
theorem dX10_init_1 : decode cX10_init 1 = .ok (.invokespecial 1, 3) := dkT (by decide +kernel)
theorem dX10_init_4 : decode cX10_init 4 = .ok (.return_, 1) := dkT (by decide +kernel)
def zT_cX10_quarters : List (List Nat) := [[42, 180, 0, 7, 16, 60, 16, 24, 42, 180, 0, 13, 100, 42, 180, 0, 16, 100, 104, 184, 0, 19, 16, 14, 96, 16, 15, 108, 172]]
theorem zE_cX10_quarters : zTab cX10_quarters.data.toList zT_cX10_quarters = true := by decide +kernel
theorem dX10_quarters_0 : decode cX10_quarters 0 = .ok (.aload_n 0, 1) := dz_aload_n_0 (y0 zE_cX10_quarters 0 0 (by decide +kernel))
theorem dX10_quarters_1 : decode cX10_quarters 1 = .ok (.getfield 7, 3) := dz_getfield (yu2 zE_cX10_quarters 0 1 (by decide +kernel))
theorem dX10_quarters_4 : decode cX10_quarters 4 = .ok (.bipush 60, 2) := dz_bipush (ys1 zE_cX10_quarters 0 4 (by decide +kernel))
theorem dX10_quarters_6 : decode cX10_quarters 6 = .ok (.bipush 24, 2) := dz_bipush (ys1 zE_cX10_quarters 0 6 (by decide +kernel))
theorem dX10_quarters_8 : decode cX10_quarters 8 = .ok (.aload_n 0, 1) := dz_aload_n_0 (y0 zE_cX10_quarters 0 8 (by decide +kernel))
theorem dX10_quarters_9 : decode cX10_quarters 9 = .ok (.getfield 13, 3) := dz_getfield (yu2 zE_cX10_quarters 0 9 (by decide +kernel))
theorem dX10_quarters_12 : decode cX10_quarters 12 = .ok (.isub, 1) := dz_isub (y0 zE_cX10_quarters 0 12 (by decide +kernel))
theorem dX10_quarters_13 : decode cX10_quarters 13 = .ok (.aload_n 0, 1) := dz_aload_n_0 (y0 zE_cX10_quarters 0 13 (by decide +kernel))
theorem dX10_quarters_14 : decode cX10_quarters 14 = .ok (.getfield 16, 3) := dz_getfield (yu2 zE_cX10_quarters 0 14 (by decide +kernel))
theorem dX10_quarters_17 : decode cX10_quarters 17 = .ok (.isub, 1) := dz_isub (y0 zE_cX10_quarters 0 17 (by decide +kernel))
theorem dX10_quarters_18 : decode cX10_quarters 18 = .ok (.imul, 1) := dz_imul (y0 zE_cX10_quarters 0 18 (by decide +kernel))
theorem dX10_quarters_19 : decode cX10_quarters 19 = .ok (.invokestatic 19, 3) := dz_invokestatic (yu2 zE_cX10_quarters 0 19 (by decide +kernel))
theorem dX10_quarters_22 : decode cX10_quarters 22 = .ok (.bipush 14, 2) := dz_bipush (ys1 zE_cX10_quarters 0 22 (by decide +kernel))
theorem dX10_quarters_24 : decode cX10_quarters 24 = .ok (.iadd, 1) := dz_iadd (y0 zE_cX10_quarters 0 24 (by decide +kernel))
theorem dX10_quarters_25 : decode cX10_quarters 25 = .ok (.bipush 15, 2) := dz_bipush (ys1 zE_cX10_quarters 0 25 (by decide +kernel))
theorem dX10_quarters_27 : decode cX10_quarters 27 = .ok (.idiv, 1) := dz_idiv (y0 zE_cX10_quarters 0 27 (by decide +kernel))
theorem dX10_quarters_28 : decode cX10_quarters 28 = .ok (.ireturn, 1) := dz_ireturn (y0 zE_cX10_quarters 0 28 (by decide +kernel))
theorem gd_wsX11_init : wsX11_init.all goodWord = true := by decide +kernel
set_option maxRecDepth 20000 in
theorem ggX11_init_Jx4a65c_init_da8c8 : GoodIn wsX11_init wsJx4a65c_init_da8c8 := gi_q gd_wsX11_init _ [(19, 13), (2, 2), (37, 3)] rfl
set_option maxRecDepth 20000 in
theorem gX11_init_Jx4a65c_init_da8c8 : GoodIn wsX11_init (wsJx4a65c_init_da8c8) := ggX11_init_Jx4a65c_init_da8c8
set_option maxRecDepth 20000 in
theorem ggX11_init_X11_drive : GoodIn wsX11_init wsX11_drive := gi_q gd_wsX11_init _ [(36, 1), (16, 1), (15, 1), (40, 13)] rfl
set_option maxRecDepth 20000 in
theorem gX11_init_X11_drive : GoodIn wsX11_init (wsV RX11 41 RX11 yX11_drive wsX11_drive) := goodIn_app (gi_q gd_wsX11_init _ [(32, 4)] rfl) ggX11_init_X11_drive
def zT_cX11_init : List (List Nat) := [[42, 183, 0, 1, 42, 187, 0, 7, 89, 183, 0, 9, 181, 0, 10, 42, 187, 0, 7, 89, 183, 0, 9, 181, 0, 16, 42, 187, 0, 7, 89, 183, 0, 9, 181, 0, 19, 42, 16, 16, 188, 10, 181, 0, 22, 42, 16, 16, 188, 10, 181, 0, 26, 42, 16, 16, 188, 10, 181, 0, 29, 42, 16, 16, 188, 10, 181, 0], [188, 10, 181, 0, 32, 42, 16, 36, 188, 10, 181, 0, 35, 42, 16, 36, 188, 10, 181, 0, 38, 3, 60, 27, 16, 16, 162, 0, 33, 42, 180, 0, 22, 27, 27, 16, 12, 112, 79, 42, 180, 0, 26, 27, 8, 79, 42, 180, 0, 29, 27, 6, 79, 132, 1, 1, 167, 255, 223, 42, 182, 0, 41, 177]]
theorem zE_cX11_init : zTab cX11_init.data.toList zT_cX11_init = true := by decide +kernel
theorem dX11_init_0 : decode cX11_init 0 = .ok (.aload_n 0, 1) := dz_aload_n_0 (y0 zE_cX11_init 0 0 (by decide +kernel))
theorem dX11_init_1 : decode cX11_init 1 = .ok (.invokespecial 1, 3) := dz_invokespecial (yu2 zE_cX11_init 0 1 (by decide +kernel))
theorem dX11_init_4 : decode cX11_init 4 = .ok (.aload_n 0, 1) := dz_aload_n_0 (y0 zE_cX11_init 0 4 (by decide +kernel))
theorem dX11_init_5 : decode cX11_init 5 = .ok (.new 7, 3) := dz_new (yu2 zE_cX11_init 0 5 (by decide +kernel))
theorem dX11_init_8 : decode cX11_init 8 = .ok (.dup, 1) := dz_dup (y0 zE_cX11_init 0 8 (by decide +kernel))
theorem dX11_init_9 : decode cX11_init 9 = .ok (.invokespecial 9, 3) := dz_invokespecial (yu2 zE_cX11_init 0 9 (by decide +kernel))
theorem dX11_init_12 : decode cX11_init 12 = .ok (.putfield 10, 3) := dz_putfield (yu2 zE_cX11_init 0 12 (by decide +kernel))
theorem dX11_init_15 : decode cX11_init 15 = .ok (.aload_n 0, 1) := dz_aload_n_0 (y0 zE_cX11_init 0 15 (by decide +kernel))
theorem dX11_init_16 : decode cX11_init 16 = .ok (.new 7, 3) := dz_new (yu2 zE_cX11_init 0 16 (by decide +kernel))
theorem dX11_init_19 : decode cX11_init 19 = .ok (.dup, 1) := dz_dup (y0 zE_cX11_init 0 19 (by decide +kernel))
theorem dX11_init_20 : decode cX11_init 20 = .ok (.invokespecial 9, 3) := dz_invokespecial (yu2 zE_cX11_init 0 20 (by decide +kernel))
theorem dX11_init_23 : decode cX11_init 23 = .ok (.putfield 16, 3) := dz_putfield (yu2 zE_cX11_init 0 23 (by decide +kernel))
theorem dX11_init_26 : decode cX11_init 26 = .ok (.aload_n 0, 1) := dz_aload_n_0 (y0 zE_cX11_init 0 26 (by decide +kernel))
theorem dX11_init_27 : decode cX11_init 27 = .ok (.new 7, 3) := dz_new (yu2 zE_cX11_init 0 27 (by decide +kernel))
theorem dX11_init_30 : decode cX11_init 30 = .ok (.dup, 1) := dz_dup (y0 zE_cX11_init 0 30 (by decide +kernel))
theorem dX11_init_31 : decode cX11_init 31 = .ok (.invokespecial 9, 3) := dz_invokespecial (yu2 zE_cX11_init 0 31 (by decide +kernel))
theorem dX11_init_34 : decode cX11_init 34 = .ok (.putfield 19, 3) := dz_putfield (yu2 zE_cX11_init 0 34 (by decide +kernel))
theorem dX11_init_37 : decode cX11_init 37 = .ok (.aload_n 0, 1) := dz_aload_n_0 (y0 zE_cX11_init 0 37 (by decide +kernel))
theorem dX11_init_38 : decode cX11_init 38 = .ok (.bipush 16, 2) := dz_bipush (ys1 zE_cX11_init 0 38 (by decide +kernel))
theorem dX11_init_40 : decode cX11_init 40 = .ok (.newarray .int, 2) := dkT (by decide +kernel)
theorem dX11_init_42 : decode cX11_init 42 = .ok (.putfield 22, 3) := dz_putfield (yu2 zE_cX11_init 0 42 (by decide +kernel))
theorem dX11_init_45 : decode cX11_init 45 = .ok (.aload_n 0, 1) := dz_aload_n_0 (y0 zE_cX11_init 0 45 (by decide +kernel))
theorem dX11_init_46 : decode cX11_init 46 = .ok (.bipush 16, 2) := dz_bipush (ys1 zE_cX11_init 0 46 (by decide +kernel))
theorem dX11_init_48 : decode cX11_init 48 = .ok (.newarray .int, 2) := dkT (by decide +kernel)
theorem dX11_init_50 : decode cX11_init 50 = .ok (.putfield 26, 3) := dz_putfield (yu2 zE_cX11_init 0 50 (by decide +kernel))
theorem dX11_init_53 : decode cX11_init 53 = .ok (.aload_n 0, 1) := dz_aload_n_0 (y0 zE_cX11_init 0 53 (by decide +kernel))
theorem dX11_init_54 : decode cX11_init 54 = .ok (.bipush 16, 2) := dz_bipush (ys1 zE_cX11_init 0 54 (by decide +kernel))
theorem dX11_init_56 : decode cX11_init 56 = .ok (.newarray .int, 2) := dkT (by decide +kernel)
theorem dX11_init_58 : decode cX11_init 58 = .ok (.putfield 29, 3) := dz_putfield (yu2 zE_cX11_init 0 58 (by decide +kernel))
theorem dX11_init_61 : decode cX11_init 61 = .ok (.aload_n 0, 1) := dz_aload_n_0 (y0 zE_cX11_init 0 61 (by decide +kernel))
theorem dX11_init_62 : decode cX11_init 62 = .ok (.bipush 16, 2) := dz_bipush (ys1 zE_cX11_init 0 62 (by decide +kernel))
theorem dX11_init_64 : decode cX11_init 64 = .ok (.newarray .int, 2) := dkT (by decide +kernel)
theorem dX11_init_66 : decode cX11_init 66 = .ok (.putfield 32, 3) := dz_putfield (yu2 zE_cX11_init 1 2 (by decide +kernel))
theorem dX11_init_69 : decode cX11_init 69 = .ok (.aload_n 0, 1) := dz_aload_n_0 (y0 zE_cX11_init 1 5 (by decide +kernel))
theorem dX11_init_70 : decode cX11_init 70 = .ok (.bipush 36, 2) := dz_bipush (ys1 zE_cX11_init 1 6 (by decide +kernel))
theorem dX11_init_72 : decode cX11_init 72 = .ok (.newarray .int, 2) := dkT (by decide +kernel)
theorem dX11_init_74 : decode cX11_init 74 = .ok (.putfield 35, 3) := dz_putfield (yu2 zE_cX11_init 1 10 (by decide +kernel))
theorem dX11_init_77 : decode cX11_init 77 = .ok (.aload_n 0, 1) := dz_aload_n_0 (y0 zE_cX11_init 1 13 (by decide +kernel))
theorem dX11_init_78 : decode cX11_init 78 = .ok (.bipush 36, 2) := dz_bipush (ys1 zE_cX11_init 1 14 (by decide +kernel))
theorem dX11_init_80 : decode cX11_init 80 = .ok (.newarray .int, 2) := dkT (by decide +kernel)
theorem dX11_init_82 : decode cX11_init 82 = .ok (.putfield 38, 3) := dz_putfield (yu2 zE_cX11_init 1 18 (by decide +kernel))
theorem dX11_init_85 : decode cX11_init 85 = .ok (.iconst 0, 1) := dz_iconst_0 (y0 zE_cX11_init 1 21 (by decide +kernel))
theorem dX11_init_86 : decode cX11_init 86 = .ok (.istore_n 1, 1) := dz_istore_n_1 (y0 zE_cX11_init 1 22 (by decide +kernel))
theorem dX11_init_87 : decode cX11_init 87 = .ok (.iload_n 1, 1) := dz_iload_n_1 (y0 zE_cX11_init 1 23 (by decide +kernel))
theorem dX11_init_88 : decode cX11_init 88 = .ok (.bipush 16, 2) := dz_bipush (ys1 zE_cX11_init 1 24 (by decide +kernel))
theorem dX11_init_90 : decode cX11_init 90 = .ok (.if_icmp .ge 33, 3) := dz_if_icmp_ge (ys2 zE_cX11_init 1 26 (by decide +kernel))
theorem dX11_init_93 : decode cX11_init 93 = .ok (.aload_n 0, 1) := dz_aload_n_0 (y0 zE_cX11_init 1 29 (by decide +kernel))
theorem dX11_init_94 : decode cX11_init 94 = .ok (.getfield 22, 3) := dz_getfield (yu2 zE_cX11_init 1 30 (by decide +kernel))
theorem dX11_init_97 : decode cX11_init 97 = .ok (.iload_n 1, 1) := dz_iload_n_1 (y0 zE_cX11_init 1 33 (by decide +kernel))
theorem dX11_init_98 : decode cX11_init 98 = .ok (.iload_n 1, 1) := dz_iload_n_1 (y0 zE_cX11_init 1 34 (by decide +kernel))
theorem dX11_init_99 : decode cX11_init 99 = .ok (.bipush 12, 2) := dz_bipush (ys1 zE_cX11_init 1 35 (by decide +kernel))
theorem dX11_init_101 : decode cX11_init 101 = .ok (.irem, 1) := dz_irem (y0 zE_cX11_init 1 37 (by decide +kernel))
theorem dX11_init_102 : decode cX11_init 102 = .ok (.iastore, 1) := dz_iastore (y0 zE_cX11_init 1 38 (by decide +kernel))
theorem dX11_init_103 : decode cX11_init 103 = .ok (.aload_n 0, 1) := dz_aload_n_0 (y0 zE_cX11_init 1 39 (by decide +kernel))
theorem dX11_init_104 : decode cX11_init 104 = .ok (.getfield 26, 3) := dz_getfield (yu2 zE_cX11_init 1 40 (by decide +kernel))
theorem dX11_init_107 : decode cX11_init 107 = .ok (.iload_n 1, 1) := dz_iload_n_1 (y0 zE_cX11_init 1 43 (by decide +kernel))
theorem dX11_init_108 : decode cX11_init 108 = .ok (.iconst 5, 1) := dz_iconst_5 (y0 zE_cX11_init 1 44 (by decide +kernel))
theorem dX11_init_109 : decode cX11_init 109 = .ok (.iastore, 1) := dz_iastore (y0 zE_cX11_init 1 45 (by decide +kernel))
theorem dX11_init_110 : decode cX11_init 110 = .ok (.aload_n 0, 1) := dz_aload_n_0 (y0 zE_cX11_init 1 46 (by decide +kernel))
theorem dX11_init_111 : decode cX11_init 111 = .ok (.getfield 29, 3) := dz_getfield (yu2 zE_cX11_init 1 47 (by decide +kernel))
theorem dX11_init_114 : decode cX11_init 114 = .ok (.iload_n 1, 1) := dz_iload_n_1 (y0 zE_cX11_init 1 50 (by decide +kernel))
theorem dX11_init_115 : decode cX11_init 115 = .ok (.iconst 3, 1) := dz_iconst_3 (y0 zE_cX11_init 1 51 (by decide +kernel))
theorem dX11_init_116 : decode cX11_init 116 = .ok (.iastore, 1) := dz_iastore (y0 zE_cX11_init 1 52 (by decide +kernel))
theorem dX11_init_117 : decode cX11_init 117 = .ok (.iinc 1 1, 3) := dz_iinc (yii zE_cX11_init 1 53 (by decide +kernel))
theorem dX11_init_120 : decode cX11_init 120 = .ok (.goto (-33), 3) := dz_goto (ys2 zE_cX11_init 1 56 (by decide +kernel))
theorem dX11_init_123 : decode cX11_init 123 = .ok (.aload_n 0, 1) := dz_aload_n_0 (y0 zE_cX11_init 1 59 (by decide +kernel))
theorem dX11_init_124 : decode cX11_init 124 = .ok (.invokevirtual 41, 3) := dz_invokevirtual (yu2 zE_cX11_init 1 60 (by decide +kernel))
theorem dX11_init_127 : decode cX11_init 127 = .ok (.return_, 1) := dz_return (y0 zE_cX11_init 1 63 (by decide +kernel))
theorem dX11_refuse_0 : decode cX11_refuse 0 = .ok (.aload_n 0, 1) := dkT (by decide +kernel)
theorem dX11_refuse_1 : decode cX11_refuse 1 = .ok (.iload_n 1, 1) := dkT (by decide +kernel)
theorem dX11_refuse_2 : decode cX11_refuse 2 = .ok (.putfield 44, 3) := dkT (by decide +kernel)
theorem dX11_refuse_5 : decode cX11_refuse 5 = .ok (.iconst 0, 1) := dkT (by decide +kernel)
theorem dX11_refuse_6 : decode cX11_refuse 6 = .ok (.ireturn, 1) := dkT (by decide +kernel)
theorem dX11_is_0 : decode cX11_is 0 = .ok (.iload_n 0, 1) := dkT (by decide +kernel)
theorem dX11_is_1 : decode cX11_is 1 = .ok (.iload_n 1, 1) := dkT (by decide +kernel)
theorem dX11_is_2 : decode cX11_is 2 = .ok (.if_icmp .lt 12, 3) := dkT (by decide +kernel)
theorem dX11_is_5 : decode cX11_is 5 = .ok (.iload_n 0, 1) := dkT (by decide +kernel)
theorem dX11_is_6 : decode cX11_is 6 = .ok (.iload_n 2, 1) := dkT (by decide +kernel)
theorem dX11_is_7 : decode cX11_is 7 = .ok (.if_icmp .gt 7, 3) := dkT (by decide +kernel)
theorem dX11_is_10 : decode cX11_is 10 = .ok (.iconst 1, 1) := dkT (by decide +kernel)
theorem dX11_is_11 : decode cX11_is 11 = .ok (.goto 4, 3) := dkT (by decide +kernel)
theorem dX11_is_14 : decode cX11_is 14 = .ok (.iconst 0, 1) := dkT (by decide +kernel)
theorem dX11_is_15 : decode cX11_is 15 = .ok (.ireturn, 1) := dkT (by decide +kernel)
theorem gd_wsX11_isPlayer : wsX11_isPlayer.all goodWord = true := by decide +kernel
set_option maxRecDepth 20000 in
theorem ggX11_isPlayer_Jx4a65c_size_8abf5 : GoodIn wsX11_isPlayer wsJx4a65c_size_8abf5 := gi_q gd_wsX11_isPlayer _ [(6, 2), (25, 3)] rfl
set_option maxRecDepth 20000 in
theorem gX11_isPlayer_Jx4a65c_size_8abf5 : GoodIn wsX11_isPlayer (wsV RX11 48 RJx4a65c yJx4a65c_size_8abf5 wsJx4a65c_size_8abf5) := goodIn_app (gi_q gd_wsX11_isPlayer _ [(2, 4)] rfl) ggX11_isPlayer_Jx4a65c_size_8abf5
set_option maxRecDepth 20000 in
theorem ggX11_isPlayer_X11_is : GoodIn wsX11_isPlayer wsX11_is := gi_q gd_wsX11_isPlayer _ [(11, 1)] rfl
set_option maxRecDepth 20000 in
theorem gX11_isPlayer_X11_is : GoodIn wsX11_isPlayer (va_wsS RX11 52 yX11_is wsX11_is) := goodIn_app (gi_q gd_wsX11_isPlayer _ [(8, 3)] rfl) ggX11_isPlayer_X11_is
theorem dX11_isPlayer_0 : decode cX11_isPlayer 0 = .ok (.iload_n 1, 1) := dkT (by decide +kernel)
theorem dX11_isPlayer_1 : decode cX11_isPlayer 1 = .ok (.iconst 0, 1) := dkT (by decide +kernel)
theorem dX11_isPlayer_2 : decode cX11_isPlayer 2 = .ok (.aload_n 0, 1) := dkT (by decide +kernel)
theorem dX11_isPlayer_3 : decode cX11_isPlayer 3 = .ok (.getfield 10, 3) := dkT (by decide +kernel)
theorem dX11_isPlayer_6 : decode cX11_isPlayer 6 = .ok (.invokevirtual 48, 3) := dkT (by decide +kernel)
theorem dX11_isPlayer_9 : decode cX11_isPlayer 9 = .ok (.iconst 1, 1) := dkT (by decide +kernel)
theorem dX11_isPlayer_10 : decode cX11_isPlayer 10 = .ok (.isub, 1) := dkT (by decide +kernel)
theorem dX11_isPlayer_11 : decode cX11_isPlayer 11 = .ok (.invokestatic 52, 3) := dkT (by decide +kernel)
theorem dX11_isPlayer_14 : decode cX11_isPlayer 14 = .ok (.ireturn, 1) := dkT (by decide +kernel)
theorem gd_wsX11_isWedding : wsX11_isWedding.all goodWord = true := by decide +kernel
set_option maxRecDepth 20000 in
theorem ggX11_isWedding_Jx4a65c_size_8abf5 : GoodIn wsX11_isWedding wsJx4a65c_size_8abf5 := gi_q gd_wsX11_isWedding _ [(6, 2), (25, 3)] rfl
set_option maxRecDepth 20000 in
theorem gX11_isWedding_Jx4a65c_size_8abf5 : GoodIn wsX11_isWedding (wsV RX11 48 RJx4a65c yJx4a65c_size_8abf5 wsJx4a65c_size_8abf5) := goodIn_app (gi_q gd_wsX11_isWedding _ [(2, 4)] rfl) ggX11_isWedding_Jx4a65c_size_8abf5
set_option maxRecDepth 20000 in
theorem ggX11_isWedding_X11_is : GoodIn wsX11_isWedding wsX11_is := gi_q gd_wsX11_isWedding _ [(11, 1)] rfl
set_option maxRecDepth 20000 in
theorem gX11_isWedding_X11_is : GoodIn wsX11_isWedding (va_wsS RX11 52 yX11_is wsX11_is) := goodIn_app (gi_q gd_wsX11_isWedding _ [(8, 3)] rfl) ggX11_isWedding_X11_is
theorem dX11_isWedding_0 : decode cX11_isWedding 0 = .ok (.iload_n 1, 1) := dkT (by decide +kernel)
theorem dX11_isWedding_1 : decode cX11_isWedding 1 = .ok (.iconst 0, 1) := dkT (by decide +kernel)
theorem dX11_isWedding_2 : decode cX11_isWedding 2 = .ok (.aload_n 0, 1) := dkT (by decide +kernel)
theorem dX11_isWedding_3 : decode cX11_isWedding 3 = .ok (.getfield 19, 3) := dkT (by decide +kernel)
theorem dX11_isWedding_6 : decode cX11_isWedding 6 = .ok (.invokevirtual 48, 3) := dkT (by decide +kernel)
theorem dX11_isWedding_9 : decode cX11_isWedding 9 = .ok (.iconst 1, 1) := dkT (by decide +kernel)
theorem dX11_isWedding_10 : decode cX11_isWedding 10 = .ok (.isub, 1) := dkT (by decide +kernel)
theorem dX11_isWedding_11 : decode cX11_isWedding 11 = .ok (.invokestatic 52, 3) := dkT (by decide +kernel)
theorem dX11_isWedding_14 : decode cX11_isWedding 14 = .ok (.ireturn, 1) := dkT (by decide +kernel)
theorem gd_wsX11_areSongs : wsX11_areSongs.all goodWord = true := by decide +kernel
set_option maxRecDepth 20000 in
theorem ggX11_areSongs_X11_is : GoodIn wsX11_areSongs wsX11_is := gi_q gd_wsX11_areSongs _ [(5, 1)] rfl
set_option maxRecDepth 20000 in
theorem gX11_areSongs_X11_is : GoodIn wsX11_areSongs (va_wsS RX11 52 yX11_is wsX11_is) := goodIn_app (gi_q gd_wsX11_areSongs _ [(2, 3)] rfl) ggX11_areSongs_X11_is
theorem dX11_areSongs_0 : decode cX11_areSongs 0 = .ok (.iload_n 1, 1) := dkT (by decide +kernel)
theorem dX11_areSongs_1 : decode cX11_areSongs 1 = .ok (.iconst 0, 1) := dkT (by decide +kernel)
theorem dX11_areSongs_2 : decode cX11_areSongs 2 = .ok (.ldc 56, 2) := dkT (by decide +kernel)
theorem dX11_areSongs_4 : decode cX11_areSongs 4 = .ok (.invokestatic 52, 3) := dkT (by decide +kernel)
theorem dX11_areSongs_7 : decode cX11_areSongs 7 = .ok (.ireturn, 1) := dkT (by decide +kernel)
theorem gd_wsX11_isDay : wsX11_isDay.all goodWord = true := by decide +kernel
set_option maxRecDepth 20000 in
theorem ggX11_isDay_X11_is : GoodIn wsX11_isDay wsX11_is := gi_q gd_wsX11_isDay _ [(5, 1)] rfl
set_option maxRecDepth 20000 in
theorem gX11_isDay_X11_is : GoodIn wsX11_isDay (va_wsS RX11 52 yX11_is wsX11_is) := goodIn_app (gi_q gd_wsX11_isDay _ [(2, 3)] rfl) ggX11_isDay_X11_is
theorem dX11_isDay_0 : decode cX11_isDay 0 = .ok (.iload_n 1, 1) := dkT (by decide +kernel)
theorem dX11_isDay_1 : decode cX11_isDay 1 = .ok (.aload_n 0, 1) := dkT (by decide +kernel)
theorem dX11_isDay_2 : decode cX11_isDay 2 = .ok (.getfield 57, 3) := dkT (by decide +kernel)
theorem dX11_isDay_5 : decode cX11_isDay 5 = .ok (.sipush 365, 3) := dkT (by decide +kernel)
theorem dX11_isDay_8 : decode cX11_isDay 8 = .ok (.invokestatic 52, 3) := dkT (by decide +kernel)
theorem dX11_isDay_11 : decode cX11_isDay 11 = .ok (.ireturn, 1) := dkT (by decide +kernel)
theorem dX11_isIn_0 : decode cX11_isIn 0 = .ok (.iload_n 0, 1) := dkT (by decide +kernel)
theorem dX11_isIn_1 : decode cX11_isIn 1 = .ok (.iload_n 1, 1) := dkT (by decide +kernel)
theorem dX11_isIn_2 : decode cX11_isIn 2 = .ok (.ishr, 1) := dkT (by decide +kernel)
theorem dX11_isIn_3 : decode cX11_isIn 3 = .ok (.iconst 1, 1) := dkT (by decide +kernel)
theorem dX11_isIn_4 : decode cX11_isIn 4 = .ok (.iand, 1) := dkT (by decide +kernel)
theorem dX11_isIn_5 : decode cX11_isIn 5 = .ok (.iconst 1, 1) := dkT (by decide +kernel)
theorem dX11_isIn_6 : decode cX11_isIn 6 = .ok (.if_icmp .ne 7, 3) := dkT (by decide +kernel)
theorem dX11_isIn_9 : decode cX11_isIn 9 = .ok (.iconst 1, 1) := dkT (by decide +kernel)
theorem dX11_isIn_10 : decode cX11_isIn 10 = .ok (.goto 4, 3) := dkT (by decide +kernel)
theorem dX11_isIn_13 : decode cX11_isIn 13 = .ok (.iconst 0, 1) := dkT (by decide +kernel)
theorem dX11_isIn_14 : decode cX11_isIn 14 = .ok (.ireturn, 1) := dkT (by decide +kernel)
theorem gd_wsX11_player : wsX11_player.all goodWord = true := by decide +kernel
set_option maxRecDepth 20000 in
theorem ggX11_player_X11_is : GoodIn wsX11_player wsX11_is := gi_q gd_wsX11_player _ [(9, 1)] rfl
set_option maxRecDepth 20000 in
theorem gX11_player_X11_is : GoodIn wsX11_player (va_wsS RX11 52 yX11_is wsX11_is) := goodIn_app (gi_q gd_wsX11_player _ [(6, 3)] rfl) ggX11_player_X11_is
set_option maxRecDepth 20000 in
theorem ggX11_player_X11_refuse : GoodIn wsX11_player wsX11_refuse := gi_q gd_wsX11_player _ [(13, 1), (1, 1), (86, 13)] rfl
set_option maxRecDepth 20000 in
theorem gX11_player_X11_refuse : GoodIn wsX11_player (wsV RX11 60 RX11 yX11_refuse wsX11_refuse) := goodIn_app (gi_q gd_wsX11_player _ [(10, 3), (8, 1)] rfl) ggX11_player_X11_refuse
set_option maxRecDepth 20000 in
theorem ggX11_player_X11_areSongs : GoodIn wsX11_player wsX11_areSongs := gi_q gd_wsX11_player _ [(17, 2), (6, 4)] rfl
set_option maxRecDepth 20000 in
theorem gX11_player_X11_areSongs : GoodIn wsX11_player (wsV RX11 64 RX11 yX11_areSongs wsX11_areSongs) := goodIn_app (gi_q gd_wsX11_player _ [(14, 3), (8, 1)] rfl) ggX11_player_X11_areSongs
set_option maxRecDepth 20000 in
theorem ggX11_player_Jx4a65c_size_8abf5 : GoodIn wsX11_player wsJx4a65c_size_8abf5 := gi_q gd_wsX11_player _ [(23, 2), (106, 3)] rfl
set_option maxRecDepth 20000 in
theorem gX11_player_Jx4a65c_size_8abf5 : GoodIn wsX11_player (wsV RX11 48 RJx4a65c yJx4a65c_size_8abf5 wsJx4a65c_size_8abf5) := goodIn_app (gi_q gd_wsX11_player _ [(19, 4)] rfl) ggX11_player_Jx4a65c_size_8abf5
set_option maxRecDepth 20000 in
theorem ggX11_player_X9_init : GoodIn wsX11_player wsX9_init := gi_q gd_wsX11_player _ [(26, 6), (99, 7)] rfl
set_option maxRecDepth 20000 in
theorem gX11_player_X9_init_n70 : GoodIn wsX11_player (wsX9_init) := ggX11_player_X9_init
set_option maxRecDepth 20000 in
theorem ggX11_player_Jx4a65c_add_9ea2d : GoodIn wsX11_player wsJx4a65c_add_9ea2d := gi_q gd_wsX11_player _ [(35, 4), (24, 1), (39, 3), (22, 1), (42, 44), (106, 3)] rfl
set_option maxRecDepth 20000 in
theorem gX11_player_Jx4a65c_add_9ea2d : GoodIn wsX11_player (wsV RX11 83 RJx4a65c yJx4a65c_add_9ea2d wsJx4a65c_add_9ea2d) := goodIn_app (gi_q gd_wsX11_player _ [(32, 3), (22, 1)] rfl) ggX11_player_Jx4a65c_add_9ea2d
def zT_cX11_player : List (List Nat) := [[42, 3, 181, 0, 44, 29, 3, 8, 184, 0, 52, 154, 0, 9, 42, 4, 182, 0, 60, 172, 27, 4, 16, 63, 184, 0, 52, 153, 0, 22, 42, 28, 182, 0, 64, 153, 0, 14, 21, 4, 4, 16, 99, 184, 0, 52, 154, 0, 9, 42, 5, 182, 0, 60, 172, 42, 180, 0, 10, 182, 0, 48, 16, 10, 160, 0, 9, 42], [160, 0, 9, 42, 6, 182, 0, 60, 172, 187, 0, 68, 89, 183, 0, 70, 58, 5, 25, 5, 27, 181, 0, 71, 25, 5, 28, 181, 0, 74, 25, 5, 29, 181, 0, 77, 25, 5, 21, 4, 181, 0, 80, 42, 180, 0, 10, 25, 5, 182, 0, 83, 87, 42, 180, 0, 10, 182, 0, 48, 4, 100, 172]]
theorem zE_cX11_player : zTab cX11_player.data.toList zT_cX11_player = true := by decide +kernel
theorem dX11_player_0 : decode cX11_player 0 = .ok (.aload_n 0, 1) := dz_aload_n_0 (y0 zE_cX11_player 0 0 (by decide +kernel))
theorem dX11_player_1 : decode cX11_player 1 = .ok (.iconst 0, 1) := dz_iconst_0 (y0 zE_cX11_player 0 1 (by decide +kernel))
theorem dX11_player_2 : decode cX11_player 2 = .ok (.putfield 44, 3) := dz_putfield (yu2 zE_cX11_player 0 2 (by decide +kernel))
theorem dX11_player_5 : decode cX11_player 5 = .ok (.iload_n 3, 1) := dz_iload_n_3 (y0 zE_cX11_player 0 5 (by decide +kernel))
theorem dX11_player_6 : decode cX11_player 6 = .ok (.iconst 0, 1) := dz_iconst_0 (y0 zE_cX11_player 0 6 (by decide +kernel))
theorem dX11_player_7 : decode cX11_player 7 = .ok (.iconst 5, 1) := dz_iconst_5 (y0 zE_cX11_player 0 7 (by decide +kernel))
theorem dX11_player_8 : decode cX11_player 8 = .ok (.invokestatic 52, 3) := dz_invokestatic (yu2 zE_cX11_player 0 8 (by decide +kernel))
theorem dX11_player_11 : decode cX11_player 11 = .ok (.ifCond .ne 9, 3) := dz_ifCond_ne (ys2 zE_cX11_player 0 11 (by decide +kernel))
theorem dX11_player_14 : decode cX11_player 14 = .ok (.aload_n 0, 1) := dz_aload_n_0 (y0 zE_cX11_player 0 14 (by decide +kernel))
theorem dX11_player_15 : decode cX11_player 15 = .ok (.iconst 1, 1) := dz_iconst_1 (y0 zE_cX11_player 0 15 (by decide +kernel))
theorem dX11_player_16 : decode cX11_player 16 = .ok (.invokevirtual 60, 3) := dz_invokevirtual (yu2 zE_cX11_player 0 16 (by decide +kernel))
theorem dX11_player_19 : decode cX11_player 19 = .ok (.ireturn, 1) := dz_ireturn (y0 zE_cX11_player 0 19 (by decide +kernel))
theorem dX11_player_20 : decode cX11_player 20 = .ok (.iload_n 1, 1) := dz_iload_n_1 (y0 zE_cX11_player 0 20 (by decide +kernel))
theorem dX11_player_21 : decode cX11_player 21 = .ok (.iconst 1, 1) := dz_iconst_1 (y0 zE_cX11_player 0 21 (by decide +kernel))
theorem dX11_player_22 : decode cX11_player 22 = .ok (.bipush 63, 2) := dz_bipush (ys1 zE_cX11_player 0 22 (by decide +kernel))
theorem dX11_player_24 : decode cX11_player 24 = .ok (.invokestatic 52, 3) := dz_invokestatic (yu2 zE_cX11_player 0 24 (by decide +kernel))
theorem dX11_player_27 : decode cX11_player 27 = .ok (.ifCond .eq 22, 3) := dz_ifCond_eq (ys2 zE_cX11_player 0 27 (by decide +kernel))
theorem dX11_player_30 : decode cX11_player 30 = .ok (.aload_n 0, 1) := dz_aload_n_0 (y0 zE_cX11_player 0 30 (by decide +kernel))
theorem dX11_player_31 : decode cX11_player 31 = .ok (.iload_n 2, 1) := dz_iload_n_2 (y0 zE_cX11_player 0 31 (by decide +kernel))
theorem dX11_player_32 : decode cX11_player 32 = .ok (.invokevirtual 64, 3) := dz_invokevirtual (yu2 zE_cX11_player 0 32 (by decide +kernel))
theorem dX11_player_35 : decode cX11_player 35 = .ok (.ifCond .eq 14, 3) := dz_ifCond_eq (ys2 zE_cX11_player 0 35 (by decide +kernel))
theorem dX11_player_38 : decode cX11_player 38 = .ok (.iload 4, 2) := dz_iload (yu1 zE_cX11_player 0 38 (by decide +kernel))
theorem dX11_player_40 : decode cX11_player 40 = .ok (.iconst 1, 1) := dz_iconst_1 (y0 zE_cX11_player 0 40 (by decide +kernel))
theorem dX11_player_41 : decode cX11_player 41 = .ok (.bipush 99, 2) := dz_bipush (ys1 zE_cX11_player 0 41 (by decide +kernel))
theorem dX11_player_43 : decode cX11_player 43 = .ok (.invokestatic 52, 3) := dz_invokestatic (yu2 zE_cX11_player 0 43 (by decide +kernel))
theorem dX11_player_46 : decode cX11_player 46 = .ok (.ifCond .ne 9, 3) := dz_ifCond_ne (ys2 zE_cX11_player 0 46 (by decide +kernel))
theorem dX11_player_49 : decode cX11_player 49 = .ok (.aload_n 0, 1) := dz_aload_n_0 (y0 zE_cX11_player 0 49 (by decide +kernel))
theorem dX11_player_50 : decode cX11_player 50 = .ok (.iconst 2, 1) := dz_iconst_2 (y0 zE_cX11_player 0 50 (by decide +kernel))
theorem dX11_player_51 : decode cX11_player 51 = .ok (.invokevirtual 60, 3) := dz_invokevirtual (yu2 zE_cX11_player 0 51 (by decide +kernel))
theorem dX11_player_54 : decode cX11_player 54 = .ok (.ireturn, 1) := dz_ireturn (y0 zE_cX11_player 0 54 (by decide +kernel))
theorem dX11_player_55 : decode cX11_player 55 = .ok (.aload_n 0, 1) := dz_aload_n_0 (y0 zE_cX11_player 0 55 (by decide +kernel))
theorem dX11_player_56 : decode cX11_player 56 = .ok (.getfield 10, 3) := dz_getfield (yu2 zE_cX11_player 0 56 (by decide +kernel))
theorem dX11_player_59 : decode cX11_player 59 = .ok (.invokevirtual 48, 3) := dz_invokevirtual (yu2 zE_cX11_player 0 59 (by decide +kernel))
theorem dX11_player_62 : decode cX11_player 62 = .ok (.bipush 10, 2) := dz_bipush (ys1 zE_cX11_player 0 62 (by decide +kernel))
theorem dX11_player_64 : decode cX11_player 64 = .ok (.if_icmp .ne 9, 3) := dz_if_icmp_ne (ys2 zE_cX11_player 1 0 (by decide +kernel))
theorem dX11_player_67 : decode cX11_player 67 = .ok (.aload_n 0, 1) := dz_aload_n_0 (y0 zE_cX11_player 1 3 (by decide +kernel))
theorem dX11_player_68 : decode cX11_player 68 = .ok (.iconst 3, 1) := dz_iconst_3 (y0 zE_cX11_player 1 4 (by decide +kernel))
theorem dX11_player_69 : decode cX11_player 69 = .ok (.invokevirtual 60, 3) := dz_invokevirtual (yu2 zE_cX11_player 1 5 (by decide +kernel))
theorem dX11_player_72 : decode cX11_player 72 = .ok (.ireturn, 1) := dz_ireturn (y0 zE_cX11_player 1 8 (by decide +kernel))
theorem dX11_player_73 : decode cX11_player 73 = .ok (.new 68, 3) := dz_new (yu2 zE_cX11_player 1 9 (by decide +kernel))
theorem dX11_player_76 : decode cX11_player 76 = .ok (.dup, 1) := dz_dup (y0 zE_cX11_player 1 12 (by decide +kernel))
theorem dX11_player_77 : decode cX11_player 77 = .ok (.invokespecial 70, 3) := dz_invokespecial (yu2 zE_cX11_player 1 13 (by decide +kernel))
theorem dX11_player_80 : decode cX11_player 80 = .ok (.astore 5, 2) := dz_astore (yu1 zE_cX11_player 1 16 (by decide +kernel))
theorem dX11_player_82 : decode cX11_player 82 = .ok (.aload 5, 2) := dz_aload (yu1 zE_cX11_player 1 18 (by decide +kernel))
theorem dX11_player_84 : decode cX11_player 84 = .ok (.iload_n 1, 1) := dz_iload_n_1 (y0 zE_cX11_player 1 20 (by decide +kernel))
theorem dX11_player_85 : decode cX11_player 85 = .ok (.putfield 71, 3) := dz_putfield (yu2 zE_cX11_player 1 21 (by decide +kernel))
theorem dX11_player_88 : decode cX11_player 88 = .ok (.aload 5, 2) := dz_aload (yu1 zE_cX11_player 1 24 (by decide +kernel))
theorem dX11_player_90 : decode cX11_player 90 = .ok (.iload_n 2, 1) := dz_iload_n_2 (y0 zE_cX11_player 1 26 (by decide +kernel))
theorem dX11_player_91 : decode cX11_player 91 = .ok (.putfield 74, 3) := dz_putfield (yu2 zE_cX11_player 1 27 (by decide +kernel))
theorem dX11_player_94 : decode cX11_player 94 = .ok (.aload 5, 2) := dz_aload (yu1 zE_cX11_player 1 30 (by decide +kernel))
theorem dX11_player_96 : decode cX11_player 96 = .ok (.iload_n 3, 1) := dz_iload_n_3 (y0 zE_cX11_player 1 32 (by decide +kernel))
theorem dX11_player_97 : decode cX11_player 97 = .ok (.putfield 77, 3) := dz_putfield (yu2 zE_cX11_player 1 33 (by decide +kernel))
theorem dX11_player_100 : decode cX11_player 100 = .ok (.aload 5, 2) := dz_aload (yu1 zE_cX11_player 1 36 (by decide +kernel))
theorem dX11_player_102 : decode cX11_player 102 = .ok (.iload 4, 2) := dz_iload (yu1 zE_cX11_player 1 38 (by decide +kernel))
theorem dX11_player_104 : decode cX11_player 104 = .ok (.putfield 80, 3) := dz_putfield (yu2 zE_cX11_player 1 40 (by decide +kernel))
theorem dX11_player_107 : decode cX11_player 107 = .ok (.aload_n 0, 1) := dz_aload_n_0 (y0 zE_cX11_player 1 43 (by decide +kernel))
theorem dX11_player_108 : decode cX11_player 108 = .ok (.getfield 10, 3) := dz_getfield (yu2 zE_cX11_player 1 44 (by decide +kernel))
theorem dX11_player_111 : decode cX11_player 111 = .ok (.aload 5, 2) := dz_aload (yu1 zE_cX11_player 1 47 (by decide +kernel))
theorem dX11_player_113 : decode cX11_player 113 = .ok (.invokevirtual 83, 3) := dz_invokevirtual (yu2 zE_cX11_player 1 49 (by decide +kernel))
theorem dX11_player_116 : decode cX11_player 116 = .ok (.pop, 1) := dz_pop (y0 zE_cX11_player 1 52 (by decide +kernel))
theorem dX11_player_117 : decode cX11_player 117 = .ok (.aload_n 0, 1) := dz_aload_n_0 (y0 zE_cX11_player 1 53 (by decide +kernel))
theorem dX11_player_118 : decode cX11_player 118 = .ok (.getfield 10, 3) := dz_getfield (yu2 zE_cX11_player 1 54 (by decide +kernel))
theorem dX11_player_121 : decode cX11_player 121 = .ok (.invokevirtual 48, 3) := dz_invokevirtual (yu2 zE_cX11_player 1 57 (by decide +kernel))
theorem dX11_player_124 : decode cX11_player 124 = .ok (.iconst 1, 1) := dz_iconst_1 (y0 zE_cX11_player 1 60 (by decide +kernel))
theorem dX11_player_125 : decode cX11_player 125 = .ok (.isub, 1) := dz_isub (y0 zE_cX11_player 1 61 (by decide +kernel))
theorem dX11_player_126 : decode cX11_player 126 = .ok (.ireturn, 1) := dz_ireturn (y0 zE_cX11_player 1 62 (by decide +kernel))
theorem gd_wsX11_learn : wsX11_learn.all goodWord = true := by decide +kernel
set_option maxRecDepth 20000 in
theorem ggX11_learn_X11_isPlayer : GoodIn wsX11_learn wsX11_isPlayer := gi_q gd_wsX11_learn _ [(8, 1), (2, 1), (9, 8), (7, 1), (17, 1), (51, 13), (71, 3)] rfl
set_option maxRecDepth 20000 in
theorem gX11_learn_X11_isPlayer : GoodIn wsX11_learn (wsV RX11 87 RX11 yX11_isPlayer wsX11_isPlayer) := goodIn_app (gi_q gd_wsX11_learn _ [(4, 4)] rfl) ggX11_learn_X11_isPlayer
set_option maxRecDepth 20000 in
theorem ggX11_learn_X11_refuse : GoodIn wsX11_learn wsX11_refuse := gi_q gd_wsX11_learn _ [(21, 1), (1, 1), (51, 13)] rfl
set_option maxRecDepth 20000 in
theorem gX11_learn_X11_refuse : GoodIn wsX11_learn (wsV RX11 60 RX11 yX11_refuse wsX11_refuse) := goodIn_app (gi_q gd_wsX11_learn _ [(18, 3), (7, 1)] rfl) ggX11_learn_X11_refuse
set_option maxRecDepth 20000 in
theorem ggX11_learn_X11_areSongs : GoodIn wsX11_learn wsX11_areSongs := gi_q gd_wsX11_learn _ [(25, 2), (15, 2), (7, 1), (17, 1)] rfl
set_option maxRecDepth 20000 in
theorem gX11_learn_X11_areSongs : GoodIn wsX11_learn (wsV RX11 64 RX11 yX11_areSongs wsX11_areSongs) := goodIn_app (gi_q gd_wsX11_learn _ [(22, 3), (7, 1)] rfl) ggX11_learn_X11_areSongs
set_option maxRecDepth 20000 in
theorem ggX11_learn_Jx4a65c_get_915e3 : GoodIn wsX11_learn wsJx4a65c_get_915e3 := gi_q gd_wsX11_learn _ [(30, 1), (14, 1), (31, 11), (12, 1), (42, 2), (71, 3)] rfl
set_option maxRecDepth 20000 in
theorem gX11_learn_Jx4a65c_get_915e3 : GoodIn wsX11_learn (wsV RX11 90 RJx4a65c yJx4a65c_get_915e3 wsJx4a65c_get_915e3) := goodIn_app (gi_q gd_wsX11_learn _ [(27, 3), (12, 1)] rfl) ggX11_learn_Jx4a65c_get_915e3
set_option maxRecDepth 20000 in
theorem ggX11_learn_J6_bitCount_0f7a4 : GoodIn wsX11_learn wsJ6_bitCount_0f7a4 := gi_q gd_wsX11_learn _ [(47, 4)] rfl
set_option maxRecDepth 20000 in
theorem gX11_learn_J6_bitCount_0f7a4 : GoodIn wsX11_learn (va_wsS RX11 94 yJ6_bitCount_0f7a4 wsJ6_bitCount_0f7a4) := goodIn_app (gi_q gd_wsX11_learn _ [(44, 3)] rfl) ggX11_learn_J6_bitCount_0f7a4
def zT_cX11_learn : List (List Nat) := [[42, 3, 181, 0, 44, 42, 27, 182, 0, 87, 154, 0, 9, 42, 4, 182, 0, 60, 172, 42, 28, 182, 0, 64, 154, 0, 9, 42, 5, 182, 0, 60, 172, 42, 180, 0, 10, 27, 182, 0, 90, 192, 0, 68, 89, 180, 0, 74, 28, 128, 181, 0, 74, 42, 180, 0, 10, 27, 182, 0, 90, 192, 0, 68, 180, 0, 74, 184], [180, 0, 74, 184, 0, 94, 172]]
theorem zE_cX11_learn : zTab cX11_learn.data.toList zT_cX11_learn = true := by decide +kernel
theorem dX11_learn_0 : decode cX11_learn 0 = .ok (.aload_n 0, 1) := dz_aload_n_0 (y0 zE_cX11_learn 0 0 (by decide +kernel))
theorem dX11_learn_1 : decode cX11_learn 1 = .ok (.iconst 0, 1) := dz_iconst_0 (y0 zE_cX11_learn 0 1 (by decide +kernel))
theorem dX11_learn_2 : decode cX11_learn 2 = .ok (.putfield 44, 3) := dz_putfield (yu2 zE_cX11_learn 0 2 (by decide +kernel))
theorem dX11_learn_5 : decode cX11_learn 5 = .ok (.aload_n 0, 1) := dz_aload_n_0 (y0 zE_cX11_learn 0 5 (by decide +kernel))
theorem dX11_learn_6 : decode cX11_learn 6 = .ok (.iload_n 1, 1) := dz_iload_n_1 (y0 zE_cX11_learn 0 6 (by decide +kernel))
theorem dX11_learn_7 : decode cX11_learn 7 = .ok (.invokevirtual 87, 3) := dz_invokevirtual (yu2 zE_cX11_learn 0 7 (by decide +kernel))
theorem dX11_learn_10 : decode cX11_learn 10 = .ok (.ifCond .ne 9, 3) := dz_ifCond_ne (ys2 zE_cX11_learn 0 10 (by decide +kernel))
theorem dX11_learn_13 : decode cX11_learn 13 = .ok (.aload_n 0, 1) := dz_aload_n_0 (y0 zE_cX11_learn 0 13 (by decide +kernel))
theorem dX11_learn_14 : decode cX11_learn 14 = .ok (.iconst 1, 1) := dz_iconst_1 (y0 zE_cX11_learn 0 14 (by decide +kernel))
theorem dX11_learn_15 : decode cX11_learn 15 = .ok (.invokevirtual 60, 3) := dz_invokevirtual (yu2 zE_cX11_learn 0 15 (by decide +kernel))
theorem dX11_learn_18 : decode cX11_learn 18 = .ok (.ireturn, 1) := dz_ireturn (y0 zE_cX11_learn 0 18 (by decide +kernel))
theorem dX11_learn_19 : decode cX11_learn 19 = .ok (.aload_n 0, 1) := dz_aload_n_0 (y0 zE_cX11_learn 0 19 (by decide +kernel))
theorem dX11_learn_20 : decode cX11_learn 20 = .ok (.iload_n 2, 1) := dz_iload_n_2 (y0 zE_cX11_learn 0 20 (by decide +kernel))
theorem dX11_learn_21 : decode cX11_learn 21 = .ok (.invokevirtual 64, 3) := dz_invokevirtual (yu2 zE_cX11_learn 0 21 (by decide +kernel))
theorem dX11_learn_24 : decode cX11_learn 24 = .ok (.ifCond .ne 9, 3) := dz_ifCond_ne (ys2 zE_cX11_learn 0 24 (by decide +kernel))
theorem dX11_learn_27 : decode cX11_learn 27 = .ok (.aload_n 0, 1) := dz_aload_n_0 (y0 zE_cX11_learn 0 27 (by decide +kernel))
theorem dX11_learn_28 : decode cX11_learn 28 = .ok (.iconst 2, 1) := dz_iconst_2 (y0 zE_cX11_learn 0 28 (by decide +kernel))
theorem dX11_learn_29 : decode cX11_learn 29 = .ok (.invokevirtual 60, 3) := dz_invokevirtual (yu2 zE_cX11_learn 0 29 (by decide +kernel))
theorem dX11_learn_32 : decode cX11_learn 32 = .ok (.ireturn, 1) := dz_ireturn (y0 zE_cX11_learn 0 32 (by decide +kernel))
theorem dX11_learn_33 : decode cX11_learn 33 = .ok (.aload_n 0, 1) := dz_aload_n_0 (y0 zE_cX11_learn 0 33 (by decide +kernel))
theorem dX11_learn_34 : decode cX11_learn 34 = .ok (.getfield 10, 3) := dz_getfield (yu2 zE_cX11_learn 0 34 (by decide +kernel))
theorem dX11_learn_37 : decode cX11_learn 37 = .ok (.iload_n 1, 1) := dz_iload_n_1 (y0 zE_cX11_learn 0 37 (by decide +kernel))
theorem dX11_learn_38 : decode cX11_learn 38 = .ok (.invokevirtual 90, 3) := dz_invokevirtual (yu2 zE_cX11_learn 0 38 (by decide +kernel))
theorem dX11_learn_41 : decode cX11_learn 41 = .ok (.checkcast 68, 3) := dz_checkcast (yu2 zE_cX11_learn 0 41 (by decide +kernel))
theorem dX11_learn_44 : decode cX11_learn 44 = .ok (.dup, 1) := dz_dup (y0 zE_cX11_learn 0 44 (by decide +kernel))
theorem dX11_learn_45 : decode cX11_learn 45 = .ok (.getfield 74, 3) := dz_getfield (yu2 zE_cX11_learn 0 45 (by decide +kernel))
theorem dX11_learn_48 : decode cX11_learn 48 = .ok (.iload_n 2, 1) := dz_iload_n_2 (y0 zE_cX11_learn 0 48 (by decide +kernel))
theorem dX11_learn_49 : decode cX11_learn 49 = .ok (.ior, 1) := dz_ior (y0 zE_cX11_learn 0 49 (by decide +kernel))
theorem dX11_learn_50 : decode cX11_learn 50 = .ok (.putfield 74, 3) := dz_putfield (yu2 zE_cX11_learn 0 50 (by decide +kernel))
theorem dX11_learn_53 : decode cX11_learn 53 = .ok (.aload_n 0, 1) := dz_aload_n_0 (y0 zE_cX11_learn 0 53 (by decide +kernel))
theorem dX11_learn_54 : decode cX11_learn 54 = .ok (.getfield 10, 3) := dz_getfield (yu2 zE_cX11_learn 0 54 (by decide +kernel))
theorem dX11_learn_57 : decode cX11_learn 57 = .ok (.iload_n 1, 1) := dz_iload_n_1 (y0 zE_cX11_learn 0 57 (by decide +kernel))
theorem dX11_learn_58 : decode cX11_learn 58 = .ok (.invokevirtual 90, 3) := dz_invokevirtual (yu2 zE_cX11_learn 0 58 (by decide +kernel))
theorem dX11_learn_61 : decode cX11_learn 61 = .ok (.checkcast 68, 3) := dz_checkcast (yu2 zE_cX11_learn 0 61 (by decide +kernel))
theorem dX11_learn_64 : decode cX11_learn 64 = .ok (.getfield 74, 3) := dz_getfield (yu2 zE_cX11_learn 1 0 (by decide +kernel))
theorem dX11_learn_67 : decode cX11_learn 67 = .ok (.invokestatic 94, 3) := dz_invokestatic (yu2 zE_cX11_learn 1 3 (by decide +kernel))
theorem dX11_learn_70 : decode cX11_learn 70 = .ok (.ireturn, 1) := dz_ireturn (y0 zE_cX11_learn 1 6 (by decide +kernel))
theorem gd_wsX11_song : wsX11_song.all goodWord = true := by decide +kernel
set_option maxRecDepth 20000 in
theorem ggX11_song_X11_is : GoodIn wsX11_song wsX11_is := gi_q gd_wsX11_song _ [(8, 1)] rfl
set_option maxRecDepth 20000 in
theorem gX11_song_X11_is : GoodIn wsX11_song (va_wsS RX11 52 yX11_is wsX11_is) := goodIn_app (gi_q gd_wsX11_song _ [(5, 3)] rfl) ggX11_song_X11_is
set_option maxRecDepth 20000 in
theorem ggX11_song_X11_refuse : GoodIn wsX11_song wsX11_refuse := gi_q gd_wsX11_song _ [(12, 1), (1, 1), (13, 13)] rfl
set_option maxRecDepth 20000 in
theorem gX11_song_X11_refuse : GoodIn wsX11_song (wsV RX11 60 RX11 yX11_refuse wsX11_refuse) := goodIn_app (gi_q gd_wsX11_song _ [(9, 3), (7, 1)] rfl) ggX11_song_X11_refuse
def zT_cX11_song : List (List Nat) := [[42, 3, 181, 0, 44, 27, 3, 16, 15, 184, 0, 52, 154, 0, 9, 42, 4, 182, 0, 60, 172, 28, 3, 16, 11, 184, 0, 52, 153, 0, 24, 29, 3, 16, 9, 184, 0, 52, 153, 0, 14, 21, 4, 5, 16, 9, 184, 0, 52, 154, 0, 9, 42, 5, 182, 0, 60, 172, 42, 180, 0, 29, 27, 46, 54, 5, 42, 180], [54, 5, 42, 180, 0, 22, 27, 28, 79, 42, 180, 0, 26, 27, 29, 79, 42, 180, 0, 29, 27, 21, 4, 79, 21, 5, 172]]
theorem zE_cX11_song : zTab cX11_song.data.toList zT_cX11_song = true := by decide +kernel
theorem dX11_song_0 : decode cX11_song 0 = .ok (.aload_n 0, 1) := dz_aload_n_0 (y0 zE_cX11_song 0 0 (by decide +kernel))
theorem dX11_song_1 : decode cX11_song 1 = .ok (.iconst 0, 1) := dz_iconst_0 (y0 zE_cX11_song 0 1 (by decide +kernel))
theorem dX11_song_2 : decode cX11_song 2 = .ok (.putfield 44, 3) := dz_putfield (yu2 zE_cX11_song 0 2 (by decide +kernel))
theorem dX11_song_5 : decode cX11_song 5 = .ok (.iload_n 1, 1) := dz_iload_n_1 (y0 zE_cX11_song 0 5 (by decide +kernel))
theorem dX11_song_6 : decode cX11_song 6 = .ok (.iconst 0, 1) := dz_iconst_0 (y0 zE_cX11_song 0 6 (by decide +kernel))
theorem dX11_song_7 : decode cX11_song 7 = .ok (.bipush 15, 2) := dz_bipush (ys1 zE_cX11_song 0 7 (by decide +kernel))
theorem dX11_song_9 : decode cX11_song 9 = .ok (.invokestatic 52, 3) := dz_invokestatic (yu2 zE_cX11_song 0 9 (by decide +kernel))
theorem dX11_song_12 : decode cX11_song 12 = .ok (.ifCond .ne 9, 3) := dz_ifCond_ne (ys2 zE_cX11_song 0 12 (by decide +kernel))
theorem dX11_song_15 : decode cX11_song 15 = .ok (.aload_n 0, 1) := dz_aload_n_0 (y0 zE_cX11_song 0 15 (by decide +kernel))
theorem dX11_song_16 : decode cX11_song 16 = .ok (.iconst 1, 1) := dz_iconst_1 (y0 zE_cX11_song 0 16 (by decide +kernel))
theorem dX11_song_17 : decode cX11_song 17 = .ok (.invokevirtual 60, 3) := dz_invokevirtual (yu2 zE_cX11_song 0 17 (by decide +kernel))
theorem dX11_song_20 : decode cX11_song 20 = .ok (.ireturn, 1) := dz_ireturn (y0 zE_cX11_song 0 20 (by decide +kernel))
theorem dX11_song_21 : decode cX11_song 21 = .ok (.iload_n 2, 1) := dz_iload_n_2 (y0 zE_cX11_song 0 21 (by decide +kernel))
theorem dX11_song_22 : decode cX11_song 22 = .ok (.iconst 0, 1) := dz_iconst_0 (y0 zE_cX11_song 0 22 (by decide +kernel))
theorem dX11_song_23 : decode cX11_song 23 = .ok (.bipush 11, 2) := dz_bipush (ys1 zE_cX11_song 0 23 (by decide +kernel))
theorem dX11_song_25 : decode cX11_song 25 = .ok (.invokestatic 52, 3) := dz_invokestatic (yu2 zE_cX11_song 0 25 (by decide +kernel))
theorem dX11_song_28 : decode cX11_song 28 = .ok (.ifCond .eq 24, 3) := dz_ifCond_eq (ys2 zE_cX11_song 0 28 (by decide +kernel))
theorem dX11_song_31 : decode cX11_song 31 = .ok (.iload_n 3, 1) := dz_iload_n_3 (y0 zE_cX11_song 0 31 (by decide +kernel))
theorem dX11_song_32 : decode cX11_song 32 = .ok (.iconst 0, 1) := dz_iconst_0 (y0 zE_cX11_song 0 32 (by decide +kernel))
theorem dX11_song_33 : decode cX11_song 33 = .ok (.bipush 9, 2) := dz_bipush (ys1 zE_cX11_song 0 33 (by decide +kernel))
theorem dX11_song_35 : decode cX11_song 35 = .ok (.invokestatic 52, 3) := dz_invokestatic (yu2 zE_cX11_song 0 35 (by decide +kernel))
theorem dX11_song_38 : decode cX11_song 38 = .ok (.ifCond .eq 14, 3) := dz_ifCond_eq (ys2 zE_cX11_song 0 38 (by decide +kernel))
theorem dX11_song_41 : decode cX11_song 41 = .ok (.iload 4, 2) := dz_iload (yu1 zE_cX11_song 0 41 (by decide +kernel))
theorem dX11_song_43 : decode cX11_song 43 = .ok (.iconst 2, 1) := dz_iconst_2 (y0 zE_cX11_song 0 43 (by decide +kernel))
theorem dX11_song_44 : decode cX11_song 44 = .ok (.bipush 9, 2) := dz_bipush (ys1 zE_cX11_song 0 44 (by decide +kernel))
theorem dX11_song_46 : decode cX11_song 46 = .ok (.invokestatic 52, 3) := dz_invokestatic (yu2 zE_cX11_song 0 46 (by decide +kernel))
theorem dX11_song_49 : decode cX11_song 49 = .ok (.ifCond .ne 9, 3) := dz_ifCond_ne (ys2 zE_cX11_song 0 49 (by decide +kernel))
theorem dX11_song_52 : decode cX11_song 52 = .ok (.aload_n 0, 1) := dz_aload_n_0 (y0 zE_cX11_song 0 52 (by decide +kernel))
theorem dX11_song_53 : decode cX11_song 53 = .ok (.iconst 2, 1) := dz_iconst_2 (y0 zE_cX11_song 0 53 (by decide +kernel))
theorem dX11_song_54 : decode cX11_song 54 = .ok (.invokevirtual 60, 3) := dz_invokevirtual (yu2 zE_cX11_song 0 54 (by decide +kernel))
theorem dX11_song_57 : decode cX11_song 57 = .ok (.ireturn, 1) := dz_ireturn (y0 zE_cX11_song 0 57 (by decide +kernel))
theorem dX11_song_58 : decode cX11_song 58 = .ok (.aload_n 0, 1) := dz_aload_n_0 (y0 zE_cX11_song 0 58 (by decide +kernel))
theorem dX11_song_59 : decode cX11_song 59 = .ok (.getfield 29, 3) := dz_getfield (yu2 zE_cX11_song 0 59 (by decide +kernel))
theorem dX11_song_62 : decode cX11_song 62 = .ok (.iload_n 1, 1) := dz_iload_n_1 (y0 zE_cX11_song 0 62 (by decide +kernel))
theorem dX11_song_63 : decode cX11_song 63 = .ok (.iaload, 1) := dz_iaload (y0 zE_cX11_song 0 63 (by decide +kernel))
theorem dX11_song_64 : decode cX11_song 64 = .ok (.istore 5, 2) := dz_istore (yu1 zE_cX11_song 1 0 (by decide +kernel))
theorem dX11_song_66 : decode cX11_song 66 = .ok (.aload_n 0, 1) := dz_aload_n_0 (y0 zE_cX11_song 1 2 (by decide +kernel))
theorem dX11_song_67 : decode cX11_song 67 = .ok (.getfield 22, 3) := dz_getfield (yu2 zE_cX11_song 1 3 (by decide +kernel))
theorem dX11_song_70 : decode cX11_song 70 = .ok (.iload_n 1, 1) := dz_iload_n_1 (y0 zE_cX11_song 1 6 (by decide +kernel))
theorem dX11_song_71 : decode cX11_song 71 = .ok (.iload_n 2, 1) := dz_iload_n_2 (y0 zE_cX11_song 1 7 (by decide +kernel))
theorem dX11_song_72 : decode cX11_song 72 = .ok (.iastore, 1) := dz_iastore (y0 zE_cX11_song 1 8 (by decide +kernel))
theorem dX11_song_73 : decode cX11_song 73 = .ok (.aload_n 0, 1) := dz_aload_n_0 (y0 zE_cX11_song 1 9 (by decide +kernel))
theorem dX11_song_74 : decode cX11_song 74 = .ok (.getfield 26, 3) := dz_getfield (yu2 zE_cX11_song 1 10 (by decide +kernel))
theorem dX11_song_77 : decode cX11_song 77 = .ok (.iload_n 1, 1) := dz_iload_n_1 (y0 zE_cX11_song 1 13 (by decide +kernel))
theorem dX11_song_78 : decode cX11_song 78 = .ok (.iload_n 3, 1) := dz_iload_n_3 (y0 zE_cX11_song 1 14 (by decide +kernel))
theorem dX11_song_79 : decode cX11_song 79 = .ok (.iastore, 1) := dz_iastore (y0 zE_cX11_song 1 15 (by decide +kernel))
theorem dX11_song_80 : decode cX11_song 80 = .ok (.aload_n 0, 1) := dz_aload_n_0 (y0 zE_cX11_song 1 16 (by decide +kernel))
theorem dX11_song_81 : decode cX11_song 81 = .ok (.getfield 29, 3) := dz_getfield (yu2 zE_cX11_song 1 17 (by decide +kernel))
theorem dX11_song_84 : decode cX11_song 84 = .ok (.iload_n 1, 1) := dz_iload_n_1 (y0 zE_cX11_song 1 20 (by decide +kernel))
theorem dX11_song_85 : decode cX11_song 85 = .ok (.iload 4, 2) := dz_iload (yu1 zE_cX11_song 1 21 (by decide +kernel))
theorem dX11_song_87 : decode cX11_song 87 = .ok (.iastore, 1) := dz_iastore (y0 zE_cX11_song 1 23 (by decide +kernel))
theorem dX11_song_88 : decode cX11_song 88 = .ok (.iload 5, 2) := dz_iload (yu1 zE_cX11_song 1 24 (by decide +kernel))
theorem dX11_song_90 : decode cX11_song 90 = .ok (.ireturn, 1) := dz_ireturn (y0 zE_cX11_song 1 26 (by decide +kernel))
theorem gd_wsX11_feud : wsX11_feud.all goodWord = true := by decide +kernel
set_option maxRecDepth 20000 in
theorem ggX11_feud_X11_isPlayer : GoodIn wsX11_feud wsX11_isPlayer := gi_q gd_wsX11_feud _ [(8, 1), (2, 1), (9, 8), (7, 1), (17, 1), (38, 13), (58, 3)] rfl
set_option maxRecDepth 20000 in
theorem gX11_feud_X11_isPlayer : GoodIn wsX11_feud (wsV RX11 87 RX11 yX11_isPlayer wsX11_isPlayer) := goodIn_app (gi_q gd_wsX11_feud _ [(4, 4)] rfl) ggX11_feud_X11_isPlayer
set_option maxRecDepth 20000 in
theorem ggX11_feud_Jx4a65c_get_915e3 : GoodIn wsX11_feud wsJx4a65c_get_915e3 := gi_q gd_wsX11_feud _ [(21, 1), (14, 1), (22, 11), (12, 1), (33, 2), (58, 3)] rfl
set_option maxRecDepth 20000 in
theorem gX11_feud_Jx4a65c_get_915e3 : GoodIn wsX11_feud (wsV RX11 90 RJx4a65c yJx4a65c_get_915e3 wsJx4a65c_get_915e3) := goodIn_app (gi_q gd_wsX11_feud _ [(18, 3), (12, 1)] rfl) ggX11_feud_Jx4a65c_get_915e3
set_option maxRecDepth 20000 in
theorem ggX11_feud_X11_isIn : GoodIn wsX11_feud wsX11_isIn := gi_q gd_wsX11_feud _ [(37, 1)] rfl
set_option maxRecDepth 20000 in
theorem gX11_feud_X11_isIn : GoodIn wsX11_feud (va_wsS RX11 102 yX11_isIn wsX11_isIn) := goodIn_app (gi_q gd_wsX11_feud _ [(35, 2), (7, 1)] rfl) ggX11_feud_X11_isIn
def zT_cX11_feud : List (List Nat) := [[42, 42, 27, 182, 0, 87, 153, 0, 11, 42, 28, 182, 0, 87, 154, 0, 7, 4, 167, 0, 13, 27, 28, 160, 0, 7, 5, 167, 0, 4, 3, 181, 0, 44, 42, 180, 0, 44, 158, 0, 5, 3, 172, 42, 180, 0, 10, 27, 182, 0, 90, 192, 0, 68, 58, 4, 42, 180, 0, 10, 28, 182, 0, 90, 192, 0, 68, 58], [192, 0, 68, 58, 5, 25, 4, 180, 0, 99, 28, 184, 0, 102, 54, 6, 25, 4, 29, 153, 0, 15, 25, 4, 180, 0, 99, 4, 28, 120, 128, 167, 0, 14, 25, 4, 180, 0, 99, 4, 28, 120, 2, 130, 126, 181, 0, 99, 25, 5, 29, 153, 0, 15, 25, 5, 180, 0, 99, 4, 27, 120, 128, 167, 0, 14, 25, 5], [0, 14, 25, 5, 180, 0, 99, 4, 27, 120, 2, 130, 126, 181, 0, 99, 21, 6, 172]]
theorem zE_cX11_feud : zTab cX11_feud.data.toList zT_cX11_feud = true := by decide +kernel
theorem dX11_feud_0 : decode cX11_feud 0 = .ok (.aload_n 0, 1) := dz_aload_n_0 (y0 zE_cX11_feud 0 0 (by decide +kernel))
theorem dX11_feud_1 : decode cX11_feud 1 = .ok (.aload_n 0, 1) := dz_aload_n_0 (y0 zE_cX11_feud 0 1 (by decide +kernel))
theorem dX11_feud_2 : decode cX11_feud 2 = .ok (.iload_n 1, 1) := dz_iload_n_1 (y0 zE_cX11_feud 0 2 (by decide +kernel))
theorem dX11_feud_3 : decode cX11_feud 3 = .ok (.invokevirtual 87, 3) := dz_invokevirtual (yu2 zE_cX11_feud 0 3 (by decide +kernel))
theorem dX11_feud_6 : decode cX11_feud 6 = .ok (.ifCond .eq 11, 3) := dz_ifCond_eq (ys2 zE_cX11_feud 0 6 (by decide +kernel))
theorem dX11_feud_9 : decode cX11_feud 9 = .ok (.aload_n 0, 1) := dz_aload_n_0 (y0 zE_cX11_feud 0 9 (by decide +kernel))
theorem dX11_feud_10 : decode cX11_feud 10 = .ok (.iload_n 2, 1) := dz_iload_n_2 (y0 zE_cX11_feud 0 10 (by decide +kernel))
theorem dX11_feud_11 : decode cX11_feud 11 = .ok (.invokevirtual 87, 3) := dz_invokevirtual (yu2 zE_cX11_feud 0 11 (by decide +kernel))
theorem dX11_feud_14 : decode cX11_feud 14 = .ok (.ifCond .ne 7, 3) := dz_ifCond_ne (ys2 zE_cX11_feud 0 14 (by decide +kernel))
theorem dX11_feud_17 : decode cX11_feud 17 = .ok (.iconst 1, 1) := dz_iconst_1 (y0 zE_cX11_feud 0 17 (by decide +kernel))
theorem dX11_feud_18 : decode cX11_feud 18 = .ok (.goto 13, 3) := dz_goto (ys2 zE_cX11_feud 0 18 (by decide +kernel))
theorem dX11_feud_21 : decode cX11_feud 21 = .ok (.iload_n 1, 1) := dz_iload_n_1 (y0 zE_cX11_feud 0 21 (by decide +kernel))
theorem dX11_feud_22 : decode cX11_feud 22 = .ok (.iload_n 2, 1) := dz_iload_n_2 (y0 zE_cX11_feud 0 22 (by decide +kernel))
theorem dX11_feud_23 : decode cX11_feud 23 = .ok (.if_icmp .ne 7, 3) := dz_if_icmp_ne (ys2 zE_cX11_feud 0 23 (by decide +kernel))
theorem dX11_feud_26 : decode cX11_feud 26 = .ok (.iconst 2, 1) := dz_iconst_2 (y0 zE_cX11_feud 0 26 (by decide +kernel))
theorem dX11_feud_27 : decode cX11_feud 27 = .ok (.goto 4, 3) := dz_goto (ys2 zE_cX11_feud 0 27 (by decide +kernel))
theorem dX11_feud_30 : decode cX11_feud 30 = .ok (.iconst 0, 1) := dz_iconst_0 (y0 zE_cX11_feud 0 30 (by decide +kernel))
theorem dX11_feud_31 : decode cX11_feud 31 = .ok (.putfield 44, 3) := dz_putfield (yu2 zE_cX11_feud 0 31 (by decide +kernel))
theorem dX11_feud_34 : decode cX11_feud 34 = .ok (.aload_n 0, 1) := dz_aload_n_0 (y0 zE_cX11_feud 0 34 (by decide +kernel))
theorem dX11_feud_35 : decode cX11_feud 35 = .ok (.getfield 44, 3) := dz_getfield (yu2 zE_cX11_feud 0 35 (by decide +kernel))
theorem dX11_feud_38 : decode cX11_feud 38 = .ok (.ifCond .le 5, 3) := dz_ifCond_le (ys2 zE_cX11_feud 0 38 (by decide +kernel))
theorem dX11_feud_41 : decode cX11_feud 41 = .ok (.iconst 0, 1) := dz_iconst_0 (y0 zE_cX11_feud 0 41 (by decide +kernel))
theorem dX11_feud_42 : decode cX11_feud 42 = .ok (.ireturn, 1) := dz_ireturn (y0 zE_cX11_feud 0 42 (by decide +kernel))
theorem dX11_feud_43 : decode cX11_feud 43 = .ok (.aload_n 0, 1) := dz_aload_n_0 (y0 zE_cX11_feud 0 43 (by decide +kernel))
theorem dX11_feud_44 : decode cX11_feud 44 = .ok (.getfield 10, 3) := dz_getfield (yu2 zE_cX11_feud 0 44 (by decide +kernel))
theorem dX11_feud_47 : decode cX11_feud 47 = .ok (.iload_n 1, 1) := dz_iload_n_1 (y0 zE_cX11_feud 0 47 (by decide +kernel))
theorem dX11_feud_48 : decode cX11_feud 48 = .ok (.invokevirtual 90, 3) := dz_invokevirtual (yu2 zE_cX11_feud 0 48 (by decide +kernel))
theorem dX11_feud_51 : decode cX11_feud 51 = .ok (.checkcast 68, 3) := dz_checkcast (yu2 zE_cX11_feud 0 51 (by decide +kernel))
theorem dX11_feud_54 : decode cX11_feud 54 = .ok (.astore 4, 2) := dz_astore (yu1 zE_cX11_feud 0 54 (by decide +kernel))
theorem dX11_feud_56 : decode cX11_feud 56 = .ok (.aload_n 0, 1) := dz_aload_n_0 (y0 zE_cX11_feud 0 56 (by decide +kernel))
theorem dX11_feud_57 : decode cX11_feud 57 = .ok (.getfield 10, 3) := dz_getfield (yu2 zE_cX11_feud 0 57 (by decide +kernel))
theorem dX11_feud_60 : decode cX11_feud 60 = .ok (.iload_n 2, 1) := dz_iload_n_2 (y0 zE_cX11_feud 0 60 (by decide +kernel))
theorem dX11_feud_61 : decode cX11_feud 61 = .ok (.invokevirtual 90, 3) := dz_invokevirtual (yu2 zE_cX11_feud 0 61 (by decide +kernel))
theorem dX11_feud_64 : decode cX11_feud 64 = .ok (.checkcast 68, 3) := dz_checkcast (yu2 zE_cX11_feud 1 0 (by decide +kernel))
theorem dX11_feud_67 : decode cX11_feud 67 = .ok (.astore 5, 2) := dz_astore (yu1 zE_cX11_feud 1 3 (by decide +kernel))
theorem dX11_feud_69 : decode cX11_feud 69 = .ok (.aload 4, 2) := dz_aload (yu1 zE_cX11_feud 1 5 (by decide +kernel))
theorem dX11_feud_71 : decode cX11_feud 71 = .ok (.getfield 99, 3) := dz_getfield (yu2 zE_cX11_feud 1 7 (by decide +kernel))
theorem dX11_feud_74 : decode cX11_feud 74 = .ok (.iload_n 2, 1) := dz_iload_n_2 (y0 zE_cX11_feud 1 10 (by decide +kernel))
theorem dX11_feud_75 : decode cX11_feud 75 = .ok (.invokestatic 102, 3) := dz_invokestatic (yu2 zE_cX11_feud 1 11 (by decide +kernel))
theorem dX11_feud_78 : decode cX11_feud 78 = .ok (.istore 6, 2) := dz_istore (yu1 zE_cX11_feud 1 14 (by decide +kernel))
theorem dX11_feud_80 : decode cX11_feud 80 = .ok (.aload 4, 2) := dz_aload (yu1 zE_cX11_feud 1 16 (by decide +kernel))
theorem dX11_feud_82 : decode cX11_feud 82 = .ok (.iload_n 3, 1) := dz_iload_n_3 (y0 zE_cX11_feud 1 18 (by decide +kernel))
theorem dX11_feud_83 : decode cX11_feud 83 = .ok (.ifCond .eq 15, 3) := dz_ifCond_eq (ys2 zE_cX11_feud 1 19 (by decide +kernel))
theorem dX11_feud_86 : decode cX11_feud 86 = .ok (.aload 4, 2) := dz_aload (yu1 zE_cX11_feud 1 22 (by decide +kernel))
theorem dX11_feud_88 : decode cX11_feud 88 = .ok (.getfield 99, 3) := dz_getfield (yu2 zE_cX11_feud 1 24 (by decide +kernel))
theorem dX11_feud_91 : decode cX11_feud 91 = .ok (.iconst 1, 1) := dz_iconst_1 (y0 zE_cX11_feud 1 27 (by decide +kernel))
theorem dX11_feud_92 : decode cX11_feud 92 = .ok (.iload_n 2, 1) := dz_iload_n_2 (y0 zE_cX11_feud 1 28 (by decide +kernel))
theorem dX11_feud_93 : decode cX11_feud 93 = .ok (.ishl, 1) := dz_ishl (y0 zE_cX11_feud 1 29 (by decide +kernel))
theorem dX11_feud_94 : decode cX11_feud 94 = .ok (.ior, 1) := dz_ior (y0 zE_cX11_feud 1 30 (by decide +kernel))
theorem dX11_feud_95 : decode cX11_feud 95 = .ok (.goto 14, 3) := dz_goto (ys2 zE_cX11_feud 1 31 (by decide +kernel))
theorem dX11_feud_98 : decode cX11_feud 98 = .ok (.aload 4, 2) := dz_aload (yu1 zE_cX11_feud 1 34 (by decide +kernel))
theorem dX11_feud_100 : decode cX11_feud 100 = .ok (.getfield 99, 3) := dz_getfield (yu2 zE_cX11_feud 1 36 (by decide +kernel))
theorem dX11_feud_103 : decode cX11_feud 103 = .ok (.iconst 1, 1) := dz_iconst_1 (y0 zE_cX11_feud 1 39 (by decide +kernel))
theorem dX11_feud_104 : decode cX11_feud 104 = .ok (.iload_n 2, 1) := dz_iload_n_2 (y0 zE_cX11_feud 1 40 (by decide +kernel))
theorem dX11_feud_105 : decode cX11_feud 105 = .ok (.ishl, 1) := dz_ishl (y0 zE_cX11_feud 1 41 (by decide +kernel))
theorem dX11_feud_106 : decode cX11_feud 106 = .ok (.iconst (-1), 1) := dz_iconst_m1 (y0 zE_cX11_feud 1 42 (by decide +kernel))
theorem dX11_feud_107 : decode cX11_feud 107 = .ok (.ixor, 1) := dz_ixor (y0 zE_cX11_feud 1 43 (by decide +kernel))
theorem dX11_feud_108 : decode cX11_feud 108 = .ok (.iand, 1) := dz_iand (y0 zE_cX11_feud 1 44 (by decide +kernel))
theorem dX11_feud_109 : decode cX11_feud 109 = .ok (.putfield 99, 3) := dz_putfield (yu2 zE_cX11_feud 1 45 (by decide +kernel))
theorem dX11_feud_112 : decode cX11_feud 112 = .ok (.aload 5, 2) := dz_aload (yu1 zE_cX11_feud 1 48 (by decide +kernel))
theorem dX11_feud_114 : decode cX11_feud 114 = .ok (.iload_n 3, 1) := dz_iload_n_3 (y0 zE_cX11_feud 1 50 (by decide +kernel))
theorem dX11_feud_115 : decode cX11_feud 115 = .ok (.ifCond .eq 15, 3) := dz_ifCond_eq (ys2 zE_cX11_feud 1 51 (by decide +kernel))
theorem dX11_feud_118 : decode cX11_feud 118 = .ok (.aload 5, 2) := dz_aload (yu1 zE_cX11_feud 1 54 (by decide +kernel))
theorem dX11_feud_120 : decode cX11_feud 120 = .ok (.getfield 99, 3) := dz_getfield (yu2 zE_cX11_feud 1 56 (by decide +kernel))
theorem dX11_feud_123 : decode cX11_feud 123 = .ok (.iconst 1, 1) := dz_iconst_1 (y0 zE_cX11_feud 1 59 (by decide +kernel))
theorem dX11_feud_124 : decode cX11_feud 124 = .ok (.iload_n 1, 1) := dz_iload_n_1 (y0 zE_cX11_feud 1 60 (by decide +kernel))
theorem dX11_feud_125 : decode cX11_feud 125 = .ok (.ishl, 1) := dz_ishl (y0 zE_cX11_feud 1 61 (by decide +kernel))
theorem dX11_feud_126 : decode cX11_feud 126 = .ok (.ior, 1) := dz_ior (y0 zE_cX11_feud 1 62 (by decide +kernel))
theorem dX11_feud_127 : decode cX11_feud 127 = .ok (.goto 14, 3) := dz_goto (ys2 zE_cX11_feud 1 63 (by decide +kernel))
theorem dX11_feud_130 : decode cX11_feud 130 = .ok (.aload 5, 2) := dz_aload (yu1 zE_cX11_feud 2 2 (by decide +kernel))
theorem dX11_feud_132 : decode cX11_feud 132 = .ok (.getfield 99, 3) := dz_getfield (yu2 zE_cX11_feud 2 4 (by decide +kernel))
theorem dX11_feud_135 : decode cX11_feud 135 = .ok (.iconst 1, 1) := dz_iconst_1 (y0 zE_cX11_feud 2 7 (by decide +kernel))
theorem dX11_feud_136 : decode cX11_feud 136 = .ok (.iload_n 1, 1) := dz_iload_n_1 (y0 zE_cX11_feud 2 8 (by decide +kernel))
theorem dX11_feud_137 : decode cX11_feud 137 = .ok (.ishl, 1) := dz_ishl (y0 zE_cX11_feud 2 9 (by decide +kernel))
theorem dX11_feud_138 : decode cX11_feud 138 = .ok (.iconst (-1), 1) := dz_iconst_m1 (y0 zE_cX11_feud 2 10 (by decide +kernel))
theorem dX11_feud_139 : decode cX11_feud 139 = .ok (.ixor, 1) := dz_ixor (y0 zE_cX11_feud 2 11 (by decide +kernel))
theorem dX11_feud_140 : decode cX11_feud 140 = .ok (.iand, 1) := dz_iand (y0 zE_cX11_feud 2 12 (by decide +kernel))
theorem dX11_feud_141 : decode cX11_feud 141 = .ok (.putfield 99, 3) := dz_putfield (yu2 zE_cX11_feud 2 13 (by decide +kernel))
theorem dX11_feud_144 : decode cX11_feud 144 = .ok (.iload 6, 2) := dz_iload (yu1 zE_cX11_feud 2 16 (by decide +kernel))
theorem dX11_feud_146 : decode cX11_feud 146 = .ok (.ireturn, 1) := dz_ireturn (y0 zE_cX11_feud 2 18 (by decide +kernel))
theorem gd_wsX11_isTown : wsX11_isTown.all goodWord = true := by decide +kernel
set_option maxRecDepth 20000 in
theorem ggX11_isTown_X11_is : GoodIn wsX11_isTown wsX11_is := gi_q gd_wsX11_isTown _ [(4, 1)] rfl
set_option maxRecDepth 20000 in
theorem gX11_isTown_X11_is : GoodIn wsX11_isTown (va_wsS RX11 52 yX11_is wsX11_is) := goodIn_app (gi_q gd_wsX11_isTown _ [(1, 3)] rfl) ggX11_isTown_X11_is
theorem dX11_isTown_0 : decode cX11_isTown 0 = .ok (.iload_n 0, 1) := dkT (by decide +kernel)
theorem dX11_isTown_1 : decode cX11_isTown 1 = .ok (.iconst 0, 1) := dkT (by decide +kernel)
theorem dX11_isTown_2 : decode cX11_isTown 2 = .ok (.iconst 5, 1) := dkT (by decide +kernel)
theorem dX11_isTown_3 : decode cX11_isTown 3 = .ok (.invokestatic 52, 3) := dkT (by decide +kernel)
theorem dX11_isTown_6 : decode cX11_isTown 6 = .ok (.ireturn, 1) := dkT (by decide +kernel)
def zT_cX11_drive : List (List Nat) := [[3, 60, 27, 16, 6, 162, 0, 72, 3, 61, 28, 16, 6, 162, 0, 58, 42, 180, 0, 38, 27, 16, 6, 104, 28, 96, 27, 28, 160, 0, 7, 3, 167, 0, 32, 42, 180, 0, 35, 27, 16, 6, 104, 28, 96, 46, 154, 0, 7, 2, 167, 0, 14, 42, 180, 0, 35, 27, 16, 6, 104, 28, 96, 46, 79, 132, 2, 1], [79, 132, 2, 1, 167, 255, 198, 132, 1, 1, 167, 255, 184, 3, 60, 27, 16, 6, 162, 0, 120, 3, 61, 28, 16, 6, 162, 0, 106, 3, 62, 29, 16, 6, 162, 0, 92, 42, 180, 0, 38, 28, 16, 6, 104, 27, 96, 46, 54, 4, 42, 180, 0, 38, 27, 16, 6, 104, 29, 96, 46, 54, 5, 42, 180, 0, 38, 28], [180, 0, 38, 28, 16, 6, 104, 29, 96, 46, 54, 6, 21, 4, 2, 159, 0, 41, 21, 5, 2, 159, 0, 35, 21, 6, 2, 159, 0, 13, 21, 4, 21, 5, 96, 21, 6, 162, 0, 19, 42, 180, 0, 38, 28, 16, 6, 104, 29, 96, 21, 4, 21, 5, 96, 79, 132, 3, 1, 167, 255, 164, 132, 2, 1, 167, 255, 150], [1, 167, 255, 150, 132, 1, 1, 167, 255, 136, 177]]
theorem zE_cX11_drive : zTab cX11_drive.data.toList zT_cX11_drive = true := by decide +kernel
theorem dX11_drive_0 : decode cX11_drive 0 = .ok (.iconst 0, 1) := dz_iconst_0 (y0 zE_cX11_drive 0 0 (by decide +kernel))
theorem dX11_drive_1 : decode cX11_drive 1 = .ok (.istore_n 1, 1) := dz_istore_n_1 (y0 zE_cX11_drive 0 1 (by decide +kernel))
theorem dX11_drive_2 : decode cX11_drive 2 = .ok (.iload_n 1, 1) := dz_iload_n_1 (y0 zE_cX11_drive 0 2 (by decide +kernel))
theorem dX11_drive_3 : decode cX11_drive 3 = .ok (.bipush 6, 2) := dz_bipush (ys1 zE_cX11_drive 0 3 (by decide +kernel))
theorem dX11_drive_5 : decode cX11_drive 5 = .ok (.if_icmp .ge 72, 3) := dz_if_icmp_ge (ys2 zE_cX11_drive 0 5 (by decide +kernel))
theorem dX11_drive_8 : decode cX11_drive 8 = .ok (.iconst 0, 1) := dz_iconst_0 (y0 zE_cX11_drive 0 8 (by decide +kernel))
theorem dX11_drive_9 : decode cX11_drive 9 = .ok (.istore_n 2, 1) := dz_istore_n_2 (y0 zE_cX11_drive 0 9 (by decide +kernel))
theorem dX11_drive_10 : decode cX11_drive 10 = .ok (.iload_n 2, 1) := dz_iload_n_2 (y0 zE_cX11_drive 0 10 (by decide +kernel))
theorem dX11_drive_11 : decode cX11_drive 11 = .ok (.bipush 6, 2) := dz_bipush (ys1 zE_cX11_drive 0 11 (by decide +kernel))
theorem dX11_drive_13 : decode cX11_drive 13 = .ok (.if_icmp .ge 58, 3) := dz_if_icmp_ge (ys2 zE_cX11_drive 0 13 (by decide +kernel))
theorem dX11_drive_16 : decode cX11_drive 16 = .ok (.aload_n 0, 1) := dz_aload_n_0 (y0 zE_cX11_drive 0 16 (by decide +kernel))
theorem dX11_drive_17 : decode cX11_drive 17 = .ok (.getfield 38, 3) := dz_getfield (yu2 zE_cX11_drive 0 17 (by decide +kernel))
theorem dX11_drive_20 : decode cX11_drive 20 = .ok (.iload_n 1, 1) := dz_iload_n_1 (y0 zE_cX11_drive 0 20 (by decide +kernel))
theorem dX11_drive_21 : decode cX11_drive 21 = .ok (.bipush 6, 2) := dz_bipush (ys1 zE_cX11_drive 0 21 (by decide +kernel))
theorem dX11_drive_23 : decode cX11_drive 23 = .ok (.imul, 1) := dz_imul (y0 zE_cX11_drive 0 23 (by decide +kernel))
