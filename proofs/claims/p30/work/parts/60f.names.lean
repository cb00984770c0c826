theorem dX11_illNow_160 : decode cX11_illNow 160 = .ok (.goto (-138), 3) := dz_goto (ys2 zE_cX11_illNow 2 32 (by decide +kernel))
theorem dX11_illNow_163 : decode cX11_illNow 163 = .ok (.iload_n 3, 1) := dz_iload_n_3 (y0 zE_cX11_illNow 2 35 (by decide +kernel))
theorem dX11_illNow_164 : decode cX11_illNow 164 = .ok (.ireturn, 1) := dz_ireturn (y0 zE_cX11_illNow 2 36 (by decide +kernel))
theorem gd_wsX11_ill : wsX11_ill.all goodWord = true := by decide +kernel
set_option maxRecDepth 20000 in
theorem ggX11_ill_X11_isPlayer : GoodIn wsX11_ill wsX11_isPlayer := gi_q gd_wsX11_ill _ [(6, 10), (5, 1), (16, 1), (123, 16)] rfl
set_option maxRecDepth 20000 in
theorem gX11_ill_X11_isPlayer : GoodIn wsX11_ill (wsV RX11 87 RX11 yX11_isPlayer wsX11_isPlayer) := goodIn_app (gi_q gd_wsX11_ill _ [(2, 4)] rfl) ggX11_ill_X11_isPlayer
set_option maxRecDepth 20000 in
theorem ggX11_ill_X11_refuse : GoodIn wsX11_ill wsX11_refuse := gi_q gd_wsX11_ill _ [(20, 1), (1, 1), (123, 13)] rfl
set_option maxRecDepth 20000 in
theorem gX11_ill_X11_refuse : GoodIn wsX11_ill (wsV RX11 60 RX11 yX11_refuse wsX11_refuse) := goodIn_app (gi_q gd_wsX11_ill _ [(17, 3), (5, 1)] rfl) ggX11_ill_X11_refuse
set_option maxRecDepth 20000 in
theorem ggX11_ill_X11_isDay : GoodIn wsX11_ill wsX11_isDay := gi_q gd_wsX11_ill _ [(24, 2), (14, 2), (5, 1), (16, 1), (123, 13)] rfl
set_option maxRecDepth 20000 in
theorem gX11_ill_X11_isDay : GoodIn wsX11_ill (wsV RX11 136 RX11 yX11_isDay wsX11_isDay) := goodIn_app (gi_q gd_wsX11_ill _ [(21, 3), (5, 1)] rfl) ggX11_ill_X11_isDay
set_option maxRecDepth 20000 in
theorem ggX11_ill_X11_illNow : GoodIn wsX11_ill wsX11_illNow := gi_q gd_wsX11_ill _ [(29, 1), (7, 1), (30, 7), (11, 1), (37, 1), (13, 1), (38, 13), (8, 3), (12, 1), (51, 2), (5, 1), (53, 83), (139, 19), (136, 3), (158, 1)] rfl
set_option maxRecDepth 20000 in
theorem gX11_ill_X11_illNow : GoodIn wsX11_ill (wsV RX11 249 RX11 yX11_illNow wsX11_illNow) := goodIn_app (gi_q gd_wsX11_ill _ [(26, 3), (5, 1)] rfl) ggX11_ill_X11_illNow
def zT_cX11_ill : List (List Nat) := [[42, 3, 181, 0, 44, 42, 27, 182, 0, 87, 154, 0, 9, 42, 4, 182, 0, 60, 172, 42, 28, 182, 0, 136, 153, 0, 12, 42, 27, 28, 182, 0, 249, 167, 0, 8, 42, 5, 182, 0, 60, 172]]
theorem zE_cX11_ill : zTab cX11_ill.data.toList zT_cX11_ill = true := by decide +kernel
theorem dX11_ill_0 : decode cX11_ill 0 = .ok (.aload_n 0, 1) := dz_aload_n_0 (y0 zE_cX11_ill 0 0 (by decide +kernel))
theorem dX11_ill_1 : decode cX11_ill 1 = .ok (.iconst 0, 1) := dz_iconst_0 (y0 zE_cX11_ill 0 1 (by decide +kernel))
theorem dX11_ill_2 : decode cX11_ill 2 = .ok (.putfield 44, 3) := dz_putfield (yu2 zE_cX11_ill 0 2 (by decide +kernel))
theorem dX11_ill_5 : decode cX11_ill 5 = .ok (.aload_n 0, 1) := dz_aload_n_0 (y0 zE_cX11_ill 0 5 (by decide +kernel))
theorem dX11_ill_6 : decode cX11_ill 6 = .ok (.iload_n 1, 1) := dz_iload_n_1 (y0 zE_cX11_ill 0 6 (by decide +kernel))
theorem dX11_ill_7 : decode cX11_ill 7 = .ok (.invokevirtual 87, 3) := dz_invokevirtual (yu2 zE_cX11_ill 0 7 (by decide +kernel))
theorem dX11_ill_10 : decode cX11_ill 10 = .ok (.ifCond .ne 9, 3) := dz_ifCond_ne (ys2 zE_cX11_ill 0 10 (by decide +kernel))
theorem dX11_ill_13 : decode cX11_ill 13 = .ok (.aload_n 0, 1) := dz_aload_n_0 (y0 zE_cX11_ill 0 13 (by decide +kernel))
theorem dX11_ill_14 : decode cX11_ill 14 = .ok (.iconst 1, 1) := dz_iconst_1 (y0 zE_cX11_ill 0 14 (by decide +kernel))
theorem dX11_ill_15 : decode cX11_ill 15 = .ok (.invokevirtual 60, 3) := dz_invokevirtual (yu2 zE_cX11_ill 0 15 (by decide +kernel))
theorem dX11_ill_18 : decode cX11_ill 18 = .ok (.ireturn, 1) := dz_ireturn (y0 zE_cX11_ill 0 18 (by decide +kernel))
theorem dX11_ill_19 : decode cX11_ill 19 = .ok (.aload_n 0, 1) := dz_aload_n_0 (y0 zE_cX11_ill 0 19 (by decide +kernel))
theorem dX11_ill_20 : decode cX11_ill 20 = .ok (.iload_n 2, 1) := dz_iload_n_2 (y0 zE_cX11_ill 0 20 (by decide +kernel))
theorem dX11_ill_21 : decode cX11_ill 21 = .ok (.invokevirtual 136, 3) := dz_invokevirtual (yu2 zE_cX11_ill 0 21 (by decide +kernel))
theorem dX11_ill_24 : decode cX11_ill 24 = .ok (.ifCond .eq 12, 3) := dz_ifCond_eq (ys2 zE_cX11_ill 0 24 (by decide +kernel))
theorem dX11_ill_27 : decode cX11_ill 27 = .ok (.aload_n 0, 1) := dz_aload_n_0 (y0 zE_cX11_ill 0 27 (by decide +kernel))
theorem dX11_ill_28 : decode cX11_ill 28 = .ok (.iload_n 1, 1) := dz_iload_n_1 (y0 zE_cX11_ill 0 28 (by decide +kernel))
theorem dX11_ill_29 : decode cX11_ill 29 = .ok (.iload_n 2, 1) := dz_iload_n_2 (y0 zE_cX11_ill 0 29 (by decide +kernel))
theorem dX11_ill_30 : decode cX11_ill 30 = .ok (.invokevirtual 249, 3) := dz_invokevirtual (yu2 zE_cX11_ill 0 30 (by decide +kernel))
theorem dX11_ill_33 : decode cX11_ill 33 = .ok (.goto 8, 3) := dz_goto (ys2 zE_cX11_ill 0 33 (by decide +kernel))
theorem dX11_ill_36 : decode cX11_ill 36 = .ok (.aload_n 0, 1) := dz_aload_n_0 (y0 zE_cX11_ill 0 36 (by decide +kernel))
theorem dX11_ill_37 : decode cX11_ill 37 = .ok (.iconst 2, 1) := dz_iconst_2 (y0 zE_cX11_ill 0 37 (by decide +kernel))
theorem dX11_ill_38 : decode cX11_ill 38 = .ok (.invokevirtual 60, 3) := dz_invokevirtual (yu2 zE_cX11_ill 0 38 (by decide +kernel))
theorem dX11_ill_41 : decode cX11_ill 41 = .ok (.ireturn, 1) := dz_ireturn (y0 zE_cX11_ill 0 41 (by decide +kernel))
theorem gd_wsX11_late : wsX11_late.all goodWord = true := by decide +kernel
set_option maxRecDepth 20000 in
theorem ggX11_late_X11_isWedding : GoodIn wsX11_late wsX11_isWedding := gi_q gd_wsX11_late _ [(8, 1), (2, 1), (9, 8), (7, 1), (17, 1), (51, 13), (76, 3)] rfl
set_option maxRecDepth 20000 in
theorem gX11_late_X11_isWedding : GoodIn wsX11_late (wsV RX11 216 RX11 yX11_isWedding wsX11_isWedding) := goodIn_app (gi_q gd_wsX11_late _ [(4, 4)] rfl) ggX11_late_X11_isWedding
set_option maxRecDepth 20000 in
theorem ggX11_late_X11_refuse : GoodIn wsX11_late wsX11_refuse := gi_q gd_wsX11_late _ [(21, 1), (1, 1), (51, 13)] rfl
set_option maxRecDepth 20000 in
theorem gX11_late_X11_refuse : GoodIn wsX11_late (wsV RX11 60 RX11 yX11_refuse wsX11_refuse) := goodIn_app (gi_q gd_wsX11_late _ [(18, 3), (7, 1)] rfl) ggX11_late_X11_refuse
set_option maxRecDepth 20000 in
theorem ggX11_late_X11_is : GoodIn wsX11_late wsX11_is := gi_q gd_wsX11_late _ [(17, 1)] rfl
set_option maxRecDepth 20000 in
theorem gX11_late_X11_is : GoodIn wsX11_late (va_wsS RX11 52 yX11_is wsX11_is) := goodIn_app (gi_q gd_wsX11_late _ [(15, 2), (7, 1)] rfl) ggX11_late_X11_is
set_option maxRecDepth 20000 in
theorem ggX11_late_Jx4a65c_get_915e3 : GoodIn wsX11_late wsJx4a65c_get_915e3 := gi_q gd_wsX11_late _ [(25, 1), (14, 1), (26, 11), (12, 1), (37, 2), (76, 3)] rfl
set_option maxRecDepth 20000 in
theorem gX11_late_Jx4a65c_get_915e3 : GoodIn wsX11_late (wsV RX11 90 RJx4a65c yJx4a65c_get_915e3 wsJx4a65c_get_915e3) := goodIn_app (gi_q gd_wsX11_late _ [(22, 3), (12, 1)] rfl) ggX11_late_Jx4a65c_get_915e3
set_option maxRecDepth 20000 in
theorem ggX11_late_X10_quarters : GoodIn wsX11_late wsX10_quarters := gi_q gd_wsX11_late _ [(43, 8), (64, 12)] rfl
set_option maxRecDepth 20000 in
theorem gX11_late_X10_quarters : GoodIn wsX11_late (wsV RX11 255 RX10 yX10_quarters wsX10_quarters) := goodIn_app (gi_q gd_wsX11_late _ [(39, 4)] rfl) ggX11_late_X10_quarters
def zT_cX11_late : List (List Nat) := [[42, 3, 181, 0, 44, 42, 27, 182, 0, 216, 154, 0, 9, 42, 4, 182, 0, 60, 172, 28, 3, 17, 0, 240, 184, 0, 52, 154, 0, 9, 42, 5, 182, 0, 60, 172, 42, 180, 0, 19, 27, 182, 0, 90, 192, 0, 122, 78, 45, 180, 0, 124, 4, 159, 0, 9, 42, 6, 182, 0, 60, 172, 45, 28, 181, 0, 252, 45], [181, 0, 252, 45, 182, 0, 255, 172]]
theorem zE_cX11_late : zTab cX11_late.data.toList zT_cX11_late = true := by decide +kernel
theorem dX11_late_0 : decode cX11_late 0 = .ok (.aload_n 0, 1) := dz_aload_n_0 (y0 zE_cX11_late 0 0 (by decide +kernel))
theorem dX11_late_1 : decode cX11_late 1 = .ok (.iconst 0, 1) := dz_iconst_0 (y0 zE_cX11_late 0 1 (by decide +kernel))
theorem dX11_late_2 : decode cX11_late 2 = .ok (.putfield 44, 3) := dz_putfield (yu2 zE_cX11_late 0 2 (by decide +kernel))
theorem dX11_late_5 : decode cX11_late 5 = .ok (.aload_n 0, 1) := dz_aload_n_0 (y0 zE_cX11_late 0 5 (by decide +kernel))
theorem dX11_late_6 : decode cX11_late 6 = .ok (.iload_n 1, 1) := dz_iload_n_1 (y0 zE_cX11_late 0 6 (by decide +kernel))
theorem dX11_late_7 : decode cX11_late 7 = .ok (.invokevirtual 216, 3) := dz_invokevirtual (yu2 zE_cX11_late 0 7 (by decide +kernel))
theorem dX11_late_10 : decode cX11_late 10 = .ok (.ifCond .ne 9, 3) := dz_ifCond_ne (ys2 zE_cX11_late 0 10 (by decide +kernel))
theorem dX11_late_13 : decode cX11_late 13 = .ok (.aload_n 0, 1) := dz_aload_n_0 (y0 zE_cX11_late 0 13 (by decide +kernel))
theorem dX11_late_14 : decode cX11_late 14 = .ok (.iconst 1, 1) := dz_iconst_1 (y0 zE_cX11_late 0 14 (by decide +kernel))
theorem dX11_late_15 : decode cX11_late 15 = .ok (.invokevirtual 60, 3) := dz_invokevirtual (yu2 zE_cX11_late 0 15 (by decide +kernel))
theorem dX11_late_18 : decode cX11_late 18 = .ok (.ireturn, 1) := dz_ireturn (y0 zE_cX11_late 0 18 (by decide +kernel))
theorem dX11_late_19 : decode cX11_late 19 = .ok (.iload_n 2, 1) := dz_iload_n_2 (y0 zE_cX11_late 0 19 (by decide +kernel))
theorem dX11_late_20 : decode cX11_late 20 = .ok (.iconst 0, 1) := dz_iconst_0 (y0 zE_cX11_late 0 20 (by decide +kernel))
theorem dX11_late_21 : decode cX11_late 21 = .ok (.sipush 240, 3) := dz_sipush (ys2 zE_cX11_late 0 21 (by decide +kernel))
theorem dX11_late_24 : decode cX11_late 24 = .ok (.invokestatic 52, 3) := dz_invokestatic (yu2 zE_cX11_late 0 24 (by decide +kernel))
theorem dX11_late_27 : decode cX11_late 27 = .ok (.ifCond .ne 9, 3) := dz_ifCond_ne (ys2 zE_cX11_late 0 27 (by decide +kernel))
theorem dX11_late_30 : decode cX11_late 30 = .ok (.aload_n 0, 1) := dz_aload_n_0 (y0 zE_cX11_late 0 30 (by decide +kernel))
theorem dX11_late_31 : decode cX11_late 31 = .ok (.iconst 2, 1) := dz_iconst_2 (y0 zE_cX11_late 0 31 (by decide +kernel))
theorem dX11_late_32 : decode cX11_late 32 = .ok (.invokevirtual 60, 3) := dz_invokevirtual (yu2 zE_cX11_late 0 32 (by decide +kernel))
theorem dX11_late_35 : decode cX11_late 35 = .ok (.ireturn, 1) := dz_ireturn (y0 zE_cX11_late 0 35 (by decide +kernel))
theorem dX11_late_36 : decode cX11_late 36 = .ok (.aload_n 0, 1) := dz_aload_n_0 (y0 zE_cX11_late 0 36 (by decide +kernel))
theorem dX11_late_37 : decode cX11_late 37 = .ok (.getfield 19, 3) := dz_getfield (yu2 zE_cX11_late 0 37 (by decide +kernel))
theorem dX11_late_40 : decode cX11_late 40 = .ok (.iload_n 1, 1) := dz_iload_n_1 (y0 zE_cX11_late 0 40 (by decide +kernel))
theorem dX11_late_41 : decode cX11_late 41 = .ok (.invokevirtual 90, 3) := dz_invokevirtual (yu2 zE_cX11_late 0 41 (by decide +kernel))
theorem dX11_late_44 : decode cX11_late 44 = .ok (.checkcast 122, 3) := dz_checkcast (yu2 zE_cX11_late 0 44 (by decide +kernel))
theorem dX11_late_47 : decode cX11_late 47 = .ok (.astore_n 3, 1) := dz_astore_n_3 (y0 zE_cX11_late 0 47 (by decide +kernel))
theorem dX11_late_48 : decode cX11_late 48 = .ok (.aload_n 3, 1) := dz_aload_n_3 (y0 zE_cX11_late 0 48 (by decide +kernel))
theorem dX11_late_49 : decode cX11_late 49 = .ok (.getfield 124, 3) := dz_getfield (yu2 zE_cX11_late 0 49 (by decide +kernel))
theorem dX11_late_52 : decode cX11_late 52 = .ok (.iconst 1, 1) := dz_iconst_1 (y0 zE_cX11_late 0 52 (by decide +kernel))
theorem dX11_late_53 : decode cX11_late 53 = .ok (.if_icmp .eq 9, 3) := dz_if_icmp_eq (ys2 zE_cX11_late 0 53 (by decide +kernel))
theorem dX11_late_56 : decode cX11_late 56 = .ok (.aload_n 0, 1) := dz_aload_n_0 (y0 zE_cX11_late 0 56 (by decide +kernel))
theorem dX11_late_57 : decode cX11_late 57 = .ok (.iconst 3, 1) := dz_iconst_3 (y0 zE_cX11_late 0 57 (by decide +kernel))
theorem dX11_late_58 : decode cX11_late 58 = .ok (.invokevirtual 60, 3) := dz_invokevirtual (yu2 zE_cX11_late 0 58 (by decide +kernel))
theorem dX11_late_61 : decode cX11_late 61 = .ok (.ireturn, 1) := dz_ireturn (y0 zE_cX11_late 0 61 (by decide +kernel))
theorem dX11_late_62 : decode cX11_late 62 = .ok (.aload_n 3, 1) := dz_aload_n_3 (y0 zE_cX11_late 0 62 (by decide +kernel))
theorem dX11_late_63 : decode cX11_late 63 = .ok (.iload_n 2, 1) := dz_iload_n_2 (y0 zE_cX11_late 0 63 (by decide +kernel))
theorem dX11_late_64 : decode cX11_late 64 = .ok (.putfield 252, 3) := dz_putfield (yu2 zE_cX11_late 1 0 (by decide +kernel))
theorem dX11_late_67 : decode cX11_late 67 = .ok (.aload_n 3, 1) := dz_aload_n_3 (y0 zE_cX11_late 1 3 (by decide +kernel))
theorem dX11_late_68 : decode cX11_late 68 = .ok (.invokevirtual 255, 3) := dz_invokevirtual (yu2 zE_cX11_late 1 4 (by decide +kernel))
theorem dX11_late_71 : decode cX11_late 71 = .ok (.ireturn, 1) := dz_ireturn (y0 zE_cX11_late 1 7 (by decide +kernel))
theorem gd_wsX11_fees : wsX11_fees.all goodWord = true := by decide +kernel
set_option maxRecDepth 20000 in
theorem ggX11_fees_Jx4a65c_size_8abf5 : GoodIn wsX11_fees wsJx4a65c_size_8abf5 := gi_q gd_wsX11_fees _ [(7, 2), (50, 3)] rfl
set_option maxRecDepth 20000 in
theorem gX11_fees_Jx4a65c_size_8abf5 : GoodIn wsX11_fees (wsV RX11 48 RJx4a65c yJx4a65c_size_8abf5 wsJx4a65c_size_8abf5) := goodIn_app (gi_q gd_wsX11_fees _ [(3, 4)] rfl) ggX11_fees_Jx4a65c_size_8abf5
set_option maxRecDepth 20000 in
theorem ggX11_fees_X11_isIn : GoodIn wsX11_fees wsX11_isIn := gi_q gd_wsX11_fees _ [(12, 1)] rfl
set_option maxRecDepth 20000 in
theorem gX11_fees_X11_isIn : GoodIn wsX11_fees (va_wsS RX11 102 yX11_isIn wsX11_isIn) := goodIn_app (gi_q gd_wsX11_fees _ [(9, 3)] rfl) ggX11_fees_X11_isIn
set_option maxRecDepth 20000 in
theorem ggX11_fees_Jx4a65c_get_915e3 : GoodIn wsX11_fees wsJx4a65c_get_915e3 := gi_q gd_wsX11_fees _ [(16, 1), (8, 1), (17, 11), (6, 1), (28, 2), (50, 3)] rfl
set_option maxRecDepth 20000 in
theorem gX11_fees_Jx4a65c_get_915e3 : GoodIn wsX11_fees (wsV RX11 90 RJx4a65c yJx4a65c_get_915e3 wsJx4a65c_get_915e3) := goodIn_app (gi_q gd_wsX11_fees _ [(13, 3), (6, 1)] rfl) ggX11_fees_Jx4a65c_get_915e3
def zT_cX11_fees : List (List Nat) := [[3, 61, 3, 62, 29, 42, 180, 0, 10, 182, 0, 48, 162, 0, 38, 28, 27, 29, 184, 0, 102, 153, 0, 20, 42, 180, 0, 10, 29, 182, 0, 90, 192, 0, 68, 180, 0, 80, 167, 0, 4, 3, 96, 61, 132, 3, 1, 167, 255, 213, 28, 172]]
theorem zE_cX11_fees : zTab cX11_fees.data.toList zT_cX11_fees = true := by decide +kernel
theorem dX11_fees_0 : decode cX11_fees 0 = .ok (.iconst 0, 1) := dz_iconst_0 (y0 zE_cX11_fees 0 0 (by decide +kernel))
theorem dX11_fees_1 : decode cX11_fees 1 = .ok (.istore_n 2, 1) := dz_istore_n_2 (y0 zE_cX11_fees 0 1 (by decide +kernel))
theorem dX11_fees_2 : decode cX11_fees 2 = .ok (.iconst 0, 1) := dz_iconst_0 (y0 zE_cX11_fees 0 2 (by decide +kernel))
theorem dX11_fees_3 : decode cX11_fees 3 = .ok (.istore_n 3, 1) := dz_istore_n_3 (y0 zE_cX11_fees 0 3 (by decide +kernel))
theorem dX11_fees_4 : decode cX11_fees 4 = .ok (.iload_n 3, 1) := dz_iload_n_3 (y0 zE_cX11_fees 0 4 (by decide +kernel))
theorem dX11_fees_5 : decode cX11_fees 5 = .ok (.aload_n 0, 1) := dz_aload_n_0 (y0 zE_cX11_fees 0 5 (by decide +kernel))
theorem dX11_fees_6 : decode cX11_fees 6 = .ok (.getfield 10, 3) := dz_getfield (yu2 zE_cX11_fees 0 6 (by decide +kernel))
theorem dX11_fees_9 : decode cX11_fees 9 = .ok (.invokevirtual 48, 3) := dz_invokevirtual (yu2 zE_cX11_fees 0 9 (by decide +kernel))
theorem dX11_fees_12 : decode cX11_fees 12 = .ok (.if_icmp .ge 38, 3) := dz_if_icmp_ge (ys2 zE_cX11_fees 0 12 (by decide +kernel))
theorem dX11_fees_15 : decode cX11_fees 15 = .ok (.iload_n 2, 1) := dz_iload_n_2 (y0 zE_cX11_fees 0 15 (by decide +kernel))
theorem dX11_fees_16 : decode cX11_fees 16 = .ok (.iload_n 1, 1) := dz_iload_n_1 (y0 zE_cX11_fees 0 16 (by decide +kernel))
theorem dX11_fees_17 : decode cX11_fees 17 = .ok (.iload_n 3, 1) := dz_iload_n_3 (y0 zE_cX11_fees 0 17 (by decide +kernel))
theorem dX11_fees_18 : decode cX11_fees 18 = .ok (.invokestatic 102, 3) := dz_invokestatic (yu2 zE_cX11_fees 0 18 (by decide +kernel))
theorem dX11_fees_21 : decode cX11_fees 21 = .ok (.ifCond .eq 20, 3) := dz_ifCond_eq (ys2 zE_cX11_fees 0 21 (by decide +kernel))
theorem dX11_fees_24 : decode cX11_fees 24 = .ok (.aload_n 0, 1) := dz_aload_n_0 (y0 zE_cX11_fees 0 24 (by decide +kernel))
theorem dX11_fees_25 : decode cX11_fees 25 = .ok (.getfield 10, 3) := dz_getfield (yu2 zE_cX11_fees 0 25 (by decide +kernel))
theorem dX11_fees_28 : decode cX11_fees 28 = .ok (.iload_n 3, 1) := dz_iload_n_3 (y0 zE_cX11_fees 0 28 (by decide +kernel))
theorem dX11_fees_29 : decode cX11_fees 29 = .ok (.invokevirtual 90, 3) := dz_invokevirtual (yu2 zE_cX11_fees 0 29 (by decide +kernel))
theorem dX11_fees_32 : decode cX11_fees 32 = .ok (.checkcast 68, 3) := dz_checkcast (yu2 zE_cX11_fees 0 32 (by decide +kernel))
theorem dX11_fees_35 : decode cX11_fees 35 = .ok (.getfield 80, 3) := dz_getfield (yu2 zE_cX11_fees 0 35 (by decide +kernel))
theorem dX11_fees_38 : decode cX11_fees 38 = .ok (.goto 4, 3) := dz_goto (ys2 zE_cX11_fees 0 38 (by decide +kernel))
theorem dX11_fees_41 : decode cX11_fees 41 = .ok (.iconst 0, 1) := dz_iconst_0 (y0 zE_cX11_fees 0 41 (by decide +kernel))
theorem dX11_fees_42 : decode cX11_fees 42 = .ok (.iadd, 1) := dz_iadd (y0 zE_cX11_fees 0 42 (by decide +kernel))
theorem dX11_fees_43 : decode cX11_fees 43 = .ok (.istore_n 2, 1) := dz_istore_n_2 (y0 zE_cX11_fees 0 43 (by decide +kernel))
theorem dX11_fees_44 : decode cX11_fees 44 = .ok (.iinc 3 1, 3) := dz_iinc (yii zE_cX11_fees 0 44 (by decide +kernel))
theorem dX11_fees_47 : decode cX11_fees 47 = .ok (.goto (-43), 3) := dz_goto (ys2 zE_cX11_fees 0 47 (by decide +kernel))
theorem dX11_fees_50 : decode cX11_fees 50 = .ok (.iload_n 2, 1) := dz_iload_n_2 (y0 zE_cX11_fees 0 50 (by decide +kernel))
theorem dX11_fees_51 : decode cX11_fees 51 = .ok (.ireturn, 1) := dz_ireturn (y0 zE_cX11_fees 0 51 (by decide +kernel))
theorem gd_wsX11_earnedAt : wsX11_earnedAt.all goodWord = true := by decide +kernel
set_option maxRecDepth 20000 in
theorem ggX11_earnedAt_X11_cost : GoodIn wsX11_earnedAt wsX11_cost := gi_q gd_wsX11_earnedAt _ [(7, 1), (1, 2), (8, 22), (6, 1), (30, 2), (44, 35)] rfl
set_option maxRecDepth 20000 in
theorem gX11_earnedAt_X11_cost : GoodIn wsX11_earnedAt (wsV RX11 173 RX11 yX11_cost wsX11_cost) := goodIn_app (gi_q gd_wsX11_earnedAt _ [(3, 4)] rfl) ggX11_earnedAt_X11_cost
set_option maxRecDepth 20000 in
theorem ggX11_earnedAt_X10_quarters : GoodIn wsX11_earnedAt wsX10_quarters := gi_q gd_wsX11_earnedAt _ [(36, 8), (64, 12)] rfl
set_option maxRecDepth 20000 in
theorem gX11_earnedAt_X10_quarters : GoodIn wsX11_earnedAt (wsV RX11 255 RX10 yX10_quarters wsX10_quarters) := goodIn_app (gi_q gd_wsX11_earnedAt _ [(32, 4)] rfl) ggX11_earnedAt_X10_quarters
set_option maxRecDepth 20000 in
theorem ggX11_earnedAt_Jx4a65c_get_915e3 : GoodIn wsX11_earnedAt wsJx4a65c_get_915e3 := gi_q gd_wsX11_earnedAt _ [(12, 13), (11, 1), (25, 2), (76, 3)] rfl
set_option maxRecDepth 20000 in
theorem gX11_earnedAt_Jx4a65c_get_915e3 : GoodIn wsX11_earnedAt (wsV RX11 90 RJx4a65c yJx4a65c_get_915e3 wsJx4a65c_get_915e3) := goodIn_app (gi_q gd_wsX11_earnedAt _ [(8, 4)] rfl) ggX11_earnedAt_Jx4a65c_get_915e3
def zT_cX11_earnedAt : List (List Nat) := [[42, 27, 44, 182, 0, 173, 44, 182, 0, 255, 42, 180, 0, 10, 27, 182, 0, 90, 192, 0, 68, 180, 0, 80, 104, 7, 108, 96, 172]]
theorem zE_cX11_earnedAt : zTab cX11_earnedAt.data.toList zT_cX11_earnedAt = true := by decide +kernel
theorem dX11_earnedAt_0 : decode cX11_earnedAt 0 = .ok (.aload_n 0, 1) := dz_aload_n_0 (y0 zE_cX11_earnedAt 0 0 (by decide +kernel))
theorem dX11_earnedAt_1 : decode cX11_earnedAt 1 = .ok (.iload_n 1, 1) := dz_iload_n_1 (y0 zE_cX11_earnedAt 0 1 (by decide +kernel))
theorem dX11_earnedAt_2 : decode cX11_earnedAt 2 = .ok (.aload_n 2, 1) := dz_aload_n_2 (y0 zE_cX11_earnedAt 0 2 (by decide +kernel))
theorem dX11_earnedAt_3 : decode cX11_earnedAt 3 = .ok (.invokevirtual 173, 3) := dz_invokevirtual (yu2 zE_cX11_earnedAt 0 3 (by decide +kernel))
theorem dX11_earnedAt_6 : decode cX11_earnedAt 6 = .ok (.aload_n 2, 1) := dz_aload_n_2 (y0 zE_cX11_earnedAt 0 6 (by decide +kernel))
theorem dX11_earnedAt_7 : decode cX11_earnedAt 7 = .ok (.invokevirtual 255, 3) := dz_invokevirtual (yu2 zE_cX11_earnedAt 0 7 (by decide +kernel))
theorem dX11_earnedAt_10 : decode cX11_earnedAt 10 = .ok (.aload_n 0, 1) := dz_aload_n_0 (y0 zE_cX11_earnedAt 0 10 (by decide +kernel))
theorem dX11_earnedAt_11 : decode cX11_earnedAt 11 = .ok (.getfield 10, 3) := dz_getfield (yu2 zE_cX11_earnedAt 0 11 (by decide +kernel))
theorem dX11_earnedAt_14 : decode cX11_earnedAt 14 = .ok (.iload_n 1, 1) := dz_iload_n_1 (y0 zE_cX11_earnedAt 0 14 (by decide +kernel))
theorem dX11_earnedAt_15 : decode cX11_earnedAt 15 = .ok (.invokevirtual 90, 3) := dz_invokevirtual (yu2 zE_cX11_earnedAt 0 15 (by decide +kernel))
theorem dX11_earnedAt_18 : decode cX11_earnedAt 18 = .ok (.checkcast 68, 3) := dz_checkcast (yu2 zE_cX11_earnedAt 0 18 (by decide +kernel))
theorem dX11_earnedAt_21 : decode cX11_earnedAt 21 = .ok (.getfield 80, 3) := dz_getfield (yu2 zE_cX11_earnedAt 0 21 (by decide +kernel))
theorem dX11_earnedAt_24 : decode cX11_earnedAt 24 = .ok (.imul, 1) := dz_imul (y0 zE_cX11_earnedAt 0 24 (by decide +kernel))
theorem dX11_earnedAt_25 : decode cX11_earnedAt 25 = .ok (.iconst 4, 1) := dz_iconst_4 (y0 zE_cX11_earnedAt 0 25 (by decide +kernel))
theorem dX11_earnedAt_26 : decode cX11_earnedAt 26 = .ok (.idiv, 1) := dz_idiv (y0 zE_cX11_earnedAt 0 26 (by decide +kernel))
theorem dX11_earnedAt_27 : decode cX11_earnedAt 27 = .ok (.iadd, 1) := dz_iadd (y0 zE_cX11_earnedAt 0 27 (by decide +kernel))
theorem dX11_earnedAt_28 : decode cX11_earnedAt 28 = .ok (.ireturn, 1) := dz_ireturn (y0 zE_cX11_earnedAt 0 28 (by decide +kernel))
theorem gd_wsX11_gain : wsX11_gain.all goodWord = true := by decide +kernel
set_option maxRecDepth 20000 in
theorem ggX11_gain_X10_quarters : GoodIn wsX11_gain wsX10_quarters := gi_q gd_wsX11_gain _ [(6, 8), (59, 12)] rfl
set_option maxRecDepth 20000 in
theorem gX11_gain_X10_quarters : GoodIn wsX11_gain (wsV RX11 255 RX10 yX10_quarters wsX10_quarters) := goodIn_app (gi_q gd_wsX11_gain _ [(2, 4)] rfl) ggX11_gain_X10_quarters
set_option maxRecDepth 20000 in
theorem ggX11_gain_X11_fees : GoodIn wsX11_gain wsX11_fees := gi_q gd_wsX11_gain _ [(18, 1), (1, 1), (19, 9), (17, 1), (28, 18), (71, 23)] rfl
set_option maxRecDepth 20000 in
theorem gX11_gain_X11_fees : GoodIn wsX11_gain (wsV RX11 258 RX11 yX11_fees wsX11_fees) := goodIn_app (gi_q gd_wsX11_gain _ [(14, 4)] rfl) ggX11_gain_X11_fees
set_option maxRecDepth 20000 in
theorem ggX11_gain_Jx4a65c_size_8abf5 : GoodIn wsX11_gain wsJx4a65c_size_8abf5 := gi_q gd_wsX11_gain _ [(24, 2), (91, 3)] rfl
set_option maxRecDepth 20000 in
theorem gX11_gain_Jx4a65c_size_8abf5 : GoodIn wsX11_gain (wsV RX11 48 RJx4a65c yJx4a65c_size_8abf5 wsJx4a65c_size_8abf5) := goodIn_app (gi_q gd_wsX11_gain _ [(20, 4)] rfl) ggX11_gain_Jx4a65c_size_8abf5
set_option maxRecDepth 20000 in
theorem ggX11_gain_X11_isIn : GoodIn wsX11_gain wsX11_isIn := gi_q gd_wsX11_gain _ [(28, 1)] rfl
set_option maxRecDepth 20000 in
theorem gX11_gain_X11_isIn : GoodIn wsX11_gain (va_wsS RX11 102 yX11_isIn wsX11_isIn) := goodIn_app (gi_q gd_wsX11_gain _ [(26, 2), (17, 1)] rfl) ggX11_gain_X11_isIn
set_option maxRecDepth 20000 in
theorem ggX11_gain_X11_earnedAt : GoodIn wsX11_gain wsX11_earnedAt := gi_q gd_wsX11_gain _ [(49, 1), (1, 1), (19, 1), (50, 3), (17, 1), (53, 1), (29, 3), (23, 1), (32, 1), (25, 1), (33, 13), (54, 5), (2, 12), (71, 20), (59, 12), (91, 3)] rfl
set_option maxRecDepth 20000 in
theorem gX11_gain_X11_earnedAt : GoodIn wsX11_gain (wsV RX11 261 RX11 yX11_earnedAt wsX11_earnedAt) := goodIn_app (gi_q gd_wsX11_gain _ [(46, 3), (17, 1)] rfl) ggX11_gain_X11_earnedAt
def zT_cX11_gain : List (List Nat) := [[43, 180, 0, 207, 43, 180, 0, 210, 100, 43, 182, 0, 255, 42, 43, 180, 0, 160, 182, 1, 2, 104, 7, 108, 96, 61, 3, 62, 29, 42, 180, 0, 10, 182, 0, 48, 162, 0, 33, 28, 43, 180, 0, 160, 29, 184, 0, 102, 153, 0, 12, 42, 29, 43, 182, 1, 5, 167, 0, 4, 3, 100, 61, 132, 3, 1, 167, 255], [3, 1, 167, 255, 218, 28, 172]]
theorem zE_cX11_gain : zTab cX11_gain.data.toList zT_cX11_gain = true := by decide +kernel
theorem dX11_gain_0 : decode cX11_gain 0 = .ok (.aload_n 1, 1) := dz_aload_n_1 (y0 zE_cX11_gain 0 0 (by decide +kernel))
theorem dX11_gain_1 : decode cX11_gain 1 = .ok (.getfield 207, 3) := dz_getfield (yu2 zE_cX11_gain 0 1 (by decide +kernel))
theorem dX11_gain_4 : decode cX11_gain 4 = .ok (.aload_n 1, 1) := dz_aload_n_1 (y0 zE_cX11_gain 0 4 (by decide +kernel))
theorem dX11_gain_5 : decode cX11_gain 5 = .ok (.getfield 210, 3) := dz_getfield (yu2 zE_cX11_gain 0 5 (by decide +kernel))
theorem dX11_gain_8 : decode cX11_gain 8 = .ok (.isub, 1) := dz_isub (y0 zE_cX11_gain 0 8 (by decide +kernel))
theorem dX11_gain_9 : decode cX11_gain 9 = .ok (.aload_n 1, 1) := dz_aload_n_1 (y0 zE_cX11_gain 0 9 (by decide +kernel))
theorem dX11_gain_10 : decode cX11_gain 10 = .ok (.invokevirtual 255, 3) := dz_invokevirtual (yu2 zE_cX11_gain 0 10 (by decide +kernel))
theorem dX11_gain_13 : decode cX11_gain 13 = .ok (.aload_n 0, 1) := dz_aload_n_0 (y0 zE_cX11_gain 0 13 (by decide +kernel))
theorem dX11_gain_14 : decode cX11_gain 14 = .ok (.aload_n 1, 1) := dz_aload_n_1 (y0 zE_cX11_gain 0 14 (by decide +kernel))
theorem dX11_gain_15 : decode cX11_gain 15 = .ok (.getfield 160, 3) := dz_getfield (yu2 zE_cX11_gain 0 15 (by decide +kernel))
theorem dX11_gain_18 : decode cX11_gain 18 = .ok (.invokevirtual 258, 3) := dz_invokevirtual (yu2 zE_cX11_gain 0 18 (by decide +kernel))
theorem dX11_gain_21 : decode cX11_gain 21 = .ok (.imul, 1) := dz_imul (y0 zE_cX11_gain 0 21 (by decide +kernel))
theorem dX11_gain_22 : decode cX11_gain 22 = .ok (.iconst 4, 1) := dz_iconst_4 (y0 zE_cX11_gain 0 22 (by decide +kernel))
theorem dX11_gain_23 : decode cX11_gain 23 = .ok (.idiv, 1) := dz_idiv (y0 zE_cX11_gain 0 23 (by decide +kernel))
theorem dX11_gain_24 : decode cX11_gain 24 = .ok (.iadd, 1) := dz_iadd (y0 zE_cX11_gain 0 24 (by decide +kernel))
theorem dX11_gain_25 : decode cX11_gain 25 = .ok (.istore_n 2, 1) := dz_istore_n_2 (y0 zE_cX11_gain 0 25 (by decide +kernel))
theorem dX11_gain_26 : decode cX11_gain 26 = .ok (.iconst 0, 1) := dz_iconst_0 (y0 zE_cX11_gain 0 26 (by decide +kernel))
theorem dX11_gain_27 : decode cX11_gain 27 = .ok (.istore_n 3, 1) := dz_istore_n_3 (y0 zE_cX11_gain 0 27 (by decide +kernel))
theorem dX11_gain_28 : decode cX11_gain 28 = .ok (.iload_n 3, 1) := dz_iload_n_3 (y0 zE_cX11_gain 0 28 (by decide +kernel))
theorem dX11_gain_29 : decode cX11_gain 29 = .ok (.aload_n 0, 1) := dz_aload_n_0 (y0 zE_cX11_gain 0 29 (by decide +kernel))
theorem dX11_gain_30 : decode cX11_gain 30 = .ok (.getfield 10, 3) := dz_getfield (yu2 zE_cX11_gain 0 30 (by decide +kernel))
theorem dX11_gain_33 : decode cX11_gain 33 = .ok (.invokevirtual 48, 3) := dz_invokevirtual (yu2 zE_cX11_gain 0 33 (by decide +kernel))
theorem dX11_gain_36 : decode cX11_gain 36 = .ok (.if_icmp .ge 33, 3) := dz_if_icmp_ge (ys2 zE_cX11_gain 0 36 (by decide +kernel))
theorem dX11_gain_39 : decode cX11_gain 39 = .ok (.iload_n 2, 1) := dz_iload_n_2 (y0 zE_cX11_gain 0 39 (by decide +kernel))
theorem dX11_gain_40 : decode cX11_gain 40 = .ok (.aload_n 1, 1) := dz_aload_n_1 (y0 zE_cX11_gain 0 40 (by decide +kernel))
theorem dX11_gain_41 : decode cX11_gain 41 = .ok (.getfield 160, 3) := dz_getfield (yu2 zE_cX11_gain 0 41 (by decide +kernel))
theorem dX11_gain_44 : decode cX11_gain 44 = .ok (.iload_n 3, 1) := dz_iload_n_3 (y0 zE_cX11_gain 0 44 (by decide +kernel))
theorem dX11_gain_45 : decode cX11_gain 45 = .ok (.invokestatic 102, 3) := dz_invokestatic (yu2 zE_cX11_gain 0 45 (by decide +kernel))
theorem dX11_gain_48 : decode cX11_gain 48 = .ok (.ifCond .eq 12, 3) := dz_ifCond_eq (ys2 zE_cX11_gain 0 48 (by decide +kernel))
theorem dX11_gain_51 : decode cX11_gain 51 = .ok (.aload_n 0, 1) := dz_aload_n_0 (y0 zE_cX11_gain 0 51 (by decide +kernel))
theorem dX11_gain_52 : decode cX11_gain 52 = .ok (.iload_n 3, 1) := dz_iload_n_3 (y0 zE_cX11_gain 0 52 (by decide +kernel))
theorem dX11_gain_53 : decode cX11_gain 53 = .ok (.aload_n 1, 1) := dz_aload_n_1 (y0 zE_cX11_gain 0 53 (by decide +kernel))
theorem dX11_gain_54 : decode cX11_gain 54 = .ok (.invokevirtual 261, 3) := dz_invokevirtual (yu2 zE_cX11_gain 0 54 (by decide +kernel))
theorem dX11_gain_57 : decode cX11_gain 57 = .ok (.goto 4, 3) := dz_goto (ys2 zE_cX11_gain 0 57 (by decide +kernel))
theorem dX11_gain_60 : decode cX11_gain 60 = .ok (.iconst 0, 1) := dz_iconst_0 (y0 zE_cX11_gain 0 60 (by decide +kernel))
theorem dX11_gain_61 : decode cX11_gain 61 = .ok (.isub, 1) := dz_isub (y0 zE_cX11_gain 0 61 (by decide +kernel))
theorem dX11_gain_62 : decode cX11_gain 62 = .ok (.istore_n 2, 1) := dz_istore_n_2 (y0 zE_cX11_gain 0 62 (by decide +kernel))
theorem dX11_gain_63 : decode cX11_gain 63 = .ok (.iinc 3 1, 3) := dz_iinc (yii zE_cX11_gain 0 63 (by decide +kernel))
theorem dX11_gain_66 : decode cX11_gain 66 = .ok (.goto (-38), 3) := dz_goto (ys2 zE_cX11_gain 1 2 (by decide +kernel))
theorem dX11_gain_69 : decode cX11_gain 69 = .ok (.iload_n 2, 1) := dz_iload_n_2 (y0 zE_cX11_gain 1 5 (by decide +kernel))
theorem dX11_gain_70 : decode cX11_gain 70 = .ok (.ireturn, 1) := dz_ireturn (y0 zE_cX11_gain 1 6 (by decide +kernel))
theorem gd_wsX11_playNow : wsX11_playNow.all goodWord = true := by decide +kernel
set_option maxRecDepth 20000 in
theorem ggX11_playNow_X11_gain : GoodIn wsX11_playNow wsX11_gain := gi_q gd_wsX11_playNow _ [(9, 1), (2, 1), (10, 15), (8, 1), (25, 1), (3, 1), (26, 39), (113, 12), (100, 13), (125, 10)] rfl
set_option maxRecDepth 20000 in
theorem gX11_playNow_X11_gain : GoodIn wsX11_playNow (wsV RX11 264 RX11 yX11_gain wsX11_gain) := goodIn_app (gi_q gd_wsX11_playNow _ [(5, 4)] rfl) ggX11_playNow_X11_gain
set_option maxRecDepth 20000 in
theorem ggX11_playNow_X10_quarters : GoodIn wsX11_playNow wsX10_quarters := gi_q gd_wsX11_playNow _ [(14, 8), (113, 12)] rfl
set_option maxRecDepth 20000 in
theorem gX11_playNow_X10_quarters : GoodIn wsX11_playNow (wsV RX11 255 RX10 yX10_quarters wsX10_quarters) := goodIn_app (gi_q gd_wsX11_playNow _ [(10, 4)] rfl) ggX11_playNow_X10_quarters
set_option maxRecDepth 20000 in
theorem ggX11_playNow_X11_fees : GoodIn wsX11_playNow wsX11_fees := gi_q gd_wsX11_playNow _ [(25, 1), (2, 2), (26, 8), (8, 1), (34, 18), (100, 13), (125, 10)] rfl
set_option maxRecDepth 20000 in
theorem gX11_playNow_X11_fees : GoodIn wsX11_playNow (wsV RX11 258 RX11 yX11_fees wsX11_fees) := goodIn_app (gi_q gd_wsX11_playNow _ [(22, 3), (8, 1)] rfl) ggX11_playNow_X11_fees
set_option maxRecDepth 20000 in
theorem ggX11_playNow_Jx4a65c_size_8abf5 : GoodIn wsX11_playNow wsJx4a65c_size_8abf5 := gi_q gd_wsX11_playNow _ [(30, 2), (132, 3)] rfl
set_option maxRecDepth 20000 in
theorem gX11_playNow_Jx4a65c_size_8abf5 : GoodIn wsX11_playNow (wsV RX11 48 RJx4a65c yJx4a65c_size_8abf5 wsJx4a65c_size_8abf5) := goodIn_app (gi_q gd_wsX11_playNow _ [(26, 4)] rfl) ggX11_playNow_Jx4a65c_size_8abf5
set_option maxRecDepth 20000 in
theorem ggX11_playNow_X11_isIn : GoodIn wsX11_playNow wsX11_isIn := gi_q gd_wsX11_playNow _ [(34, 1)] rfl
set_option maxRecDepth 20000 in
theorem gX11_playNow_X11_isIn : GoodIn wsX11_playNow (va_wsS RX11 102 yX11_isIn wsX11_isIn) := goodIn_app (gi_q gd_wsX11_playNow _ [(32, 2), (8, 1)] rfl) ggX11_playNow_X11_isIn
set_option maxRecDepth 20000 in
theorem ggX11_playNow_Jx4a65c_get_915e3 : GoodIn wsX11_playNow wsJx4a65c_get_915e3 := gi_q gd_wsX11_playNow _ [(38, 1), (31, 1), (39, 11), (29, 1), (50, 2), (132, 3)] rfl
set_option maxRecDepth 20000 in
theorem gX11_playNow_Jx4a65c_get_915e3 : GoodIn wsX11_playNow (wsV RX11 90 RJx4a65c yJx4a65c_get_915e3 wsJx4a65c_get_915e3) := goodIn_app (gi_q gd_wsX11_playNow _ [(35, 3), (29, 1)] rfl) ggX11_playNow_Jx4a65c_get_915e3
set_option maxRecDepth 20000 in
theorem ggX11_playNow_X11_earnedAt : GoodIn wsX11_playNow wsX11_earnedAt := gi_q gd_wsX11_playNow _ [(55, 1), (2, 2), (56, 3), (8, 1), (59, 1), (35, 3), (29, 1), (38, 1), (31, 1), (39, 13), (60, 5), (10, 12), (100, 13), (125, 7), (113, 12), (132, 3)] rfl
set_option maxRecDepth 20000 in
theorem gX11_playNow_X11_earnedAt : GoodIn wsX11_playNow (wsV RX11 261 RX11 yX11_earnedAt wsX11_earnedAt) := goodIn_app (gi_q gd_wsX11_playNow _ [(52, 3), (8, 1)] rfl) ggX11_playNow_X11_earnedAt
set_option maxRecDepth 20000 in
theorem ggX11_playNow_X11_bestSet : GoodIn wsX11_playNow wsX11_bestSet := gi_q gd_wsX11_playNow _ [(68, 7), (20, 1), (75, 8), (8, 1), (83, 1), (2, 2), (26, 26), (84, 16), (19, 1), (21, 1), (100, 13), (125, 10)] rfl
set_option maxRecDepth 20000 in
theorem gX11_playNow_X11_bestSet : GoodIn wsX11_playNow (wsV RX11 270 RX11 yX11_bestSet wsX11_bestSet) := goodIn_app (gi_q gd_wsX11_playNow _ [(65, 3), (8, 1)] rfl) ggX11_playNow_X11_bestSet
def zT_cX11_playNow : List (List Nat) := [[42, 89, 180, 0, 213, 42, 43, 182, 1, 8, 96, 181, 0, 213, 43, 43, 180, 0, 207, 43, 182, 0, 255, 42, 43, 180, 0, 160, 182, 1, 2, 104, 7, 108, 96, 181, 0, 210, 3, 61, 28, 42, 180, 0, 10, 182, 0, 48, 162, 0, 45, 43, 180, 0, 160, 28, 184, 0, 102, 153, 0, 28, 42, 180, 0, 10, 28, 182], [0, 10, 28, 182, 0, 90, 192, 0, 68, 89, 180, 1, 11, 42, 28, 43, 182, 1, 5, 96, 181, 1, 11, 132, 2, 1, 167, 255, 206, 42, 43, 180, 0, 160, 182, 1, 14, 77, 44, 190, 62, 3, 54, 4, 21, 4, 29, 162, 0, 26, 44, 21, 4, 46, 54, 5, 42, 180, 0, 32, 21, 5, 92, 46, 4, 96, 79, 132], [4, 96, 79, 132, 4, 1, 167, 255, 230, 43, 5, 181, 0, 124, 177]]
theorem zE_cX11_playNow : zTab cX11_playNow.data.toList zT_cX11_playNow = true := by decide +kernel
theorem dX11_playNow_0 : decode cX11_playNow 0 = .ok (.aload_n 0, 1) := dz_aload_n_0 (y0 zE_cX11_playNow 0 0 (by decide +kernel))
theorem dX11_playNow_1 : decode cX11_playNow 1 = .ok (.dup, 1) := dz_dup (y0 zE_cX11_playNow 0 1 (by decide +kernel))
theorem dX11_playNow_2 : decode cX11_playNow 2 = .ok (.getfield 213, 3) := dz_getfield (yu2 zE_cX11_playNow 0 2 (by decide +kernel))
theorem dX11_playNow_5 : decode cX11_playNow 5 = .ok (.aload_n 0, 1) := dz_aload_n_0 (y0 zE_cX11_playNow 0 5 (by decide +kernel))
theorem dX11_playNow_6 : decode cX11_playNow 6 = .ok (.aload_n 1, 1) := dz_aload_n_1 (y0 zE_cX11_playNow 0 6 (by decide +kernel))
theorem dX11_playNow_7 : decode cX11_playNow 7 = .ok (.invokevirtual 264, 3) := dz_invokevirtual (yu2 zE_cX11_playNow 0 7 (by decide +kernel))
theorem dX11_playNow_10 : decode cX11_playNow 10 = .ok (.iadd, 1) := dz_iadd (y0 zE_cX11_playNow 0 10 (by decide +kernel))
theorem dX11_playNow_11 : decode cX11_playNow 11 = .ok (.putfield 213, 3) := dz_putfield (yu2 zE_cX11_playNow 0 11 (by decide +kernel))
theorem dX11_playNow_14 : decode cX11_playNow 14 = .ok (.aload_n 1, 1) := dz_aload_n_1 (y0 zE_cX11_playNow 0 14 (by decide +kernel))
theorem dX11_playNow_15 : decode cX11_playNow 15 = .ok (.aload_n 1, 1) := dz_aload_n_1 (y0 zE_cX11_playNow 0 15 (by decide +kernel))
theorem dX11_playNow_16 : decode cX11_playNow 16 = .ok (.getfield 207, 3) := dz_getfield (yu2 zE_cX11_playNow 0 16 (by decide +kernel))
theorem dX11_playNow_19 : decode cX11_playNow 19 = .ok (.aload_n 1, 1) := dz_aload_n_1 (y0 zE_cX11_playNow 0 19 (by decide +kernel))
theorem dX11_playNow_20 : decode cX11_playNow 20 = .ok (.invokevirtual 255, 3) := dz_invokevirtual (yu2 zE_cX11_playNow 0 20 (by decide +kernel))
theorem dX11_playNow_23 : decode cX11_playNow 23 = .ok (.aload_n 0, 1) := dz_aload_n_0 (y0 zE_cX11_playNow 0 23 (by decide +kernel))
theorem dX11_playNow_24 : decode cX11_playNow 24 = .ok (.aload_n 1, 1) := dz_aload_n_1 (y0 zE_cX11_playNow 0 24 (by decide +kernel))
theorem dX11_playNow_25 : decode cX11_playNow 25 = .ok (.getfield 160, 3) := dz_getfield (yu2 zE_cX11_playNow 0 25 (by decide +kernel))
theorem dX11_playNow_28 : decode cX11_playNow 28 = .ok (.invokevirtual 258, 3) := dz_invokevirtual (yu2 zE_cX11_playNow 0 28 (by decide +kernel))
theorem dX11_playNow_31 : decode cX11_playNow 31 = .ok (.imul, 1) := dz_imul (y0 zE_cX11_playNow 0 31 (by decide +kernel))
theorem dX11_playNow_32 : decode cX11_playNow 32 = .ok (.iconst 4, 1) := dz_iconst_4 (y0 zE_cX11_playNow 0 32 (by decide +kernel))
theorem dX11_playNow_33 : decode cX11_playNow 33 = .ok (.idiv, 1) := dz_idiv (y0 zE_cX11_playNow 0 33 (by decide +kernel))
theorem dX11_playNow_34 : decode cX11_playNow 34 = .ok (.iadd, 1) := dz_iadd (y0 zE_cX11_playNow 0 34 (by decide +kernel))
theorem dX11_playNow_35 : decode cX11_playNow 35 = .ok (.putfield 210, 3) := dz_putfield (yu2 zE_cX11_playNow 0 35 (by decide +kernel))
theorem dX11_playNow_38 : decode cX11_playNow 38 = .ok (.iconst 0, 1) := dz_iconst_0 (y0 zE_cX11_playNow 0 38 (by decide +kernel))
theorem dX11_playNow_39 : decode cX11_playNow 39 = .ok (.istore_n 2, 1) := dz_istore_n_2 (y0 zE_cX11_playNow 0 39 (by decide +kernel))
theorem dX11_playNow_40 : decode cX11_playNow 40 = .ok (.iload_n 2, 1) := dz_iload_n_2 (y0 zE_cX11_playNow 0 40 (by decide +kernel))
theorem dX11_playNow_41 : decode cX11_playNow 41 = .ok (.aload_n 0, 1) := dz_aload_n_0 (y0 zE_cX11_playNow 0 41 (by decide +kernel))
theorem dX11_playNow_42 : decode cX11_playNow 42 = .ok (.getfield 10, 3) := dz_getfield (yu2 zE_cX11_playNow 0 42 (by decide +kernel))
theorem dX11_playNow_45 : decode cX11_playNow 45 = .ok (.invokevirtual 48, 3) := dz_invokevirtual (yu2 zE_cX11_playNow 0 45 (by decide +kernel))
theorem dX11_playNow_48 : decode cX11_playNow 48 = .ok (.if_icmp .ge 45, 3) := dz_if_icmp_ge (ys2 zE_cX11_playNow 0 48 (by decide +kernel))
theorem dX11_playNow_51 : decode cX11_playNow 51 = .ok (.aload_n 1, 1) := dz_aload_n_1 (y0 zE_cX11_playNow 0 51 (by decide +kernel))
theorem dX11_playNow_52 : decode cX11_playNow 52 = .ok (.getfield 160, 3) := dz_getfield (yu2 zE_cX11_playNow 0 52 (by decide +kernel))
theorem dX11_playNow_55 : decode cX11_playNow 55 = .ok (.iload_n 2, 1) := dz_iload_n_2 (y0 zE_cX11_playNow 0 55 (by decide +kernel))
theorem dX11_playNow_56 : decode cX11_playNow 56 = .ok (.invokestatic 102, 3) := dz_invokestatic (yu2 zE_cX11_playNow 0 56 (by decide +kernel))
theorem dX11_playNow_59 : decode cX11_playNow 59 = .ok (.ifCond .eq 28, 3) := dz_ifCond_eq (ys2 zE_cX11_playNow 0 59 (by decide +kernel))
theorem dX11_playNow_62 : decode cX11_playNow 62 = .ok (.aload_n 0, 1) := dz_aload_n_0 (y0 zE_cX11_playNow 0 62 (by decide +kernel))
theorem dX11_playNow_63 : decode cX11_playNow 63 = .ok (.getfield 10, 3) := dz_getfield (yu2 zE_cX11_playNow 0 63 (by decide +kernel))
theorem dX11_playNow_66 : decode cX11_playNow 66 = .ok (.iload_n 2, 1) := dz_iload_n_2 (y0 zE_cX11_playNow 1 2 (by decide +kernel))
theorem dX11_playNow_67 : decode cX11_playNow 67 = .ok (.invokevirtual 90, 3) := dz_invokevirtual (yu2 zE_cX11_playNow 1 3 (by decide +kernel))
theorem dX11_playNow_70 : decode cX11_playNow 70 = .ok (.checkcast 68, 3) := dz_checkcast (yu2 zE_cX11_playNow 1 6 (by decide +kernel))
theorem dX11_playNow_73 : decode cX11_playNow 73 = .ok (.dup, 1) := dz_dup (y0 zE_cX11_playNow 1 9 (by decide +kernel))
theorem dX11_playNow_74 : decode cX11_playNow 74 = .ok (.getfield 267, 3) := dz_getfield (yu2 zE_cX11_playNow 1 10 (by decide +kernel))
theorem dX11_playNow_77 : decode cX11_playNow 77 = .ok (.aload_n 0, 1) := dz_aload_n_0 (y0 zE_cX11_playNow 1 13 (by decide +kernel))
theorem dX11_playNow_78 : decode cX11_playNow 78 = .ok (.iload_n 2, 1) := dz_iload_n_2 (y0 zE_cX11_playNow 1 14 (by decide +kernel))
theorem dX11_playNow_79 : decode cX11_playNow 79 = .ok (.aload_n 1, 1) := dz_aload_n_1 (y0 zE_cX11_playNow 1 15 (by decide +kernel))
theorem dX11_playNow_80 : decode cX11_playNow 80 = .ok (.invokevirtual 261, 3) := dz_invokevirtual (yu2 zE_cX11_playNow 1 16 (by decide +kernel))
theorem dX11_playNow_83 : decode cX11_playNow 83 = .ok (.iadd, 1) := dz_iadd (y0 zE_cX11_playNow 1 19 (by decide +kernel))
theorem dX11_playNow_84 : decode cX11_playNow 84 = .ok (.putfield 267, 3) := dz_putfield (yu2 zE_cX11_playNow 1 20 (by decide +kernel))
theorem dX11_playNow_87 : decode cX11_playNow 87 = .ok (.iinc 2 1, 3) := dz_iinc (yii zE_cX11_playNow 1 23 (by decide +kernel))
theorem dX11_playNow_90 : decode cX11_playNow 90 = .ok (.goto (-50), 3) := dz_goto (ys2 zE_cX11_playNow 1 26 (by decide +kernel))
theorem dX11_playNow_93 : decode cX11_playNow 93 = .ok (.aload_n 0, 1) := dz_aload_n_0 (y0 zE_cX11_playNow 1 29 (by decide +kernel))
theorem dX11_playNow_94 : decode cX11_playNow 94 = .ok (.aload_n 1, 1) := dz_aload_n_1 (y0 zE_cX11_playNow 1 30 (by decide +kernel))
theorem dX11_playNow_95 : decode cX11_playNow 95 = .ok (.getfield 160, 3) := dz_getfield (yu2 zE_cX11_playNow 1 31 (by decide +kernel))
theorem dX11_playNow_98 : decode cX11_playNow 98 = .ok (.invokevirtual 270, 3) := dz_invokevirtual (yu2 zE_cX11_playNow 1 34 (by decide +kernel))
theorem dX11_playNow_101 : decode cX11_playNow 101 = .ok (.astore_n 2, 1) := dz_astore_n_2 (y0 zE_cX11_playNow 1 37 (by decide +kernel))
theorem dX11_playNow_102 : decode cX11_playNow 102 = .ok (.aload_n 2, 1) := dz_aload_n_2 (y0 zE_cX11_playNow 1 38 (by decide +kernel))
theorem dX11_playNow_103 : decode cX11_playNow 103 = .ok (.arraylength, 1) := dz_arraylength (y0 zE_cX11_playNow 1 39 (by decide +kernel))
theorem dX11_playNow_104 : decode cX11_playNow 104 = .ok (.istore_n 3, 1) := dz_istore_n_3 (y0 zE_cX11_playNow 1 40 (by decide +kernel))
theorem dX11_playNow_105 : decode cX11_playNow 105 = .ok (.iconst 0, 1) := dz_iconst_0 (y0 zE_cX11_playNow 1 41 (by decide +kernel))
theorem dX11_playNow_106 : decode cX11_playNow 106 = .ok (.istore 4, 2) := dz_istore (yu1 zE_cX11_playNow 1 42 (by decide +kernel))
theorem dX11_playNow_108 : decode cX11_playNow 108 = .ok (.iload 4, 2) := dz_iload (yu1 zE_cX11_playNow 1 44 (by decide +kernel))
theorem dX11_playNow_110 : decode cX11_playNow 110 = .ok (.iload_n 3, 1) := dz_iload_n_3 (y0 zE_cX11_playNow 1 46 (by decide +kernel))
theorem dX11_playNow_111 : decode cX11_playNow 111 = .ok (.if_icmp .ge 26, 3) := dz_if_icmp_ge (ys2 zE_cX11_playNow 1 47 (by decide +kernel))
theorem dX11_playNow_114 : decode cX11_playNow 114 = .ok (.aload_n 2, 1) := dz_aload_n_2 (y0 zE_cX11_playNow 1 50 (by decide +kernel))
theorem dX11_playNow_115 : decode cX11_playNow 115 = .ok (.iload 4, 2) := dz_iload (yu1 zE_cX11_playNow 1 51 (by decide +kernel))
theorem dX11_playNow_117 : decode cX11_playNow 117 = .ok (.iaload, 1) := dz_iaload (y0 zE_cX11_playNow 1 53 (by decide +kernel))
theorem dX11_playNow_118 : decode cX11_playNow 118 = .ok (.istore 5, 2) := dz_istore (yu1 zE_cX11_playNow 1 54 (by decide +kernel))
theorem dX11_playNow_120 : decode cX11_playNow 120 = .ok (.aload_n 0, 1) := dz_aload_n_0 (y0 zE_cX11_playNow 1 56 (by decide +kernel))
theorem dX11_playNow_121 : decode cX11_playNow 121 = .ok (.getfield 32, 3) := dz_getfield (yu2 zE_cX11_playNow 1 57 (by decide +kernel))
theorem dX11_playNow_124 : decode cX11_playNow 124 = .ok (.iload 5, 2) := dz_iload (yu1 zE_cX11_playNow 1 60 (by decide +kernel))
theorem dX11_playNow_126 : decode cX11_playNow 126 = .ok (.dup2, 1) := dz_dup2 (y0 zE_cX11_playNow 1 62 (by decide +kernel))
theorem dX11_playNow_127 : decode cX11_playNow 127 = .ok (.iaload, 1) := dz_iaload (y0 zE_cX11_playNow 1 63 (by decide +kernel))
theorem dX11_playNow_128 : decode cX11_playNow 128 = .ok (.iconst 1, 1) := dz_iconst_1 (y0 zE_cX11_playNow 2 0 (by decide +kernel))
theorem dX11_playNow_129 : decode cX11_playNow 129 = .ok (.iadd, 1) := dz_iadd (y0 zE_cX11_playNow 2 1 (by decide +kernel))
theorem dX11_playNow_130 : decode cX11_playNow 130 = .ok (.iastore, 1) := dz_iastore (y0 zE_cX11_playNow 2 2 (by decide +kernel))
theorem dX11_playNow_131 : decode cX11_playNow 131 = .ok (.iinc 4 1, 3) := dz_iinc (yii zE_cX11_playNow 2 3 (by decide +kernel))
theorem dX11_playNow_134 : decode cX11_playNow 134 = .ok (.goto (-26), 3) := dz_goto (ys2 zE_cX11_playNow 2 6 (by decide +kernel))
theorem dX11_playNow_137 : decode cX11_playNow 137 = .ok (.aload_n 1, 1) := dz_aload_n_1 (y0 zE_cX11_playNow 2 9 (by decide +kernel))
theorem dX11_playNow_138 : decode cX11_playNow 138 = .ok (.iconst 2, 1) := dz_iconst_2 (y0 zE_cX11_playNow 2 10 (by decide +kernel))
theorem dX11_playNow_139 : decode cX11_playNow 139 = .ok (.putfield 124, 3) := dz_putfield (yu2 zE_cX11_playNow 2 11 (by decide +kernel))
theorem dX11_playNow_142 : decode cX11_playNow 142 = .ok (.return_, 1) := dz_return (y0 zE_cX11_playNow 2 14 (by decide +kernel))
theorem gd_wsX11_pass : wsX11_pass.all goodWord = true := by decide +kernel
set_option maxRecDepth 20000 in
theorem ggX11_pass_X11_is : GoodIn wsX11_pass wsX11_is := gi_q gd_wsX11_pass _ [(8, 1)] rfl
set_option maxRecDepth 20000 in
theorem gX11_pass_X11_is : GoodIn wsX11_pass (va_wsS RX11 52 yX11_is wsX11_is) := goodIn_app (gi_q gd_wsX11_pass _ [(5, 3)] rfl) ggX11_pass_X11_is
set_option maxRecDepth 20000 in
theorem ggX11_pass_X11_refuse : GoodIn wsX11_pass wsX11_refuse := gi_q gd_wsX11_pass _ [(12, 1), (1, 1), (147, 13)] rfl
set_option maxRecDepth 20000 in
theorem gX11_pass_X11_refuse : GoodIn wsX11_pass (wsV RX11 60 RX11 yX11_refuse wsX11_refuse) := goodIn_app (gi_q gd_wsX11_pass _ [(9, 3), (7, 1)] rfl) ggX11_pass_X11_refuse
set_option maxRecDepth 20000 in
theorem ggX11_pass_Jx4a65c_iterator_32c93 : GoodIn wsX11_pass wsJx4a65c_iterator_32c93 := gi_q gd_wsX11_pass _ [(17, 15), (172, 7)] rfl
set_option maxRecDepth 20000 in
theorem gX11_pass_Jx4a65c_iterator_32c93 : GoodIn wsX11_pass (wsV RX11 226 RJx4a65c yJx4a65c_iterator_32c93 wsJx4a65c_iterator_32c93) := goodIn_app (gi_q gd_wsX11_pass _ [(13, 4)] rfl) ggX11_pass_Jx4a65c_iterator_32c93
set_option maxRecDepth 20000 in
theorem ggX11_pass_Jx35411_hasNext_aae02 : GoodIn wsX11_pass wsJx35411_hasNext_aae02 := gi_q gd_wsX11_pass _ [(35, 2), (24, 1), (172, 7)] rfl
set_option maxRecDepth 20000 in
theorem gX11_pass_Jx35411_hasNext_aae02_f230Jx35411 : GoodIn wsX11_pass (va_wsF RX11 230 RJx35411 ⟨"java/util/Iterator", "hasNext", "()Z"⟩ yJx35411_hasNext_aae02 wsJx35411_hasNext_aae02) := goodIn_app (goodIn_of _ (by decide +kernel)) ggX11_pass_Jx35411_hasNext_aae02
set_option maxRecDepth 20000 in
theorem ggX11_pass_Jx35411_next_0502b : GoodIn wsX11_pass wsJx35411_next_0502b := gi_q gd_wsX11_pass _ [(40, 1), (36, 1), (24, 1), (41, 1), (28, 1), (42, 3), (20, 1), (45, 1), (29, 3), (172, 7)] rfl
set_option maxRecDepth 20000 in
theorem gX11_pass_Jx35411_next_0502b_f236Jx35411 : GoodIn wsX11_pass (va_wsF RX11 236 RJx35411 ⟨"java/util/Iterator", "next", "()Ljava/lang/Object;"⟩ yJx35411_next_0502b wsJx35411_next_0502b) := goodIn_app (goodIn_of _ (by decide +kernel)) ggX11_pass_Jx35411_next_0502b
set_option maxRecDepth 20000 in
theorem ggX11_pass_X11_playNow : GoodIn wsX11_pass wsX11_playNow := gi_q gd_wsX11_pass _ [(49, 8), (7, 1), (57, 20), (16, 1), (77, 95), (179, 7), (176, 3)] rfl
set_option maxRecDepth 20000 in
theorem gX11_pass_X11_playNow : GoodIn wsX11_pass (wsV RX11 274 RX11 yX11_playNow wsX11_playNow) := goodIn_app (gi_q gd_wsX11_pass _ [(46, 3), (7, 1)] rfl) ggX11_pass_X11_playNow
def zT_cX11_pass : List (List Nat) := [[42, 3, 181, 0, 44, 27, 4, 16, 60, 184, 0, 52, 154, 0, 9, 42, 4, 182, 0, 60, 172, 42, 180, 0, 57, 27, 96, 17, 1, 109, 164, 0, 9, 42, 5, 182, 0, 60, 172, 3, 61, 28, 27, 162, 0, 193, 42, 180, 0, 19, 182, 0, 226, 78, 45, 185, 0, 230, 1, 0, 153, 0, 44, 45, 185, 0, 236, 1], [185, 0, 236, 1, 0, 192, 0, 122, 58, 4, 25, 4, 180, 0, 124, 4, 160, 0, 21, 25, 4, 180, 0, 130, 42, 180, 0, 57, 160, 0, 9, 42, 25, 4, 182, 1, 18, 167, 255, 209, 42, 180, 0, 19, 182, 0, 226, 78, 45, 185, 0, 230, 1, 0, 153, 0, 43, 45, 185, 0, 236, 1, 0, 192, 0, 122, 58, 4], [0, 122, 58, 4, 25, 4, 180, 0, 124, 154, 0, 21, 25, 4, 180, 0, 130, 42, 180, 0, 57, 160, 0, 9, 25, 4, 6, 181, 0, 124, 167, 255, 210, 42, 89, 180, 0, 57, 4, 96, 181, 0, 57, 42, 180, 0, 19, 182, 0, 226, 78, 45, 185, 0, 230, 1, 0, 153, 0, 45, 45, 185, 0, 236, 1, 0, 192, 0], [1, 0, 192, 0, 122, 58, 4, 25, 4, 180, 0, 124, 154, 0, 23, 42, 180, 0, 57, 25, 4, 180, 0, 153, 100, 8, 161, 0, 9, 25, 4, 6, 181, 0, 124, 167, 255, 208, 132, 2, 1, 167, 255, 64, 42, 180, 0, 57, 172]]
theorem zE_cX11_pass : zTab cX11_pass.data.toList zT_cX11_pass = true := by decide +kernel
theorem dX11_pass_0 : decode cX11_pass 0 = .ok (.aload_n 0, 1) := dz_aload_n_0 (y0 zE_cX11_pass 0 0 (by decide +kernel))
theorem dX11_pass_1 : decode cX11_pass 1 = .ok (.iconst 0, 1) := dz_iconst_0 (y0 zE_cX11_pass 0 1 (by decide +kernel))
theorem dX11_pass_2 : decode cX11_pass 2 = .ok (.putfield 44, 3) := dz_putfield (yu2 zE_cX11_pass 0 2 (by decide +kernel))
theorem dX11_pass_5 : decode cX11_pass 5 = .ok (.iload_n 1, 1) := dz_iload_n_1 (y0 zE_cX11_pass 0 5 (by decide +kernel))
theorem dX11_pass_6 : decode cX11_pass 6 = .ok (.iconst 1, 1) := dz_iconst_1 (y0 zE_cX11_pass 0 6 (by decide +kernel))
theorem dX11_pass_7 : decode cX11_pass 7 = .ok (.bipush 60, 2) := dz_bipush (ys1 zE_cX11_pass 0 7 (by decide +kernel))
theorem dX11_pass_9 : decode cX11_pass 9 = .ok (.invokestatic 52, 3) := dz_invokestatic (yu2 zE_cX11_pass 0 9 (by decide +kernel))
theorem dX11_pass_12 : decode cX11_pass 12 = .ok (.ifCond .ne 9, 3) := dz_ifCond_ne (ys2 zE_cX11_pass 0 12 (by decide +kernel))
theorem dX11_pass_15 : decode cX11_pass 15 = .ok (.aload_n 0, 1) := dz_aload_n_0 (y0 zE_cX11_pass 0 15 (by decide +kernel))
theorem dX11_pass_16 : decode cX11_pass 16 = .ok (.iconst 1, 1) := dz_iconst_1 (y0 zE_cX11_pass 0 16 (by decide +kernel))
theorem dX11_pass_17 : decode cX11_pass 17 = .ok (.invokevirtual 60, 3) := dz_invokevirtual (yu2 zE_cX11_pass 0 17 (by decide +kernel))
theorem dX11_pass_20 : decode cX11_pass 20 = .ok (.ireturn, 1) := dz_ireturn (y0 zE_cX11_pass 0 20 (by decide +kernel))
theorem dX11_pass_21 : decode cX11_pass 21 = .ok (.aload_n 0, 1) := dz_aload_n_0 (y0 zE_cX11_pass 0 21 (by decide +kernel))
theorem dX11_pass_22 : decode cX11_pass 22 = .ok (.getfield 57, 3) := dz_getfield (yu2 zE_cX11_pass 0 22 (by decide +kernel))
theorem dX11_pass_25 : decode cX11_pass 25 = .ok (.iload_n 1, 1) := dz_iload_n_1 (y0 zE_cX11_pass 0 25 (by decide +kernel))
theorem dX11_pass_26 : decode cX11_pass 26 = .ok (.iadd, 1) := dz_iadd (y0 zE_cX11_pass 0 26 (by decide +kernel))
theorem dX11_pass_27 : decode cX11_pass 27 = .ok (.sipush 365, 3) := dz_sipush (ys2 zE_cX11_pass 0 27 (by decide +kernel))
theorem dX11_pass_30 : decode cX11_pass 30 = .ok (.if_icmp .le 9, 3) := dz_if_icmp_le (ys2 zE_cX11_pass 0 30 (by decide +kernel))
theorem dX11_pass_33 : decode cX11_pass 33 = .ok (.aload_n 0, 1) := dz_aload_n_0 (y0 zE_cX11_pass 0 33 (by decide +kernel))
theorem dX11_pass_34 : decode cX11_pass 34 = .ok (.iconst 2, 1) := dz_iconst_2 (y0 zE_cX11_pass 0 34 (by decide +kernel))
theorem dX11_pass_35 : decode cX11_pass 35 = .ok (.invokevirtual 60, 3) := dz_invokevirtual (yu2 zE_cX11_pass 0 35 (by decide +kernel))
theorem dX11_pass_38 : decode cX11_pass 38 = .ok (.ireturn, 1) := dz_ireturn (y0 zE_cX11_pass 0 38 (by decide +kernel))
theorem dX11_pass_39 : decode cX11_pass 39 = .ok (.iconst 0, 1) := dz_iconst_0 (y0 zE_cX11_pass 0 39 (by decide +kernel))
theorem dX11_pass_40 : decode cX11_pass 40 = .ok (.istore_n 2, 1) := dz_istore_n_2 (y0 zE_cX11_pass 0 40 (by decide +kernel))
theorem dX11_pass_41 : decode cX11_pass 41 = .ok (.iload_n 2, 1) := dz_iload_n_2 (y0 zE_cX11_pass 0 41 (by decide +kernel))
theorem dX11_pass_42 : decode cX11_pass 42 = .ok (.iload_n 1, 1) := dz_iload_n_1 (y0 zE_cX11_pass 0 42 (by decide +kernel))
theorem dX11_pass_43 : decode cX11_pass 43 = .ok (.if_icmp .ge 193, 3) := dz_if_icmp_ge (ys2 zE_cX11_pass 0 43 (by decide +kernel))
theorem dX11_pass_46 : decode cX11_pass 46 = .ok (.aload_n 0, 1) := dz_aload_n_0 (y0 zE_cX11_pass 0 46 (by decide +kernel))
theorem dX11_pass_47 : decode cX11_pass 47 = .ok (.getfield 19, 3) := dz_getfield (yu2 zE_cX11_pass 0 47 (by decide +kernel))
theorem dX11_pass_50 : decode cX11_pass 50 = .ok (.invokevirtual 226, 3) := dz_invokevirtual (yu2 zE_cX11_pass 0 50 (by decide +kernel))
theorem dX11_pass_53 : decode cX11_pass 53 = .ok (.astore_n 3, 1) := dz_astore_n_3 (y0 zE_cX11_pass 0 53 (by decide +kernel))
theorem dX11_pass_54 : decode cX11_pass 54 = .ok (.aload_n 3, 1) := dz_aload_n_3 (y0 zE_cX11_pass 0 54 (by decide +kernel))
theorem dX11_pass_55 : decode cX11_pass 55 = .ok (.invokeinterface 230 1, 5) := dkT (by decide +kernel)
theorem dX11_pass_60 : decode cX11_pass 60 = .ok (.ifCond .eq 44, 3) := dz_ifCond_eq (ys2 zE_cX11_pass 0 60 (by decide +kernel))
theorem dX11_pass_63 : decode cX11_pass 63 = .ok (.aload_n 3, 1) := dz_aload_n_3 (y0 zE_cX11_pass 0 63 (by decide +kernel))
theorem dX11_pass_64 : decode cX11_pass 64 = .ok (.invokeinterface 236 1, 5) := dkT (by decide +kernel)
theorem dX11_pass_69 : decode cX11_pass 69 = .ok (.checkcast 122, 3) := dz_checkcast (yu2 zE_cX11_pass 1 5 (by decide +kernel))
theorem dX11_pass_72 : decode cX11_pass 72 = .ok (.astore 4, 2) := dz_astore (yu1 zE_cX11_pass 1 8 (by decide +kernel))
theorem dX11_pass_74 : decode cX11_pass 74 = .ok (.aload 4, 2) := dz_aload (yu1 zE_cX11_pass 1 10 (by decide +kernel))
theorem dX11_pass_76 : decode cX11_pass 76 = .ok (.getfield 124, 3) := dz_getfield (yu2 zE_cX11_pass 1 12 (by decide +kernel))
theorem dX11_pass_79 : decode cX11_pass 79 = .ok (.iconst 1, 1) := dz_iconst_1 (y0 zE_cX11_pass 1 15 (by decide +kernel))
theorem dX11_pass_80 : decode cX11_pass 80 = .ok (.if_icmp .ne 21, 3) := dz_if_icmp_ne (ys2 zE_cX11_pass 1 16 (by decide +kernel))
theorem dX11_pass_83 : decode cX11_pass 83 = .ok (.aload 4, 2) := dz_aload (yu1 zE_cX11_pass 1 19 (by decide +kernel))
theorem dX11_pass_85 : decode cX11_pass 85 = .ok (.getfield 130, 3) := dz_getfield (yu2 zE_cX11_pass 1 21 (by decide +kernel))
theorem dX11_pass_88 : decode cX11_pass 88 = .ok (.aload_n 0, 1) := dz_aload_n_0 (y0 zE_cX11_pass 1 24 (by decide +kernel))
theorem dX11_pass_89 : decode cX11_pass 89 = .ok (.getfield 57, 3) := dz_getfield (yu2 zE_cX11_pass 1 25 (by decide +kernel))
theorem dX11_pass_92 : decode cX11_pass 92 = .ok (.if_icmp .ne 9, 3) := dz_if_icmp_ne (ys2 zE_cX11_pass 1 28 (by decide +kernel))
theorem dX11_pass_95 : decode cX11_pass 95 = .ok (.aload_n 0, 1) := dz_aload_n_0 (y0 zE_cX11_pass 1 31 (by decide +kernel))
theorem dX11_pass_96 : decode cX11_pass 96 = .ok (.aload 4, 2) := dz_aload (yu1 zE_cX11_pass 1 32 (by decide +kernel))
theorem dX11_pass_98 : decode cX11_pass 98 = .ok (.invokevirtual 274, 3) := dz_invokevirtual (yu2 zE_cX11_pass 1 34 (by decide +kernel))
theorem dX11_pass_101 : decode cX11_pass 101 = .ok (.goto (-47), 3) := dz_goto (ys2 zE_cX11_pass 1 37 (by decide +kernel))
theorem dX11_pass_104 : decode cX11_pass 104 = .ok (.aload_n 0, 1) := dz_aload_n_0 (y0 zE_cX11_pass 1 40 (by decide +kernel))
theorem dX11_pass_105 : decode cX11_pass 105 = .ok (.getfield 19, 3) := dz_getfield (yu2 zE_cX11_pass 1 41 (by decide +kernel))
theorem dX11_pass_108 : decode cX11_pass 108 = .ok (.invokevirtual 226, 3) := dz_invokevirtual (yu2 zE_cX11_pass 1 44 (by decide +kernel))
theorem dX11_pass_111 : decode cX11_pass 111 = .ok (.astore_n 3, 1) := dz_astore_n_3 (y0 zE_cX11_pass 1 47 (by decide +kernel))
theorem dX11_pass_112 : decode cX11_pass 112 = .ok (.aload_n 3, 1) := dz_aload_n_3 (y0 zE_cX11_pass 1 48 (by decide +kernel))
theorem dX11_pass_113 : decode cX11_pass 113 = .ok (.invokeinterface 230 1, 5) := dkT (by decide +kernel)
theorem dX11_pass_118 : decode cX11_pass 118 = .ok (.ifCond .eq 43, 3) := dz_ifCond_eq (ys2 zE_cX11_pass 1 54 (by decide +kernel))
theorem dX11_pass_121 : decode cX11_pass 121 = .ok (.aload_n 3, 1) := dz_aload_n_3 (y0 zE_cX11_pass 1 57 (by decide +kernel))
theorem dX11_pass_122 : decode cX11_pass 122 = .ok (.invokeinterface 236 1, 5) := dkT (by decide +kernel)
theorem dX11_pass_127 : decode cX11_pass 127 = .ok (.checkcast 122, 3) := dz_checkcast (yu2 zE_cX11_pass 1 63 (by decide +kernel))
theorem dX11_pass_130 : decode cX11_pass 130 = .ok (.astore 4, 2) := dz_astore (yu1 zE_cX11_pass 2 2 (by decide +kernel))
theorem dX11_pass_132 : decode cX11_pass 132 = .ok (.aload 4, 2) := dz_aload (yu1 zE_cX11_pass 2 4 (by decide +kernel))
theorem dX11_pass_134 : decode cX11_pass 134 = .ok (.getfield 124, 3) := dz_getfield (yu2 zE_cX11_pass 2 6 (by decide +kernel))
theorem dX11_pass_137 : decode cX11_pass 137 = .ok (.ifCond .ne 21, 3) := dz_ifCond_ne (ys2 zE_cX11_pass 2 9 (by decide +kernel))
theorem dX11_pass_140 : decode cX11_pass 140 = .ok (.aload 4, 2) := dz_aload (yu1 zE_cX11_pass 2 12 (by decide +kernel))
theorem dX11_pass_142 : decode cX11_pass 142 = .ok (.getfield 130, 3) := dz_getfield (yu2 zE_cX11_pass 2 14 (by decide +kernel))
theorem dX11_pass_145 : decode cX11_pass 145 = .ok (.aload_n 0, 1) := dz_aload_n_0 (y0 zE_cX11_pass 2 17 (by decide +kernel))
theorem dX11_pass_146 : decode cX11_pass 146 = .ok (.getfield 57, 3) := dz_getfield (yu2 zE_cX11_pass 2 18 (by decide +kernel))
theorem dX11_pass_149 : decode cX11_pass 149 = .ok (.if_icmp .ne 9, 3) := dz_if_icmp_ne (ys2 zE_cX11_pass 2 21 (by decide +kernel))
theorem dX11_pass_152 : decode cX11_pass 152 = .ok (.aload 4, 2) := dz_aload (yu1 zE_cX11_pass 2 24 (by decide +kernel))
theorem dX11_pass_154 : decode cX11_pass 154 = .ok (.iconst 3, 1) := dz_iconst_3 (y0 zE_cX11_pass 2 26 (by decide +kernel))
theorem dX11_pass_155 : decode cX11_pass 155 = .ok (.putfield 124, 3) := dz_putfield (yu2 zE_cX11_pass 2 27 (by decide +kernel))
theorem dX11_pass_158 : decode cX11_pass 158 = .ok (.goto (-46), 3) := dz_goto (ys2 zE_cX11_pass 2 30 (by decide +kernel))
theorem dX11_pass_161 : decode cX11_pass 161 = .ok (.aload_n 0, 1) := dz_aload_n_0 (y0 zE_cX11_pass 2 33 (by decide +kernel))
theorem dX11_pass_162 : decode cX11_pass 162 = .ok (.dup, 1) := dz_dup (y0 zE_cX11_pass 2 34 (by decide +kernel))
theorem dX11_pass_163 : decode cX11_pass 163 = .ok (.getfield 57, 3) := dz_getfield (yu2 zE_cX11_pass 2 35 (by decide +kernel))
theorem dX11_pass_166 : decode cX11_pass 166 = .ok (.iconst 1, 1) := dz_iconst_1 (y0 zE_cX11_pass 2 38 (by decide +kernel))
theorem dX11_pass_167 : decode cX11_pass 167 = .ok (.iadd, 1) := dz_iadd (y0 zE_cX11_pass 2 39 (by decide +kernel))
theorem dX11_pass_168 : decode cX11_pass 168 = .ok (.putfield 57, 3) := dz_putfield (yu2 zE_cX11_pass 2 40 (by decide +kernel))
theorem dX11_pass_171 : decode cX11_pass 171 = .ok (.aload_n 0, 1) := dz_aload_n_0 (y0 zE_cX11_pass 2 43 (by decide +kernel))
theorem dX11_pass_172 : decode cX11_pass 172 = .ok (.getfield 19, 3) := dz_getfield (yu2 zE_cX11_pass 2 44 (by decide +kernel))
theorem dX11_pass_175 : decode cX11_pass 175 = .ok (.invokevirtual 226, 3) := dz_invokevirtual (yu2 zE_cX11_pass 2 47 (by decide +kernel))
theorem dX11_pass_178 : decode cX11_pass 178 = .ok (.astore_n 3, 1) := dz_astore_n_3 (y0 zE_cX11_pass 2 50 (by decide +kernel))
theorem dX11_pass_179 : decode cX11_pass 179 = .ok (.aload_n 3, 1) := dz_aload_n_3 (y0 zE_cX11_pass 2 51 (by decide +kernel))
theorem dX11_pass_180 : decode cX11_pass 180 = .ok (.invokeinterface 230 1, 5) := dkT (by decide +kernel)
theorem dX11_pass_185 : decode cX11_pass 185 = .ok (.ifCond .eq 45, 3) := dz_ifCond_eq (ys2 zE_cX11_pass 2 57 (by decide +kernel))
theorem dX11_pass_188 : decode cX11_pass 188 = .ok (.aload_n 3, 1) := dz_aload_n_3 (y0 zE_cX11_pass 2 60 (by decide +kernel))
theorem dX11_pass_189 : decode cX11_pass 189 = .ok (.invokeinterface 236 1, 5) := dkT (by decide +kernel)
theorem dX11_pass_194 : decode cX11_pass 194 = .ok (.checkcast 122, 3) := dz_checkcast (yu2 zE_cX11_pass 3 2 (by decide +kernel))
theorem dX11_pass_197 : decode cX11_pass 197 = .ok (.astore 4, 2) := dz_astore (yu1 zE_cX11_pass 3 5 (by decide +kernel))
theorem dX11_pass_199 : decode cX11_pass 199 = .ok (.aload 4, 2) := dz_aload (yu1 zE_cX11_pass 3 7 (by decide +kernel))
theorem dX11_pass_201 : decode cX11_pass 201 = .ok (.getfield 124, 3) := dz_getfield (yu2 zE_cX11_pass 3 9 (by decide +kernel))
theorem dX11_pass_204 : decode cX11_pass 204 = .ok (.ifCond .ne 23, 3) := dz_ifCond_ne (ys2 zE_cX11_pass 3 12 (by decide +kernel))
theorem dX11_pass_207 : decode cX11_pass 207 = .ok (.aload_n 0, 1) := dz_aload_n_0 (y0 zE_cX11_pass 3 15 (by decide +kernel))
theorem dX11_pass_208 : decode cX11_pass 208 = .ok (.getfield 57, 3) := dz_getfield (yu2 zE_cX11_pass 3 16 (by decide +kernel))
theorem dX11_pass_211 : decode cX11_pass 211 = .ok (.aload 4, 2) := dz_aload (yu1 zE_cX11_pass 3 19 (by decide +kernel))
theorem dX11_pass_213 : decode cX11_pass 213 = .ok (.getfield 153, 3) := dz_getfield (yu2 zE_cX11_pass 3 21 (by decide +kernel))
theorem dX11_pass_216 : decode cX11_pass 216 = .ok (.isub, 1) := dz_isub (y0 zE_cX11_pass 3 24 (by decide +kernel))
theorem dX11_pass_217 : decode cX11_pass 217 = .ok (.iconst 5, 1) := dz_iconst_5 (y0 zE_cX11_pass 3 25 (by decide +kernel))
theorem dX11_pass_218 : decode cX11_pass 218 = .ok (.if_icmp .lt 9, 3) := dz_if_icmp_lt (ys2 zE_cX11_pass 3 26 (by decide +kernel))
theorem dX11_pass_221 : decode cX11_pass 221 = .ok (.aload 4, 2) := dz_aload (yu1 zE_cX11_pass 3 29 (by decide +kernel))
theorem dX11_pass_223 : decode cX11_pass 223 = .ok (.iconst 3, 1) := dz_iconst_3 (y0 zE_cX11_pass 3 31 (by decide +kernel))
theorem dX11_pass_224 : decode cX11_pass 224 = .ok (.putfield 124, 3) := dz_putfield (yu2 zE_cX11_pass 3 32 (by decide +kernel))
theorem dX11_pass_227 : decode cX11_pass 227 = .ok (.goto (-48), 3) := dz_goto (ys2 zE_cX11_pass 3 35 (by decide +kernel))
theorem dX11_pass_230 : decode cX11_pass 230 = .ok (.iinc 2 1, 3) := dz_iinc (yii zE_cX11_pass 3 38 (by decide +kernel))
theorem dX11_pass_233 : decode cX11_pass 233 = .ok (.goto (-192), 3) := dz_goto (ys2 zE_cX11_pass 3 41 (by decide +kernel))
theorem dX11_pass_236 : decode cX11_pass 236 = .ok (.aload_n 0, 1) := dz_aload_n_0 (y0 zE_cX11_pass 3 44 (by decide +kernel))
theorem dX11_pass_237 : decode cX11_pass 237 = .ok (.getfield 57, 3) := dz_getfield (yu2 zE_cX11_pass 3 45 (by decide +kernel))
theorem dX11_pass_240 : decode cX11_pass 240 = .ok (.ireturn, 1) := dz_ireturn (y0 zE_cX11_pass 3 48 (by decide +kernel))
def zT_cX11_isBehind : List (List Nat) := [[42, 180, 0, 26, 28, 46, 42, 180, 0, 26, 27, 46, 163, 0, 23, 42, 180, 0, 26, 28, 46, 42, 180, 0, 26, 27, 46, 160, 0, 12, 28, 27, 164, 0, 7, 4, 167, 0, 4, 3, 62, 42, 180, 0, 22, 27, 46, 42, 180, 0, 22, 28, 46, 100, 184, 1, 22, 54, 4, 29, 153, 0, 21, 21, 4, 16, 12, 21], [4, 16, 12, 21, 4, 100, 184, 1, 25, 5, 163, 0, 7, 4, 167, 0, 4, 3, 172]]
theorem zE_cX11_isBehind : zTab cX11_isBehind.data.toList zT_cX11_isBehind = true := by decide +kernel
theorem dX11_isBehind_0 : decode cX11_isBehind 0 = .ok (.aload_n 0, 1) := dz_aload_n_0 (y0 zE_cX11_isBehind 0 0 (by decide +kernel))
theorem dX11_isBehind_1 : decode cX11_isBehind 1 = .ok (.getfield 26, 3) := dz_getfield (yu2 zE_cX11_isBehind 0 1 (by decide +kernel))
theorem dX11_isBehind_4 : decode cX11_isBehind 4 = .ok (.iload_n 2, 1) := dz_iload_n_2 (y0 zE_cX11_isBehind 0 4 (by decide +kernel))
theorem dX11_isBehind_5 : decode cX11_isBehind 5 = .ok (.iaload, 1) := dz_iaload (y0 zE_cX11_isBehind 0 5 (by decide +kernel))
theorem dX11_isBehind_6 : decode cX11_isBehind 6 = .ok (.aload_n 0, 1) := dz_aload_n_0 (y0 zE_cX11_isBehind 0 6 (by decide +kernel))
theorem dX11_isBehind_7 : decode cX11_isBehind 7 = .ok (.getfield 26, 3) := dz_getfield (yu2 zE_cX11_isBehind 0 7 (by decide +kernel))
theorem dX11_isBehind_10 : decode cX11_isBehind 10 = .ok (.iload_n 1, 1) := dz_iload_n_1 (y0 zE_cX11_isBehind 0 10 (by decide +kernel))
theorem dX11_isBehind_11 : decode cX11_isBehind 11 = .ok (.iaload, 1) := dz_iaload (y0 zE_cX11_isBehind 0 11 (by decide +kernel))
theorem dX11_isBehind_12 : decode cX11_isBehind 12 = .ok (.if_icmp .gt 23, 3) := dz_if_icmp_gt (ys2 zE_cX11_isBehind 0 12 (by decide +kernel))
theorem dX11_isBehind_15 : decode cX11_isBehind 15 = .ok (.aload_n 0, 1) := dz_aload_n_0 (y0 zE_cX11_isBehind 0 15 (by decide +kernel))
theorem dX11_isBehind_16 : decode cX11_isBehind 16 = .ok (.getfield 26, 3) := dz_getfield (yu2 zE_cX11_isBehind 0 16 (by decide +kernel))
theorem dX11_isBehind_19 : decode cX11_isBehind 19 = .ok (.iload_n 2, 1) := dz_iload_n_2 (y0 zE_cX11_isBehind 0 19 (by decide +kernel))
theorem dX11_isBehind_20 : decode cX11_isBehind 20 = .ok (.iaload, 1) := dz_iaload (y0 zE_cX11_isBehind 0 20 (by decide +kernel))
theorem dX11_isBehind_21 : decode cX11_isBehind 21 = .ok (.aload_n 0, 1) := dz_aload_n_0 (y0 zE_cX11_isBehind 0 21 (by decide +kernel))
theorem dX11_isBehind_22 : decode cX11_isBehind 22 = .ok (.getfield 26, 3) := dz_getfield (yu2 zE_cX11_isBehind 0 22 (by decide +kernel))
theorem dX11_isBehind_25 : decode cX11_isBehind 25 = .ok (.iload_n 1, 1) := dz_iload_n_1 (y0 zE_cX11_isBehind 0 25 (by decide +kernel))
theorem dX11_isBehind_26 : decode cX11_isBehind 26 = .ok (.iaload, 1) := dz_iaload (y0 zE_cX11_isBehind 0 26 (by decide +kernel))
theorem dX11_isBehind_27 : decode cX11_isBehind 27 = .ok (.if_icmp .ne 12, 3) := dz_if_icmp_ne (ys2 zE_cX11_isBehind 0 27 (by decide +kernel))
theorem dX11_isBehind_30 : decode cX11_isBehind 30 = .ok (.iload_n 2, 1) := dz_iload_n_2 (y0 zE_cX11_isBehind 0 30 (by decide +kernel))
theorem dX11_isBehind_31 : decode cX11_isBehind 31 = .ok (.iload_n 1, 1) := dz_iload_n_1 (y0 zE_cX11_isBehind 0 31 (by decide +kernel))
theorem dX11_isBehind_32 : decode cX11_isBehind 32 = .ok (.if_icmp .le 7, 3) := dz_if_icmp_le (ys2 zE_cX11_isBehind 0 32 (by decide +kernel))
theorem dX11_isBehind_35 : decode cX11_isBehind 35 = .ok (.iconst 1, 1) := dz_iconst_1 (y0 zE_cX11_isBehind 0 35 (by decide +kernel))
theorem dX11_isBehind_36 : decode cX11_isBehind 36 = .ok (.goto 4, 3) := dz_goto (ys2 zE_cX11_isBehind 0 36 (by decide +kernel))
theorem dX11_isBehind_39 : decode cX11_isBehind 39 = .ok (.iconst 0, 1) := dz_iconst_0 (y0 zE_cX11_isBehind 0 39 (by decide +kernel))
theorem dX11_isBehind_40 : decode cX11_isBehind 40 = .ok (.istore_n 3, 1) := dz_istore_n_3 (y0 zE_cX11_isBehind 0 40 (by decide +kernel))
theorem dX11_isBehind_41 : decode cX11_isBehind 41 = .ok (.aload_n 0, 1) := dz_aload_n_0 (y0 zE_cX11_isBehind 0 41 (by decide +kernel))
theorem dX11_isBehind_42 : decode cX11_isBehind 42 = .ok (.getfield 22, 3) := dz_getfield (yu2 zE_cX11_isBehind 0 42 (by decide +kernel))
theorem dX11_isBehind_45 : decode cX11_isBehind 45 = .ok (.iload_n 1, 1) := dz_iload_n_1 (y0 zE_cX11_isBehind 0 45 (by decide +kernel))
theorem dX11_isBehind_46 : decode cX11_isBehind 46 = .ok (.iaload, 1) := dz_iaload (y0 zE_cX11_isBehind 0 46 (by decide +kernel))
theorem dX11_isBehind_47 : decode cX11_isBehind 47 = .ok (.aload_n 0, 1) := dz_aload_n_0 (y0 zE_cX11_isBehind 0 47 (by decide +kernel))
theorem dX11_isBehind_48 : decode cX11_isBehind 48 = .ok (.getfield 22, 3) := dz_getfield (yu2 zE_cX11_isBehind 0 48 (by decide +kernel))
theorem dX11_isBehind_51 : decode cX11_isBehind 51 = .ok (.iload_n 2, 1) := dz_iload_n_2 (y0 zE_cX11_isBehind 0 51 (by decide +kernel))
theorem dX11_isBehind_52 : decode cX11_isBehind 52 = .ok (.iaload, 1) := dz_iaload (y0 zE_cX11_isBehind 0 52 (by decide +kernel))
theorem dX11_isBehind_53 : decode cX11_isBehind 53 = .ok (.isub, 1) := dz_isub (y0 zE_cX11_isBehind 0 53 (by decide +kernel))
theorem dX11_isBehind_54 : decode cX11_isBehind 54 = .ok (.invokestatic 278, 3) := dz_invokestatic (yu2 zE_cX11_isBehind 0 54 (by decide +kernel))
theorem dX11_isBehind_57 : decode cX11_isBehind 57 = .ok (.istore 4, 2) := dz_istore (yu1 zE_cX11_isBehind 0 57 (by decide +kernel))
theorem dX11_isBehind_59 : decode cX11_isBehind 59 = .ok (.iload_n 3, 1) := dz_iload_n_3 (y0 zE_cX11_isBehind 0 59 (by decide +kernel))
theorem dX11_isBehind_60 : decode cX11_isBehind 60 = .ok (.ifCond .eq 21, 3) := dz_ifCond_eq (ys2 zE_cX11_isBehind 0 60 (by decide +kernel))
theorem dX11_isBehind_63 : decode cX11_isBehind 63 = .ok (.iload 4, 2) := dz_iload (yu1 zE_cX11_isBehind 0 63 (by decide +kernel))
theorem dX11_isBehind_65 : decode cX11_isBehind 65 = .ok (.bipush 12, 2) := dz_bipush (ys1 zE_cX11_isBehind 1 1 (by decide +kernel))
theorem dX11_isBehind_67 : decode cX11_isBehind 67 = .ok (.iload 4, 2) := dz_iload (yu1 zE_cX11_isBehind 1 3 (by decide +kernel))
theorem dX11_isBehind_69 : decode cX11_isBehind 69 = .ok (.isub, 1) := dz_isub (y0 zE_cX11_isBehind 1 5 (by decide +kernel))
theorem dX11_isBehind_70 : decode cX11_isBehind 70 = .ok (.invokestatic 281, 3) := dz_invokestatic (yu2 zE_cX11_isBehind 1 6 (by decide +kernel))
theorem dX11_isBehind_73 : decode cX11_isBehind 73 = .ok (.iconst 2, 1) := dz_iconst_2 (y0 zE_cX11_isBehind 1 9 (by decide +kernel))
theorem dX11_isBehind_74 : decode cX11_isBehind 74 = .ok (.if_icmp .gt 7, 3) := dz_if_icmp_gt (ys2 zE_cX11_isBehind 1 10 (by decide +kernel))
theorem dX11_isBehind_77 : decode cX11_isBehind 77 = .ok (.iconst 1, 1) := dz_iconst_1 (y0 zE_cX11_isBehind 1 13 (by decide +kernel))
theorem dX11_isBehind_78 : decode cX11_isBehind 78 = .ok (.goto 4, 3) := dz_goto (ys2 zE_cX11_isBehind 1 14 (by decide +kernel))
theorem dX11_isBehind_81 : decode cX11_isBehind 81 = .ok (.iconst 0, 1) := dz_iconst_0 (y0 zE_cX11_isBehind 1 17 (by decide +kernel))
theorem dX11_isBehind_82 : decode cX11_isBehind 82 = .ok (.ireturn, 1) := dz_ireturn (y0 zE_cX11_isBehind 1 18 (by decide +kernel))
theorem gd_wsX11_bestSet : wsX11_bestSet.all goodWord = true := by decide +kernel
set_option maxRecDepth 20000 in
theorem ggX11_bestSet_X11_isKnown : GoodIn wsX11_bestSet wsX11_isKnown := gi_q gd_wsX11_bestSet _ [(17, 11), (16, 1), (28, 25), (64, 23)] rfl
set_option maxRecDepth 20000 in
theorem gX11_bestSet_X11_isKnown : GoodIn wsX11_bestSet (wsV RX11 170 RX11 yX11_isKnown wsX11_isKnown) := goodIn_app (gi_q gd_wsX11_bestSet _ [(13, 4)] rfl) ggX11_bestSet_X11_isKnown
set_option maxRecDepth 20000 in
theorem ggX11_bestSet_X11_isBehind : GoodIn wsX11_bestSet wsX11_isBehind := gi_q gd_wsX11_bestSet _ [(56, 1), (3, 1), (57, 3), (7, 1), (60, 17)] rfl
set_option maxRecDepth 20000 in
theorem gX11_bestSet_X11_isBehind : GoodIn wsX11_bestSet (wsV RX11 284 RX11 yX11_isBehind wsX11_isBehind) := goodIn_app (gi_q gd_wsX11_bestSet _ [(53, 3), (16, 1)] rfl) ggX11_bestSet_X11_isBehind
def zT_cX11_bestSet : List (List Nat) := [[16, 16, 188, 10, 77, 16, 16, 188, 4, 78, 3, 54, 4, 21, 4, 16, 16, 162, 0, 163, 2, 54, 5, 3, 54, 6, 21, 6, 16, 16, 162, 0, 67, 45, 21, 6, 51, 154, 0, 54, 21, 5, 2, 159, 0, 44, 42, 180, 0, 26, 21, 6, 46, 42, 180, 0, 26, 21, 5, 46, 163, 0, 27, 42, 180, 0, 26, 21], [180, 0, 26, 21, 6, 46, 42, 180, 0, 26, 21, 5, 46, 160, 0, 14, 21, 6, 21, 5, 164, 0, 7, 21, 6, 54, 5, 132, 6, 1, 167, 255, 188, 45, 21, 5, 4, 84, 42, 27, 21, 5, 182, 0, 170, 154, 0, 6, 167, 0, 62, 3, 54, 6, 3, 54, 7, 21, 7, 16, 16, 162, 0, 35, 44, 21, 7, 46], [44, 21, 7, 46, 21, 6, 164, 0, 20, 42, 21, 5, 21, 7, 182, 1, 28, 153, 0, 9, 44, 21, 7, 46, 54, 6, 132, 7, 1, 167, 255, 220, 44, 21, 5, 42, 180, 0, 29, 21, 5, 46, 21, 6, 96, 79, 132, 4, 1, 167, 255, 92, 3, 54, 4, 3, 54, 5, 21, 5, 16, 16, 162, 0, 20, 21, 4, 44], [20, 21, 4, 44, 21, 5, 46, 184, 0, 244, 54, 4, 132, 5, 1, 167, 255, 235, 16, 16, 188, 10, 58, 5, 3, 54, 6, 2, 54, 7, 21, 4, 158, 0, 67, 3, 54, 8, 44, 21, 8, 46, 21, 4, 160, 0, 20, 21, 7, 2, 159, 0, 20, 42, 21, 7, 21, 8, 182, 1, 28, 154, 0, 9, 132, 8, 1, 167], [132, 8, 1, 167, 255, 227, 25, 5, 21, 6, 21, 8, 79, 132, 6, 1, 21, 4, 42, 180, 0, 29, 21, 8, 46, 100, 54, 4, 21, 8, 54, 7, 167, 255, 190, 21, 6, 188, 10, 58, 8, 25, 5, 3, 25, 8, 3, 21, 6, 184, 1, 31, 25, 8, 176]]
theorem zE_cX11_bestSet : zTab cX11_bestSet.data.toList zT_cX11_bestSet = true := by decide +kernel
theorem dX11_bestSet_0 : decode cX11_bestSet 0 = .ok (.bipush 16, 2) := dz_bipush (ys1 zE_cX11_bestSet 0 0 (by decide +kernel))
theorem dX11_bestSet_2 : decode cX11_bestSet 2 = .ok (.newarray .int, 2) := dkT (by decide +kernel)
theorem dX11_bestSet_4 : decode cX11_bestSet 4 = .ok (.astore_n 2, 1) := dz_astore_n_2 (y0 zE_cX11_bestSet 0 4 (by decide +kernel))
theorem dX11_bestSet_5 : decode cX11_bestSet 5 = .ok (.bipush 16, 2) := dz_bipush (ys1 zE_cX11_bestSet 0 5 (by decide +kernel))
theorem dX11_bestSet_7 : decode cX11_bestSet 7 = .ok (.newarray .boolean, 2) := dkT (by decide +kernel)
theorem dX11_bestSet_9 : decode cX11_bestSet 9 = .ok (.astore_n 3, 1) := dz_astore_n_3 (y0 zE_cX11_bestSet 0 9 (by decide +kernel))
theorem dX11_bestSet_10 : decode cX11_bestSet 10 = .ok (.iconst 0, 1) := dz_iconst_0 (y0 zE_cX11_bestSet 0 10 (by decide +kernel))
theorem dX11_bestSet_11 : decode cX11_bestSet 11 = .ok (.istore 4, 2) := dz_istore (yu1 zE_cX11_bestSet 0 11 (by decide +kernel))
theorem dX11_bestSet_13 : decode cX11_bestSet 13 = .ok (.iload 4, 2) := dz_iload (yu1 zE_cX11_bestSet 0 13 (by decide +kernel))
theorem dX11_bestSet_15 : decode cX11_bestSet 15 = .ok (.bipush 16, 2) := dz_bipush (ys1 zE_cX11_bestSet 0 15 (by decide +kernel))
theorem dX11_bestSet_17 : decode cX11_bestSet 17 = .ok (.if_icmp .ge 163, 3) := dz_if_icmp_ge (ys2 zE_cX11_bestSet 0 17 (by decide +kernel))
theorem dX11_bestSet_20 : decode cX11_bestSet 20 = .ok (.iconst (-1), 1) := dz_iconst_m1 (y0 zE_cX11_bestSet 0 20 (by decide +kernel))
theorem dX11_bestSet_21 : decode cX11_bestSet 21 = .ok (.istore 5, 2) := dz_istore (yu1 zE_cX11_bestSet 0 21 (by decide +kernel))
theorem dX11_bestSet_23 : decode cX11_bestSet 23 = .ok (.iconst 0, 1) := dz_iconst_0 (y0 zE_cX11_bestSet 0 23 (by decide +kernel))
theorem dX11_bestSet_24 : decode cX11_bestSet 24 = .ok (.istore 6, 2) := dz_istore (yu1 zE_cX11_bestSet 0 24 (by decide +kernel))
theorem dX11_bestSet_26 : decode cX11_bestSet 26 = .ok (.iload 6, 2) := dz_iload (yu1 zE_cX11_bestSet 0 26 (by decide +kernel))
theorem dX11_bestSet_28 : decode cX11_bestSet 28 = .ok (.bipush 16, 2) := dz_bipush (ys1 zE_cX11_bestSet 0 28 (by decide +kernel))
theorem dX11_bestSet_30 : decode cX11_bestSet 30 = .ok (.if_icmp .ge 67, 3) := dz_if_icmp_ge (ys2 zE_cX11_bestSet 0 30 (by decide +kernel))
theorem dX11_bestSet_33 : decode cX11_bestSet 33 = .ok (.aload_n 3, 1) := dz_aload_n_3 (y0 zE_cX11_bestSet 0 33 (by decide +kernel))
theorem dX11_bestSet_34 : decode cX11_bestSet 34 = .ok (.iload 6, 2) := dz_iload (yu1 zE_cX11_bestSet 0 34 (by decide +kernel))
theorem dX11_bestSet_36 : decode cX11_bestSet 36 = .ok (.baload, 1) := dz_baload (y0 zE_cX11_bestSet 0 36 (by decide +kernel))
theorem dX11_bestSet_37 : decode cX11_bestSet 37 = .ok (.ifCond .ne 54, 3) := dz_ifCond_ne (ys2 zE_cX11_bestSet 0 37 (by decide +kernel))
theorem dX11_bestSet_40 : decode cX11_bestSet 40 = .ok (.iload 5, 2) := dz_iload (yu1 zE_cX11_bestSet 0 40 (by decide +kernel))
theorem dX11_bestSet_42 : decode cX11_bestSet 42 = .ok (.iconst (-1), 1) := dz_iconst_m1 (y0 zE_cX11_bestSet 0 42 (by decide +kernel))
theorem dX11_bestSet_43 : decode cX11_bestSet 43 = .ok (.if_icmp .eq 44, 3) := dz_if_icmp_eq (ys2 zE_cX11_bestSet 0 43 (by decide +kernel))
theorem dX11_bestSet_46 : decode cX11_bestSet 46 = .ok (.aload_n 0, 1) := dz_aload_n_0 (y0 zE_cX11_bestSet 0 46 (by decide +kernel))
theorem dX11_bestSet_47 : decode cX11_bestSet 47 = .ok (.getfield 26, 3) := dz_getfield (yu2 zE_cX11_bestSet 0 47 (by decide +kernel))
theorem dX11_bestSet_50 : decode cX11_bestSet 50 = .ok (.iload 6, 2) := dz_iload (yu1 zE_cX11_bestSet 0 50 (by decide +kernel))
theorem dX11_bestSet_52 : decode cX11_bestSet 52 = .ok (.iaload, 1) := dz_iaload (y0 zE_cX11_bestSet 0 52 (by decide +kernel))
theorem dX11_bestSet_53 : decode cX11_bestSet 53 = .ok (.aload_n 0, 1) := dz_aload_n_0 (y0 zE_cX11_bestSet 0 53 (by decide +kernel))
theorem dX11_bestSet_54 : decode cX11_bestSet 54 = .ok (.getfield 26, 3) := dz_getfield (yu2 zE_cX11_bestSet 0 54 (by decide +kernel))
theorem dX11_bestSet_57 : decode cX11_bestSet 57 = .ok (.iload 5, 2) := dz_iload (yu1 zE_cX11_bestSet 0 57 (by decide +kernel))
theorem dX11_bestSet_59 : decode cX11_bestSet 59 = .ok (.iaload, 1) := dz_iaload (y0 zE_cX11_bestSet 0 59 (by decide +kernel))
theorem dX11_bestSet_60 : decode cX11_bestSet 60 = .ok (.if_icmp .gt 27, 3) := dz_if_icmp_gt (ys2 zE_cX11_bestSet 0 60 (by decide +kernel))
theorem dX11_bestSet_63 : decode cX11_bestSet 63 = .ok (.aload_n 0, 1) := dz_aload_n_0 (y0 zE_cX11_bestSet 0 63 (by decide +kernel))
theorem dX11_bestSet_64 : decode cX11_bestSet 64 = .ok (.getfield 26, 3) := dz_getfield (yu2 zE_cX11_bestSet 1 0 (by decide +kernel))
theorem dX11_bestSet_67 : decode cX11_bestSet 67 = .ok (.iload 6, 2) := dz_iload (yu1 zE_cX11_bestSet 1 3 (by decide +kernel))
theorem dX11_bestSet_69 : decode cX11_bestSet 69 = .ok (.iaload, 1) := dz_iaload (y0 zE_cX11_bestSet 1 5 (by decide +kernel))
theorem dX11_bestSet_70 : decode cX11_bestSet 70 = .ok (.aload_n 0, 1) := dz_aload_n_0 (y0 zE_cX11_bestSet 1 6 (by decide +kernel))
theorem dX11_bestSet_71 : decode cX11_bestSet 71 = .ok (.getfield 26, 3) := dz_getfield (yu2 zE_cX11_bestSet 1 7 (by decide +kernel))
theorem dX11_bestSet_74 : decode cX11_bestSet 74 = .ok (.iload 5, 2) := dz_iload (yu1 zE_cX11_bestSet 1 10 (by decide +kernel))
theorem dX11_bestSet_76 : decode cX11_bestSet 76 = .ok (.iaload, 1) := dz_iaload (y0 zE_cX11_bestSet 1 12 (by decide +kernel))
theorem dX11_bestSet_77 : decode cX11_bestSet 77 = .ok (.if_icmp .ne 14, 3) := dz_if_icmp_ne (ys2 zE_cX11_bestSet 1 13 (by decide +kernel))
theorem dX11_bestSet_80 : decode cX11_bestSet 80 = .ok (.iload 6, 2) := dz_iload (yu1 zE_cX11_bestSet 1 16 (by decide +kernel))
theorem dX11_bestSet_82 : decode cX11_bestSet 82 = .ok (.iload 5, 2) := dz_iload (yu1 zE_cX11_bestSet 1 18 (by decide +kernel))
theorem dX11_bestSet_84 : decode cX11_bestSet 84 = .ok (.if_icmp .le 7, 3) := dz_if_icmp_le (ys2 zE_cX11_bestSet 1 20 (by decide +kernel))
theorem dX11_bestSet_87 : decode cX11_bestSet 87 = .ok (.iload 6, 2) := dz_iload (yu1 zE_cX11_bestSet 1 23 (by decide +kernel))
theorem dX11_bestSet_89 : decode cX11_bestSet 89 = .ok (.istore 5, 2) := dz_istore (yu1 zE_cX11_bestSet 1 25 (by decide +kernel))
theorem dX11_bestSet_91 : decode cX11_bestSet 91 = .ok (.iinc 6 1, 3) := dz_iinc (yii zE_cX11_bestSet 1 27 (by decide +kernel))
theorem dX11_bestSet_94 : decode cX11_bestSet 94 = .ok (.goto (-68), 3) := dz_goto (ys2 zE_cX11_bestSet 1 30 (by decide +kernel))
theorem dX11_bestSet_97 : decode cX11_bestSet 97 = .ok (.aload_n 3, 1) := dz_aload_n_3 (y0 zE_cX11_bestSet 1 33 (by decide +kernel))
theorem dX11_bestSet_98 : decode cX11_bestSet 98 = .ok (.iload 5, 2) := dz_iload (yu1 zE_cX11_bestSet 1 34 (by decide +kernel))
theorem dX11_bestSet_100 : decode cX11_bestSet 100 = .ok (.iconst 1, 1) := dz_iconst_1 (y0 zE_cX11_bestSet 1 36 (by decide +kernel))
theorem dX11_bestSet_101 : decode cX11_bestSet 101 = .ok (.bastore, 1) := dz_bastore (y0 zE_cX11_bestSet 1 37 (by decide +kernel))
theorem dX11_bestSet_102 : decode cX11_bestSet 102 = .ok (.aload_n 0, 1) := dz_aload_n_0 (y0 zE_cX11_bestSet 1 38 (by decide +kernel))
theorem dX11_bestSet_103 : decode cX11_bestSet 103 = .ok (.iload_n 1, 1) := dz_iload_n_1 (y0 zE_cX11_bestSet 1 39 (by decide +kernel))
theorem dX11_bestSet_104 : decode cX11_bestSet 104 = .ok (.iload 5, 2) := dz_iload (yu1 zE_cX11_bestSet 1 40 (by decide +kernel))
theorem dX11_bestSet_106 : decode cX11_bestSet 106 = .ok (.invokevirtual 170, 3) := dz_invokevirtual (yu2 zE_cX11_bestSet 1 42 (by decide +kernel))
theorem dX11_bestSet_109 : decode cX11_bestSet 109 = .ok (.ifCond .ne 6, 3) := dz_ifCond_ne (ys2 zE_cX11_bestSet 1 45 (by decide +kernel))
theorem dX11_bestSet_112 : decode cX11_bestSet 112 = .ok (.goto 62, 3) := dz_goto (ys2 zE_cX11_bestSet 1 48 (by decide +kernel))
theorem dX11_bestSet_115 : decode cX11_bestSet 115 = .ok (.iconst 0, 1) := dz_iconst_0 (y0 zE_cX11_bestSet 1 51 (by decide +kernel))
theorem dX11_bestSet_116 : decode cX11_bestSet 116 = .ok (.istore 6, 2) := dz_istore (yu1 zE_cX11_bestSet 1 52 (by decide +kernel))
theorem dX11_bestSet_118 : decode cX11_bestSet 118 = .ok (.iconst 0, 1) := dz_iconst_0 (y0 zE_cX11_bestSet 1 54 (by decide +kernel))
theorem dX11_bestSet_119 : decode cX11_bestSet 119 = .ok (.istore 7, 2) := dz_istore (yu1 zE_cX11_bestSet 1 55 (by decide +kernel))
theorem dX11_bestSet_121 : decode cX11_bestSet 121 = .ok (.iload 7, 2) := dz_iload (yu1 zE_cX11_bestSet 1 57 (by decide +kernel))
theorem dX11_bestSet_123 : decode cX11_bestSet 123 = .ok (.bipush 16, 2) := dz_bipush (ys1 zE_cX11_bestSet 1 59 (by decide +kernel))
theorem dX11_bestSet_125 : decode cX11_bestSet 125 = .ok (.if_icmp .ge 35, 3) := dz_if_icmp_ge (ys2 zE_cX11_bestSet 1 61 (by decide +kernel))
theorem dX11_bestSet_128 : decode cX11_bestSet 128 = .ok (.aload_n 2, 1) := dz_aload_n_2 (y0 zE_cX11_bestSet 2 0 (by decide +kernel))
theorem dX11_bestSet_129 : decode cX11_bestSet 129 = .ok (.iload 7, 2) := dz_iload (yu1 zE_cX11_bestSet 2 1 (by decide +kernel))
theorem dX11_bestSet_131 : decode cX11_bestSet 131 = .ok (.iaload, 1) := dz_iaload (y0 zE_cX11_bestSet 2 3 (by decide +kernel))
theorem dX11_bestSet_132 : decode cX11_bestSet 132 = .ok (.iload 6, 2) := dz_iload (yu1 zE_cX11_bestSet 2 4 (by decide +kernel))
theorem dX11_bestSet_134 : decode cX11_bestSet 134 = .ok (.if_icmp .le 20, 3) := dz_if_icmp_le (ys2 zE_cX11_bestSet 2 6 (by decide +kernel))
theorem dX11_bestSet_137 : decode cX11_bestSet 137 = .ok (.aload_n 0, 1) := dz_aload_n_0 (y0 zE_cX11_bestSet 2 9 (by decide +kernel))
theorem dX11_bestSet_138 : decode cX11_bestSet 138 = .ok (.iload 5, 2) := dz_iload (yu1 zE_cX11_bestSet 2 10 (by decide +kernel))
theorem dX11_bestSet_140 : decode cX11_bestSet 140 = .ok (.iload 7, 2) := dz_iload (yu1 zE_cX11_bestSet 2 12 (by decide +kernel))
theorem dX11_bestSet_142 : decode cX11_bestSet 142 = .ok (.invokevirtual 284, 3) := dz_invokevirtual (yu2 zE_cX11_bestSet 2 14 (by decide +kernel))
theorem dX11_bestSet_145 : decode cX11_bestSet 145 = .ok (.ifCond .eq 9, 3) := dz_ifCond_eq (ys2 zE_cX11_bestSet 2 17 (by decide +kernel))
theorem dX11_bestSet_148 : decode cX11_bestSet 148 = .ok (.aload_n 2, 1) := dz_aload_n_2 (y0 zE_cX11_bestSet 2 20 (by decide +kernel))
theorem dX11_bestSet_149 : decode cX11_bestSet 149 = .ok (.iload 7, 2) := dz_iload (yu1 zE_cX11_bestSet 2 21 (by decide +kernel))
theorem dX11_bestSet_151 : decode cX11_bestSet 151 = .ok (.iaload, 1) := dz_iaload (y0 zE_cX11_bestSet 2 23 (by decide +kernel))
theorem dX11_bestSet_152 : decode cX11_bestSet 152 = .ok (.istore 6, 2) := dz_istore (yu1 zE_cX11_bestSet 2 24 (by decide +kernel))
theorem dX11_bestSet_154 : decode cX11_bestSet 154 = .ok (.iinc 7 1, 3) := dz_iinc (yii zE_cX11_bestSet 2 26 (by decide +kernel))
theorem dX11_bestSet_157 : decode cX11_bestSet 157 = .ok (.goto (-36), 3) := dz_goto (ys2 zE_cX11_bestSet 2 29 (by decide +kernel))
theorem dX11_bestSet_160 : decode cX11_bestSet 160 = .ok (.aload_n 2, 1) := dz_aload_n_2 (y0 zE_cX11_bestSet 2 32 (by decide +kernel))
theorem dX11_bestSet_161 : decode cX11_bestSet 161 = .ok (.iload 5, 2) := dz_iload (yu1 zE_cX11_bestSet 2 33 (by decide +kernel))
theorem dX11_bestSet_163 : decode cX11_bestSet 163 = .ok (.aload_n 0, 1) := dz_aload_n_0 (y0 zE_cX11_bestSet 2 35 (by decide +kernel))
theorem dX11_bestSet_164 : decode cX11_bestSet 164 = .ok (.getfield 29, 3) := dz_getfield (yu2 zE_cX11_bestSet 2 36 (by decide +kernel))
theorem dX11_bestSet_167 : decode cX11_bestSet 167 = .ok (.iload 5, 2) := dz_iload (yu1 zE_cX11_bestSet 2 39 (by decide +kernel))
theorem dX11_bestSet_169 : decode cX11_bestSet 169 = .ok (.iaload, 1) := dz_iaload (y0 zE_cX11_bestSet 2 41 (by decide +kernel))
theorem dX11_bestSet_170 : decode cX11_bestSet 170 = .ok (.iload 6, 2) := dz_iload (yu1 zE_cX11_bestSet 2 42 (by decide +kernel))
theorem dX11_bestSet_172 : decode cX11_bestSet 172 = .ok (.iadd, 1) := dz_iadd (y0 zE_cX11_bestSet 2 44 (by decide +kernel))
theorem dX11_bestSet_173 : decode cX11_bestSet 173 = .ok (.iastore, 1) := dz_iastore (y0 zE_cX11_bestSet 2 45 (by decide +kernel))
theorem dX11_bestSet_174 : decode cX11_bestSet 174 = .ok (.iinc 4 1, 3) := dz_iinc (yii zE_cX11_bestSet 2 46 (by decide +kernel))
theorem dX11_bestSet_177 : decode cX11_bestSet 177 = .ok (.goto (-164), 3) := dz_goto (ys2 zE_cX11_bestSet 2 49 (by decide +kernel))
theorem dX11_bestSet_180 : decode cX11_bestSet 180 = .ok (.iconst 0, 1) := dz_iconst_0 (y0 zE_cX11_bestSet 2 52 (by decide +kernel))
theorem dX11_bestSet_181 : decode cX11_bestSet 181 = .ok (.istore 4, 2) := dz_istore (yu1 zE_cX11_bestSet 2 53 (by decide +kernel))
theorem dX11_bestSet_183 : decode cX11_bestSet 183 = .ok (.iconst 0, 1) := dz_iconst_0 (y0 zE_cX11_bestSet 2 55 (by decide +kernel))
theorem dX11_bestSet_184 : decode cX11_bestSet 184 = .ok (.istore 5, 2) := dz_istore (yu1 zE_cX11_bestSet 2 56 (by decide +kernel))
theorem dX11_bestSet_186 : decode cX11_bestSet 186 = .ok (.iload 5, 2) := dz_iload (yu1 zE_cX11_bestSet 2 58 (by decide +kernel))
theorem dX11_bestSet_188 : decode cX11_bestSet 188 = .ok (.bipush 16, 2) := dz_bipush (ys1 zE_cX11_bestSet 2 60 (by decide +kernel))
theorem dX11_bestSet_190 : decode cX11_bestSet 190 = .ok (.if_icmp .ge 20, 3) := dz_if_icmp_ge (ys2 zE_cX11_bestSet 2 62 (by decide +kernel))
theorem dX11_bestSet_193 : decode cX11_bestSet 193 = .ok (.iload 4, 2) := dz_iload (yu1 zE_cX11_bestSet 3 1 (by decide +kernel))
theorem dX11_bestSet_195 : decode cX11_bestSet 195 = .ok (.aload_n 2, 1) := dz_aload_n_2 (y0 zE_cX11_bestSet 3 3 (by decide +kernel))
theorem dX11_bestSet_196 : decode cX11_bestSet 196 = .ok (.iload 5, 2) := dz_iload (yu1 zE_cX11_bestSet 3 4 (by decide +kernel))
theorem dX11_bestSet_198 : decode cX11_bestSet 198 = .ok (.iaload, 1) := dz_iaload (y0 zE_cX11_bestSet 3 6 (by decide +kernel))
theorem dX11_bestSet_199 : decode cX11_bestSet 199 = .ok (.invokestatic 244, 3) := dz_invokestatic (yu2 zE_cX11_bestSet 3 7 (by decide +kernel))
theorem dX11_bestSet_202 : decode cX11_bestSet 202 = .ok (.istore 4, 2) := dz_istore (yu1 zE_cX11_bestSet 3 10 (by decide +kernel))
theorem dX11_bestSet_204 : decode cX11_bestSet 204 = .ok (.iinc 5 1, 3) := dz_iinc (yii zE_cX11_bestSet 3 12 (by decide +kernel))
theorem dX11_bestSet_207 : decode cX11_bestSet 207 = .ok (.goto (-21), 3) := dz_goto (ys2 zE_cX11_bestSet 3 15 (by decide +kernel))
theorem dX11_bestSet_210 : decode cX11_bestSet 210 = .ok (.bipush 16, 2) := dz_bipush (ys1 zE_cX11_bestSet 3 18 (by decide +kernel))
theorem dX11_bestSet_212 : decode cX11_bestSet 212 = .ok (.newarray .int, 2) := dkT (by decide +kernel)
theorem dX11_bestSet_214 : decode cX11_bestSet 214 = .ok (.astore 5, 2) := dz_astore (yu1 zE_cX11_bestSet 3 22 (by decide +kernel))
theorem dX11_bestSet_216 : decode cX11_bestSet 216 = .ok (.iconst 0, 1) := dz_iconst_0 (y0 zE_cX11_bestSet 3 24 (by decide +kernel))
theorem dX11_bestSet_217 : decode cX11_bestSet 217 = .ok (.istore 6, 2) := dz_istore (yu1 zE_cX11_bestSet 3 25 (by decide +kernel))
theorem dX11_bestSet_219 : decode cX11_bestSet 219 = .ok (.iconst (-1), 1) := dz_iconst_m1 (y0 zE_cX11_bestSet 3 27 (by decide +kernel))
theorem dX11_bestSet_220 : decode cX11_bestSet 220 = .ok (.istore 7, 2) := dz_istore (yu1 zE_cX11_bestSet 3 28 (by decide +kernel))
theorem dX11_bestSet_222 : decode cX11_bestSet 222 = .ok (.iload 4, 2) := dz_iload (yu1 zE_cX11_bestSet 3 30 (by decide +kernel))
theorem dX11_bestSet_224 : decode cX11_bestSet 224 = .ok (.ifCond .le 67, 3) := dz_ifCond_le (ys2 zE_cX11_bestSet 3 32 (by decide +kernel))
theorem dX11_bestSet_227 : decode cX11_bestSet 227 = .ok (.iconst 0, 1) := dz_iconst_0 (y0 zE_cX11_bestSet 3 35 (by decide +kernel))
theorem dX11_bestSet_228 : decode cX11_bestSet 228 = .ok (.istore 8, 2) := dz_istore (yu1 zE_cX11_bestSet 3 36 (by decide +kernel))
theorem dX11_bestSet_230 : decode cX11_bestSet 230 = .ok (.aload_n 2, 1) := dz_aload_n_2 (y0 zE_cX11_bestSet 3 38 (by decide +kernel))
theorem dX11_bestSet_231 : decode cX11_bestSet 231 = .ok (.iload 8, 2) := dz_iload (yu1 zE_cX11_bestSet 3 39 (by decide +kernel))
theorem dX11_bestSet_233 : decode cX11_bestSet 233 = .ok (.iaload, 1) := dz_iaload (y0 zE_cX11_bestSet 3 41 (by decide +kernel))
theorem dX11_bestSet_234 : decode cX11_bestSet 234 = .ok (.iload 4, 2) := dz_iload (yu1 zE_cX11_bestSet 3 42 (by decide +kernel))
theorem dX11_bestSet_236 : decode cX11_bestSet 236 = .ok (.if_icmp .ne 20, 3) := dz_if_icmp_ne (ys2 zE_cX11_bestSet 3 44 (by decide +kernel))
theorem dX11_bestSet_239 : decode cX11_bestSet 239 = .ok (.iload 7, 2) := dz_iload (yu1 zE_cX11_bestSet 3 47 (by decide +kernel))
theorem dX11_bestSet_241 : decode cX11_bestSet 241 = .ok (.iconst (-1), 1) := dz_iconst_m1 (y0 zE_cX11_bestSet 3 49 (by decide +kernel))
theorem dX11_bestSet_242 : decode cX11_bestSet 242 = .ok (.if_icmp .eq 20, 3) := dz_if_icmp_eq (ys2 zE_cX11_bestSet 3 50 (by decide +kernel))
theorem dX11_bestSet_245 : decode cX11_bestSet 245 = .ok (.aload_n 0, 1) := dz_aload_n_0 (y0 zE_cX11_bestSet 3 53 (by decide +kernel))
theorem dX11_bestSet_246 : decode cX11_bestSet 246 = .ok (.iload 7, 2) := dz_iload (yu1 zE_cX11_bestSet 3 54 (by decide +kernel))
theorem dX11_bestSet_248 : decode cX11_bestSet 248 = .ok (.iload 8, 2) := dz_iload (yu1 zE_cX11_bestSet 3 56 (by decide +kernel))
theorem dX11_bestSet_250 : decode cX11_bestSet 250 = .ok (.invokevirtual 284, 3) := dz_invokevirtual (yu2 zE_cX11_bestSet 3 58 (by decide +kernel))
theorem dX11_bestSet_253 : decode cX11_bestSet 253 = .ok (.ifCond .ne 9, 3) := dz_ifCond_ne (ys2 zE_cX11_bestSet 3 61 (by decide +kernel))
theorem dX11_bestSet_256 : decode cX11_bestSet 256 = .ok (.iinc 8 1, 3) := dz_iinc (yii zE_cX11_bestSet 4 0 (by decide +kernel))
theorem dX11_bestSet_259 : decode cX11_bestSet 259 = .ok (.goto (-29), 3) := dz_goto (ys2 zE_cX11_bestSet 4 3 (by decide +kernel))
theorem dX11_bestSet_262 : decode cX11_bestSet 262 = .ok (.aload 5, 2) := dz_aload (yu1 zE_cX11_bestSet 4 6 (by decide +kernel))
theorem dX11_bestSet_264 : decode cX11_bestSet 264 = .ok (.iload 6, 2) := dz_iload (yu1 zE_cX11_bestSet 4 8 (by decide +kernel))
theorem dX11_bestSet_266 : decode cX11_bestSet 266 = .ok (.iload 8, 2) := dz_iload (yu1 zE_cX11_bestSet 4 10 (by decide +kernel))
theorem dX11_bestSet_268 : decode cX11_bestSet 268 = .ok (.iastore, 1) := dz_iastore (y0 zE_cX11_bestSet 4 12 (by decide +kernel))
theorem dX11_bestSet_269 : decode cX11_bestSet 269 = .ok (.iinc 6 1, 3) := dz_iinc (yii zE_cX11_bestSet 4 13 (by decide +kernel))
theorem dX11_bestSet_272 : decode cX11_bestSet 272 = .ok (.iload 4, 2) := dz_iload (yu1 zE_cX11_bestSet 4 16 (by decide +kernel))
theorem dX11_bestSet_274 : decode cX11_bestSet 274 = .ok (.aload_n 0, 1) := dz_aload_n_0 (y0 zE_cX11_bestSet 4 18 (by decide +kernel))
theorem dX11_bestSet_275 : decode cX11_bestSet 275 = .ok (.getfield 29, 3) := dz_getfield (yu2 zE_cX11_bestSet 4 19 (by decide +kernel))
theorem dX11_bestSet_278 : decode cX11_bestSet 278 = .ok (.iload 8, 2) := dz_iload (yu1 zE_cX11_bestSet 4 22 (by decide +kernel))
theorem dX11_bestSet_280 : decode cX11_bestSet 280 = .ok (.iaload, 1) := dz_iaload (y0 zE_cX11_bestSet 4 24 (by decide +kernel))
theorem dX11_bestSet_281 : decode cX11_bestSet 281 = .ok (.isub, 1) := dz_isub (y0 zE_cX11_bestSet 4 25 (by decide +kernel))
theorem dX11_bestSet_282 : decode cX11_bestSet 282 = .ok (.istore 4, 2) := dz_istore (yu1 zE_cX11_bestSet 4 26 (by decide +kernel))
theorem dX11_bestSet_284 : decode cX11_bestSet 284 = .ok (.iload 8, 2) := dz_iload (yu1 zE_cX11_bestSet 4 28 (by decide +kernel))
theorem dX11_bestSet_286 : decode cX11_bestSet 286 = .ok (.istore 7, 2) := dz_istore (yu1 zE_cX11_bestSet 4 30 (by decide +kernel))
theorem dX11_bestSet_288 : decode cX11_bestSet 288 = .ok (.goto (-66), 3) := dz_goto (ys2 zE_cX11_bestSet 4 32 (by decide +kernel))
theorem dX11_bestSet_291 : decode cX11_bestSet 291 = .ok (.iload 6, 2) := dz_iload (yu1 zE_cX11_bestSet 4 35 (by decide +kernel))
theorem dX11_bestSet_293 : decode cX11_bestSet 293 = .ok (.newarray .int, 2) := dkT (by decide +kernel)
theorem dX11_bestSet_295 : decode cX11_bestSet 295 = .ok (.astore 8, 2) := dz_astore (yu1 zE_cX11_bestSet 4 39 (by decide +kernel))
theorem dX11_bestSet_297 : decode cX11_bestSet 297 = .ok (.aload 5, 2) := dz_aload (yu1 zE_cX11_bestSet 4 41 (by decide +kernel))
theorem dX11_bestSet_299 : decode cX11_bestSet 299 = .ok (.iconst 0, 1) := dz_iconst_0 (y0 zE_cX11_bestSet 4 43 (by decide +kernel))
theorem dX11_bestSet_300 : decode cX11_bestSet 300 = .ok (.aload 8, 2) := dz_aload (yu1 zE_cX11_bestSet 4 44 (by decide +kernel))
theorem dX11_bestSet_302 : decode cX11_bestSet 302 = .ok (.iconst 0, 1) := dz_iconst_0 (y0 zE_cX11_bestSet 4 46 (by decide +kernel))
theorem dX11_bestSet_303 : decode cX11_bestSet 303 = .ok (.iload 6, 2) := dz_iload (yu1 zE_cX11_bestSet 4 47 (by decide +kernel))
theorem dX11_bestSet_305 : decode cX11_bestSet 305 = .ok (.invokestatic 287, 3) := dz_invokestatic (yu2 zE_cX11_bestSet 4 49 (by decide +kernel))
theorem dX11_bestSet_308 : decode cX11_bestSet 308 = .ok (.aload 8, 2) := dz_aload (yu1 zE_cX11_bestSet 4 52 (by decide +kernel))
theorem dX11_bestSet_310 : decode cX11_bestSet 310 = .ok (.areturn, 1) := dz_areturn (y0 zE_cX11_bestSet 4 54 (by decide +kernel))
theorem gd_wsX11_minutesOf : wsX11_minutesOf.all goodWord = true := by decide +kernel
set_option maxRecDepth 20000 in
theorem ggX11_minutesOf_X11_bestSet : GoodIn wsX11_minutesOf wsX11_bestSet := gi_q gd_wsX11_minutesOf _ [(6, 4), (1, 1), (10, 11), (5, 1), (21, 70)] rfl
set_option maxRecDepth 20000 in
theorem gX11_minutesOf_X11_bestSet : GoodIn wsX11_minutesOf (wsV RX11 270 RX11 yX11_bestSet wsX11_bestSet) := goodIn_app (gi_q gd_wsX11_minutesOf _ [(2, 4)] rfl) ggX11_minutesOf_X11_bestSet
def zT_cX11_minutesOf : List (List Nat) := [[3, 61, 42, 27, 182, 1, 14, 78, 45, 190, 54, 4, 3, 54, 5, 21, 5, 21, 4, 162, 0, 25, 45, 21, 5, 46, 54, 6, 28, 42, 180, 0, 29, 21, 6, 46, 96, 61, 132, 5, 1, 167, 255, 230, 28, 172]]
theorem zE_cX11_minutesOf : zTab cX11_minutesOf.data.toList zT_cX11_minutesOf = true := by decide +kernel
theorem dX11_minutesOf_0 : decode cX11_minutesOf 0 = .ok (.iconst 0, 1) := dz_iconst_0 (y0 zE_cX11_minutesOf 0 0 (by decide +kernel))
theorem dX11_minutesOf_1 : decode cX11_minutesOf 1 = .ok (.istore_n 2, 1) := dz_istore_n_2 (y0 zE_cX11_minutesOf 0 1 (by decide +kernel))
theorem dX11_minutesOf_2 : decode cX11_minutesOf 2 = .ok (.aload_n 0, 1) := dz_aload_n_0 (y0 zE_cX11_minutesOf 0 2 (by decide +kernel))
theorem dX11_minutesOf_3 : decode cX11_minutesOf 3 = .ok (.iload_n 1, 1) := dz_iload_n_1 (y0 zE_cX11_minutesOf 0 3 (by decide +kernel))
theorem dX11_minutesOf_4 : decode cX11_minutesOf 4 = .ok (.invokevirtual 270, 3) := dz_invokevirtual (yu2 zE_cX11_minutesOf 0 4 (by decide +kernel))
theorem dX11_minutesOf_7 : decode cX11_minutesOf 7 = .ok (.astore_n 3, 1) := dz_astore_n_3 (y0 zE_cX11_minutesOf 0 7 (by decide +kernel))
theorem dX11_minutesOf_8 : decode cX11_minutesOf 8 = .ok (.aload_n 3, 1) := dz_aload_n_3 (y0 zE_cX11_minutesOf 0 8 (by decide +kernel))
theorem dX11_minutesOf_9 : decode cX11_minutesOf 9 = .ok (.arraylength, 1) := dz_arraylength (y0 zE_cX11_minutesOf 0 9 (by decide +kernel))
theorem dX11_minutesOf_10 : decode cX11_minutesOf 10 = .ok (.istore 4, 2) := dz_istore (yu1 zE_cX11_minutesOf 0 10 (by decide +kernel))
theorem dX11_minutesOf_12 : decode cX11_minutesOf 12 = .ok (.iconst 0, 1) := dz_iconst_0 (y0 zE_cX11_minutesOf 0 12 (by decide +kernel))
theorem dX11_minutesOf_13 : decode cX11_minutesOf 13 = .ok (.istore 5, 2) := dz_istore (yu1 zE_cX11_minutesOf 0 13 (by decide +kernel))
theorem dX11_minutesOf_15 : decode cX11_minutesOf 15 = .ok (.iload 5, 2) := dz_iload (yu1 zE_cX11_minutesOf 0 15 (by decide +kernel))
theorem dX11_minutesOf_17 : decode cX11_minutesOf 17 = .ok (.iload 4, 2) := dz_iload (yu1 zE_cX11_minutesOf 0 17 (by decide +kernel))
theorem dX11_minutesOf_19 : decode cX11_minutesOf 19 = .ok (.if_icmp .ge 25, 3) := dz_if_icmp_ge (ys2 zE_cX11_minutesOf 0 19 (by decide +kernel))
theorem dX11_minutesOf_22 : decode cX11_minutesOf 22 = .ok (.aload_n 3, 1) := dz_aload_n_3 (y0 zE_cX11_minutesOf 0 22 (by decide +kernel))
theorem dX11_minutesOf_23 : decode cX11_minutesOf 23 = .ok (.iload 5, 2) := dz_iload (yu1 zE_cX11_minutesOf 0 23 (by decide +kernel))
theorem dX11_minutesOf_25 : decode cX11_minutesOf 25 = .ok (.iaload, 1) := dz_iaload (y0 zE_cX11_minutesOf 0 25 (by decide +kernel))
theorem dX11_minutesOf_26 : decode cX11_minutesOf 26 = .ok (.istore 6, 2) := dz_istore (yu1 zE_cX11_minutesOf 0 26 (by decide +kernel))
theorem dX11_minutesOf_28 : decode cX11_minutesOf 28 = .ok (.iload_n 2, 1) := dz_iload_n_2 (y0 zE_cX11_minutesOf 0 28 (by decide +kernel))
theorem dX11_minutesOf_29 : decode cX11_minutesOf 29 = .ok (.aload_n 0, 1) := dz_aload_n_0 (y0 zE_cX11_minutesOf 0 29 (by decide +kernel))
theorem dX11_minutesOf_30 : decode cX11_minutesOf 30 = .ok (.getfield 29, 3) := dz_getfield (yu2 zE_cX11_minutesOf 0 30 (by decide +kernel))
theorem dX11_minutesOf_33 : decode cX11_minutesOf 33 = .ok (.iload 6, 2) := dz_iload (yu1 zE_cX11_minutesOf 0 33 (by decide +kernel))
theorem dX11_minutesOf_35 : decode cX11_minutesOf 35 = .ok (.iaload, 1) := dz_iaload (y0 zE_cX11_minutesOf 0 35 (by decide +kernel))
theorem dX11_minutesOf_36 : decode cX11_minutesOf 36 = .ok (.iadd, 1) := dz_iadd (y0 zE_cX11_minutesOf 0 36 (by decide +kernel))
theorem dX11_minutesOf_37 : decode cX11_minutesOf 37 = .ok (.istore_n 2, 1) := dz_istore_n_2 (y0 zE_cX11_minutesOf 0 37 (by decide +kernel))
theorem dX11_minutesOf_38 : decode cX11_minutesOf 38 = .ok (.iinc 5 1, 3) := dz_iinc (yii zE_cX11_minutesOf 0 38 (by decide +kernel))
theorem dX11_minutesOf_41 : decode cX11_minutesOf 41 = .ok (.goto (-26), 3) := dz_goto (ys2 zE_cX11_minutesOf 0 41 (by decide +kernel))
theorem dX11_minutesOf_44 : decode cX11_minutesOf 44 = .ok (.iload_n 2, 1) := dz_iload_n_2 (y0 zE_cX11_minutesOf 0 44 (by decide +kernel))
theorem dX11_minutesOf_45 : decode cX11_minutesOf 45 = .ok (.ireturn, 1) := dz_ireturn (y0 zE_cX11_minutesOf 0 45 (by decide +kernel))
def zT_cX11_share : List (List Nat) := [[3, 61, 3, 62, 29, 16, 16, 162, 0, 25, 28, 42, 180, 0, 29, 29, 46, 42, 180, 0, 32, 29, 46, 104, 96, 61, 132, 3, 1, 167, 255, 231, 28, 154, 0, 7, 3, 167, 0, 22, 17, 3, 232, 42, 180, 0, 29, 27, 46, 104, 42, 180, 0, 32, 27, 46, 104, 28, 108, 172]]
theorem zE_cX11_share : zTab cX11_share.data.toList zT_cX11_share = true := by decide +kernel
theorem dX11_share_0 : decode cX11_share 0 = .ok (.iconst 0, 1) := dz_iconst_0 (y0 zE_cX11_share 0 0 (by decide +kernel))
theorem dX11_share_1 : decode cX11_share 1 = .ok (.istore_n 2, 1) := dz_istore_n_2 (y0 zE_cX11_share 0 1 (by decide +kernel))
theorem dX11_share_2 : decode cX11_share 2 = .ok (.iconst 0, 1) := dz_iconst_0 (y0 zE_cX11_share 0 2 (by decide +kernel))
theorem dX11_share_3 : decode cX11_share 3 = .ok (.istore_n 3, 1) := dz_istore_n_3 (y0 zE_cX11_share 0 3 (by decide +kernel))
theorem dX11_share_4 : decode cX11_share 4 = .ok (.iload_n 3, 1) := dz_iload_n_3 (y0 zE_cX11_share 0 4 (by decide +kernel))
theorem dX11_share_5 : decode cX11_share 5 = .ok (.bipush 16, 2) := dz_bipush (ys1 zE_cX11_share 0 5 (by decide +kernel))
theorem dX11_share_7 : decode cX11_share 7 = .ok (.if_icmp .ge 25, 3) := dz_if_icmp_ge (ys2 zE_cX11_share 0 7 (by decide +kernel))
theorem dX11_share_10 : decode cX11_share 10 = .ok (.iload_n 2, 1) := dz_iload_n_2 (y0 zE_cX11_share 0 10 (by decide +kernel))
theorem dX11_share_11 : decode cX11_share 11 = .ok (.aload_n 0, 1) := dz_aload_n_0 (y0 zE_cX11_share 0 11 (by decide +kernel))
theorem dX11_share_12 : decode cX11_share 12 = .ok (.getfield 29, 3) := dz_getfield (yu2 zE_cX11_share 0 12 (by decide +kernel))
theorem dX11_share_15 : decode cX11_share 15 = .ok (.iload_n 3, 1) := dz_iload_n_3 (y0 zE_cX11_share 0 15 (by decide +kernel))
theorem dX11_share_16 : decode cX11_share 16 = .ok (.iaload, 1) := dz_iaload (y0 zE_cX11_share 0 16 (by decide +kernel))
theorem dX11_share_17 : decode cX11_share 17 = .ok (.aload_n 0, 1) := dz_aload_n_0 (y0 zE_cX11_share 0 17 (by decide +kernel))
theorem dX11_share_18 : decode cX11_share 18 = .ok (.getfield 32, 3) := dz_getfield (yu2 zE_cX11_share 0 18 (by decide +kernel))
theorem dX11_share_21 : decode cX11_share 21 = .ok (.iload_n 3, 1) := dz_iload_n_3 (y0 zE_cX11_share 0 21 (by decide +kernel))
theorem dX11_share_22 : decode cX11_share 22 = .ok (.iaload, 1) := dz_iaload (y0 zE_cX11_share 0 22 (by decide +kernel))
theorem dX11_share_23 : decode cX11_share 23 = .ok (.imul, 1) := dz_imul (y0 zE_cX11_share 0 23 (by decide +kernel))
theorem dX11_share_24 : decode cX11_share 24 = .ok (.iadd, 1) := dz_iadd (y0 zE_cX11_share 0 24 (by decide +kernel))
theorem dX11_share_25 : decode cX11_share 25 = .ok (.istore_n 2, 1) := dz_istore_n_2 (y0 zE_cX11_share 0 25 (by decide +kernel))
theorem dX11_share_26 : decode cX11_share 26 = .ok (.iinc 3 1, 3) := dz_iinc (yii zE_cX11_share 0 26 (by decide +kernel))
theorem dX11_share_29 : decode cX11_share 29 = .ok (.goto (-25), 3) := dz_goto (ys2 zE_cX11_share 0 29 (by decide +kernel))
theorem dX11_share_32 : decode cX11_share 32 = .ok (.iload_n 2, 1) := dz_iload_n_2 (y0 zE_cX11_share 0 32 (by decide +kernel))
theorem dX11_share_33 : decode cX11_share 33 = .ok (.ifCond .ne 7, 3) := dz_ifCond_ne (ys2 zE_cX11_share 0 33 (by decide +kernel))
theorem dX11_share_36 : decode cX11_share 36 = .ok (.iconst 0, 1) := dz_iconst_0 (y0 zE_cX11_share 0 36 (by decide +kernel))
theorem dX11_share_37 : decode cX11_share 37 = .ok (.goto 22, 3) := dz_goto (ys2 zE_cX11_share 0 37 (by decide +kernel))
theorem dX11_share_40 : decode cX11_share 40 = .ok (.sipush 1000, 3) := dz_sipush (ys2 zE_cX11_share 0 40 (by decide +kernel))
theorem dX11_share_43 : decode cX11_share 43 = .ok (.aload_n 0, 1) := dz_aload_n_0 (y0 zE_cX11_share 0 43 (by decide +kernel))
theorem dX11_share_44 : decode cX11_share 44 = .ok (.getfield 29, 3) := dz_getfield (yu2 zE_cX11_share 0 44 (by decide +kernel))
theorem dX11_share_47 : decode cX11_share 47 = .ok (.iload_n 1, 1) := dz_iload_n_1 (y0 zE_cX11_share 0 47 (by decide +kernel))
theorem dX11_share_48 : decode cX11_share 48 = .ok (.iaload, 1) := dz_iaload (y0 zE_cX11_share 0 48 (by decide +kernel))
theorem dX11_share_49 : decode cX11_share 49 = .ok (.imul, 1) := dz_imul (y0 zE_cX11_share 0 49 (by decide +kernel))
theorem dX11_share_50 : decode cX11_share 50 = .ok (.aload_n 0, 1) := dz_aload_n_0 (y0 zE_cX11_share 0 50 (by decide +kernel))
theorem dX11_share_51 : decode cX11_share 51 = .ok (.getfield 32, 3) := dz_getfield (yu2 zE_cX11_share 0 51 (by decide +kernel))
theorem dX11_share_54 : decode cX11_share 54 = .ok (.iload_n 1, 1) := dz_iload_n_1 (y0 zE_cX11_share 0 54 (by decide +kernel))
theorem dX11_share_55 : decode cX11_share 55 = .ok (.iaload, 1) := dz_iaload (y0 zE_cX11_share 0 55 (by decide +kernel))
theorem dX11_share_56 : decode cX11_share 56 = .ok (.imul, 1) := dz_imul (y0 zE_cX11_share 0 56 (by decide +kernel))
theorem dX11_share_57 : decode cX11_share 57 = .ok (.iload_n 2, 1) := dz_iload_n_2 (y0 zE_cX11_share 0 57 (by decide +kernel))
theorem dX11_share_58 : decode cX11_share 58 = .ok (.idiv, 1) := dz_idiv (y0 zE_cX11_share 0 58 (by decide +kernel))
theorem dX11_share_59 : decode cX11_share 59 = .ok (.ireturn, 1) := dz_ireturn (y0 zE_cX11_share 0 59 (by decide +kernel))
theorem gd_wsX11_weddingsOf : wsX11_weddingsOf.all goodWord = true := by decide +kernel
set_option maxRecDepth 20000 in
theorem ggX11_weddingsOf_Jx4a65c_size_8abf5 : GoodIn wsX11_weddingsOf wsJx4a65c_size_8abf5 := gi_q gd_wsX11_weddingsOf _ [(8, 2), (56, 3)] rfl
set_option maxRecDepth 20000 in
theorem gX11_weddingsOf_Jx4a65c_size_8abf5 : GoodIn wsX11_weddingsOf (wsV RX11 48 RJx4a65c yJx4a65c_size_8abf5 wsJx4a65c_size_8abf5) := goodIn_app (gi_q gd_wsX11_weddingsOf _ [(4, 4)] rfl) ggX11_weddingsOf_Jx4a65c_size_8abf5
set_option maxRecDepth 20000 in
theorem ggX11_weddingsOf_Jx4a65c_get_915e3 : GoodIn wsX11_weddingsOf wsJx4a65c_get_915e3 := gi_q gd_wsX11_weddingsOf _ [(13, 1), (9, 1), (14, 11), (7, 1), (25, 2), (56, 3)] rfl
set_option maxRecDepth 20000 in
theorem gX11_weddingsOf_Jx4a65c_get_915e3 : GoodIn wsX11_weddingsOf (wsV RX11 90 RJx4a65c yJx4a65c_get_915e3 wsJx4a65c_get_915e3) := goodIn_app (gi_q gd_wsX11_weddingsOf _ [(10, 3), (7, 1)] rfl) ggX11_weddingsOf_Jx4a65c_get_915e3
set_option maxRecDepth 20000 in
theorem ggX11_weddingsOf_X11_isIn : GoodIn wsX11_weddingsOf wsX11_isIn := gi_q gd_wsX11_weddingsOf _ [(30, 1)] rfl
set_option maxRecDepth 20000 in
theorem gX11_weddingsOf_X11_isIn : GoodIn wsX11_weddingsOf (va_wsS RX11 102 yX11_isIn wsX11_isIn) := goodIn_app (gi_q gd_wsX11_weddingsOf _ [(27, 3)] rfl) ggX11_weddingsOf_X11_isIn
def zT_cX11_weddingsOf : List (List Nat) := [[6, 188, 10, 77, 3, 62, 29, 42, 180, 0, 19, 182, 0, 48, 162, 0, 101, 42, 180, 0, 19, 29, 182, 0, 90, 192, 0, 122, 58, 4, 25, 4, 180, 0, 160, 27, 184, 0, 102, 154, 0, 6, 167, 0, 67, 44, 3, 92, 46, 25, 4, 180, 0, 124, 4, 160, 0, 7, 4, 167, 0, 4, 3, 96, 79, 44, 4, 92], [79, 44, 4, 92, 46, 25, 4, 180, 0, 124, 5, 160, 0, 7, 4, 167, 0, 4, 3, 96, 79, 44, 5, 92, 46, 25, 4, 180, 0, 124, 5, 160, 0, 11, 25, 4, 180, 0, 149, 167, 0, 4, 3, 96, 79, 132, 3, 1, 167, 255, 150, 44, 176]]
theorem zE_cX11_weddingsOf : zTab cX11_weddingsOf.data.toList zT_cX11_weddingsOf = true := by decide +kernel
theorem dX11_weddingsOf_0 : decode cX11_weddingsOf 0 = .ok (.iconst 3, 1) := dz_iconst_3 (y0 zE_cX11_weddingsOf 0 0 (by decide +kernel))
theorem dX11_weddingsOf_1 : decode cX11_weddingsOf 1 = .ok (.newarray .int, 2) := dkT (by decide +kernel)
theorem dX11_weddingsOf_3 : decode cX11_weddingsOf 3 = .ok (.astore_n 2, 1) := dz_astore_n_2 (y0 zE_cX11_weddingsOf 0 3 (by decide +kernel))
theorem dX11_weddingsOf_4 : decode cX11_weddingsOf 4 = .ok (.iconst 0, 1) := dz_iconst_0 (y0 zE_cX11_weddingsOf 0 4 (by decide +kernel))
theorem dX11_weddingsOf_5 : decode cX11_weddingsOf 5 = .ok (.istore_n 3, 1) := dz_istore_n_3 (y0 zE_cX11_weddingsOf 0 5 (by decide +kernel))
theorem dX11_weddingsOf_6 : decode cX11_weddingsOf 6 = .ok (.iload_n 3, 1) := dz_iload_n_3 (y0 zE_cX11_weddingsOf 0 6 (by decide +kernel))
theorem dX11_weddingsOf_7 : decode cX11_weddingsOf 7 = .ok (.aload_n 0, 1) := dz_aload_n_0 (y0 zE_cX11_weddingsOf 0 7 (by decide +kernel))
theorem dX11_weddingsOf_8 : decode cX11_weddingsOf 8 = .ok (.getfield 19, 3) := dz_getfield (yu2 zE_cX11_weddingsOf 0 8 (by decide +kernel))
theorem dX11_weddingsOf_11 : decode cX11_weddingsOf 11 = .ok (.invokevirtual 48, 3) := dz_invokevirtual (yu2 zE_cX11_weddingsOf 0 11 (by decide +kernel))
theorem dX11_weddingsOf_14 : decode cX11_weddingsOf 14 = .ok (.if_icmp .ge 101, 3) := dz_if_icmp_ge (ys2 zE_cX11_weddingsOf 0 14 (by decide +kernel))
theorem dX11_weddingsOf_17 : decode cX11_weddingsOf 17 = .ok (.aload_n 0, 1) := dz_aload_n_0 (y0 zE_cX11_weddingsOf 0 17 (by decide +kernel))
theorem dX11_weddingsOf_18 : decode cX11_weddingsOf 18 = .ok (.getfield 19, 3) := dz_getfield (yu2 zE_cX11_weddingsOf 0 18 (by decide +kernel))
theorem dX11_weddingsOf_21 : decode cX11_weddingsOf 21 = .ok (.iload_n 3, 1) := dz_iload_n_3 (y0 zE_cX11_weddingsOf 0 21 (by decide +kernel))
theorem dX11_weddingsOf_22 : decode cX11_weddingsOf 22 = .ok (.invokevirtual 90, 3) := dz_invokevirtual (yu2 zE_cX11_weddingsOf 0 22 (by decide +kernel))
theorem dX11_weddingsOf_25 : decode cX11_weddingsOf 25 = .ok (.checkcast 122, 3) := dz_checkcast (yu2 zE_cX11_weddingsOf 0 25 (by decide +kernel))
theorem dX11_weddingsOf_28 : decode cX11_weddingsOf 28 = .ok (.astore 4, 2) := dz_astore (yu1 zE_cX11_weddingsOf 0 28 (by decide +kernel))
theorem dX11_weddingsOf_30 : decode cX11_weddingsOf 30 = .ok (.aload 4, 2) := dz_aload (yu1 zE_cX11_weddingsOf 0 30 (by decide +kernel))
theorem dX11_weddingsOf_32 : decode cX11_weddingsOf 32 = .ok (.getfield 160, 3) := dz_getfield (yu2 zE_cX11_weddingsOf 0 32 (by decide +kernel))
theorem dX11_weddingsOf_35 : decode cX11_weddingsOf 35 = .ok (.iload_n 1, 1) := dz_iload_n_1 (y0 zE_cX11_weddingsOf 0 35 (by decide +kernel))
theorem dX11_weddingsOf_36 : decode cX11_weddingsOf 36 = .ok (.invokestatic 102, 3) := dz_invokestatic (yu2 zE_cX11_weddingsOf 0 36 (by decide +kernel))
theorem dX11_weddingsOf_39 : decode cX11_weddingsOf 39 = .ok (.ifCond .ne 6, 3) := dz_ifCond_ne (ys2 zE_cX11_weddingsOf 0 39 (by decide +kernel))
theorem dX11_weddingsOf_42 : decode cX11_weddingsOf 42 = .ok (.goto 67, 3) := dz_goto (ys2 zE_cX11_weddingsOf 0 42 (by decide +kernel))
theorem dX11_weddingsOf_45 : decode cX11_weddingsOf 45 = .ok (.aload_n 2, 1) := dz_aload_n_2 (y0 zE_cX11_weddingsOf 0 45 (by decide +kernel))
theorem dX11_weddingsOf_46 : decode cX11_weddingsOf 46 = .ok (.iconst 0, 1) := dz_iconst_0 (y0 zE_cX11_weddingsOf 0 46 (by decide +kernel))
theorem dX11_weddingsOf_47 : decode cX11_weddingsOf 47 = .ok (.dup2, 1) := dz_dup2 (y0 zE_cX11_weddingsOf 0 47 (by decide +kernel))
theorem dX11_weddingsOf_48 : decode cX11_weddingsOf 48 = .ok (.iaload, 1) := dz_iaload (y0 zE_cX11_weddingsOf 0 48 (by decide +kernel))
theorem dX11_weddingsOf_49 : decode cX11_weddingsOf 49 = .ok (.aload 4, 2) := dz_aload (yu1 zE_cX11_weddingsOf 0 49 (by decide +kernel))
theorem dX11_weddingsOf_51 : decode cX11_weddingsOf 51 = .ok (.getfield 124, 3) := dz_getfield (yu2 zE_cX11_weddingsOf 0 51 (by decide +kernel))
theorem dX11_weddingsOf_54 : decode cX11_weddingsOf 54 = .ok (.iconst 1, 1) := dz_iconst_1 (y0 zE_cX11_weddingsOf 0 54 (by decide +kernel))
theorem dX11_weddingsOf_55 : decode cX11_weddingsOf 55 = .ok (.if_icmp .ne 7, 3) := dz_if_icmp_ne (ys2 zE_cX11_weddingsOf 0 55 (by decide +kernel))
theorem dX11_weddingsOf_58 : decode cX11_weddingsOf 58 = .ok (.iconst 1, 1) := dz_iconst_1 (y0 zE_cX11_weddingsOf 0 58 (by decide +kernel))
theorem dX11_weddingsOf_59 : decode cX11_weddingsOf 59 = .ok (.goto 4, 3) := dz_goto (ys2 zE_cX11_weddingsOf 0 59 (by decide +kernel))
theorem dX11_weddingsOf_62 : decode cX11_weddingsOf 62 = .ok (.iconst 0, 1) := dz_iconst_0 (y0 zE_cX11_weddingsOf 0 62 (by decide +kernel))
theorem dX11_weddingsOf_63 : decode cX11_weddingsOf 63 = .ok (.iadd, 1) := dz_iadd (y0 zE_cX11_weddingsOf 0 63 (by decide +kernel))
theorem dX11_weddingsOf_64 : decode cX11_weddingsOf 64 = .ok (.iastore, 1) := dz_iastore (y0 zE_cX11_weddingsOf 1 0 (by decide +kernel))
theorem dX11_weddingsOf_65 : decode cX11_weddingsOf 65 = .ok (.aload_n 2, 1) := dz_aload_n_2 (y0 zE_cX11_weddingsOf 1 1 (by decide +kernel))
theorem dX11_weddingsOf_66 : decode cX11_weddingsOf 66 = .ok (.iconst 1, 1) := dz_iconst_1 (y0 zE_cX11_weddingsOf 1 2 (by decide +kernel))
theorem dX11_weddingsOf_67 : decode cX11_weddingsOf 67 = .ok (.dup2, 1) := dz_dup2 (y0 zE_cX11_weddingsOf 1 3 (by decide +kernel))
theorem dX11_weddingsOf_68 : decode cX11_weddingsOf 68 = .ok (.iaload, 1) := dz_iaload (y0 zE_cX11_weddingsOf 1 4 (by decide +kernel))
theorem dX11_weddingsOf_69 : decode cX11_weddingsOf 69 = .ok (.aload 4, 2) := dz_aload (yu1 zE_cX11_weddingsOf 1 5 (by decide +kernel))
theorem dX11_weddingsOf_71 : decode cX11_weddingsOf 71 = .ok (.getfield 124, 3) := dz_getfield (yu2 zE_cX11_weddingsOf 1 7 (by decide +kernel))
theorem dX11_weddingsOf_74 : decode cX11_weddingsOf 74 = .ok (.iconst 2, 1) := dz_iconst_2 (y0 zE_cX11_weddingsOf 1 10 (by decide +kernel))
theorem dX11_weddingsOf_75 : decode cX11_weddingsOf 75 = .ok (.if_icmp .ne 7, 3) := dz_if_icmp_ne (ys2 zE_cX11_weddingsOf 1 11 (by decide +kernel))
theorem dX11_weddingsOf_78 : decode cX11_weddingsOf 78 = .ok (.iconst 1, 1) := dz_iconst_1 (y0 zE_cX11_weddingsOf 1 14 (by decide +kernel))
theorem dX11_weddingsOf_79 : decode cX11_weddingsOf 79 = .ok (.goto 4, 3) := dz_goto (ys2 zE_cX11_weddingsOf 1 15 (by decide +kernel))
theorem dX11_weddingsOf_82 : decode cX11_weddingsOf 82 = .ok (.iconst 0, 1) := dz_iconst_0 (y0 zE_cX11_weddingsOf 1 18 (by decide +kernel))
theorem dX11_weddingsOf_83 : decode cX11_weddingsOf 83 = .ok (.iadd, 1) := dz_iadd (y0 zE_cX11_weddingsOf 1 19 (by decide +kernel))
theorem dX11_weddingsOf_84 : decode cX11_weddingsOf 84 = .ok (.iastore, 1) := dz_iastore (y0 zE_cX11_weddingsOf 1 20 (by decide +kernel))
theorem dX11_weddingsOf_85 : decode cX11_weddingsOf 85 = .ok (.aload_n 2, 1) := dz_aload_n_2 (y0 zE_cX11_weddingsOf 1 21 (by decide +kernel))
theorem dX11_weddingsOf_86 : decode cX11_weddingsOf 86 = .ok (.iconst 2, 1) := dz_iconst_2 (y0 zE_cX11_weddingsOf 1 22 (by decide +kernel))
theorem dX11_weddingsOf_87 : decode cX11_weddingsOf 87 = .ok (.dup2, 1) := dz_dup2 (y0 zE_cX11_weddingsOf 1 23 (by decide +kernel))
theorem dX11_weddingsOf_88 : decode cX11_weddingsOf 88 = .ok (.iaload, 1) := dz_iaload (y0 zE_cX11_weddingsOf 1 24 (by decide +kernel))
theorem dX11_weddingsOf_89 : decode cX11_weddingsOf 89 = .ok (.aload 4, 2) := dz_aload (yu1 zE_cX11_weddingsOf 1 25 (by decide +kernel))
theorem dX11_weddingsOf_91 : decode cX11_weddingsOf 91 = .ok (.getfield 124, 3) := dz_getfield (yu2 zE_cX11_weddingsOf 1 27 (by decide +kernel))
theorem dX11_weddingsOf_94 : decode cX11_weddingsOf 94 = .ok (.iconst 2, 1) := dz_iconst_2 (y0 zE_cX11_weddingsOf 1 30 (by decide +kernel))
theorem dX11_weddingsOf_95 : decode cX11_weddingsOf 95 = .ok (.if_icmp .ne 11, 3) := dz_if_icmp_ne (ys2 zE_cX11_weddingsOf 1 31 (by decide +kernel))
theorem dX11_weddingsOf_98 : decode cX11_weddingsOf 98 = .ok (.aload 4, 2) := dz_aload (yu1 zE_cX11_weddingsOf 1 34 (by decide +kernel))
theorem dX11_weddingsOf_100 : decode cX11_weddingsOf 100 = .ok (.getfield 149, 3) := dz_getfield (yu2 zE_cX11_weddingsOf 1 36 (by decide +kernel))
theorem dX11_weddingsOf_103 : decode cX11_weddingsOf 103 = .ok (.goto 4, 3) := dz_goto (ys2 zE_cX11_weddingsOf 1 39 (by decide +kernel))
theorem dX11_weddingsOf_106 : decode cX11_weddingsOf 106 = .ok (.iconst 0, 1) := dz_iconst_0 (y0 zE_cX11_weddingsOf 1 42 (by decide +kernel))
theorem dX11_weddingsOf_107 : decode cX11_weddingsOf 107 = .ok (.iadd, 1) := dz_iadd (y0 zE_cX11_weddingsOf 1 43 (by decide +kernel))
theorem dX11_weddingsOf_108 : decode cX11_weddingsOf 108 = .ok (.iastore, 1) := dz_iastore (y0 zE_cX11_weddingsOf 1 44 (by decide +kernel))
theorem dX11_weddingsOf_109 : decode cX11_weddingsOf 109 = .ok (.iinc 3 1, 3) := dz_iinc (yii zE_cX11_weddingsOf 1 45 (by decide +kernel))
theorem dX11_weddingsOf_112 : decode cX11_weddingsOf 112 = .ok (.goto (-106), 3) := dz_goto (ys2 zE_cX11_weddingsOf 1 48 (by decide +kernel))
theorem dX11_weddingsOf_115 : decode cX11_weddingsOf 115 = .ok (.aload_n 2, 1) := dz_aload_n_2 (y0 zE_cX11_weddingsOf 1 51 (by decide +kernel))
theorem dX11_weddingsOf_116 : decode cX11_weddingsOf 116 = .ok (.areturn, 1) := dz_areturn (y0 zE_cX11_weddingsOf 1 52 (by decide +kernel))
theorem gd_wsX11_ofPlayerNow : wsX11_ofPlayerNow.all goodWord = true := by decide +kernel
set_option maxRecDepth 20000 in
theorem ggX11_ofPlayerNow_Jx4a65c_get_915e3 : GoodIn wsX11_ofPlayerNow wsJx4a65c_get_915e3 := gi_q gd_wsX11_ofPlayerNow _ [(7, 13), (6, 1), (20, 2), (57, 3)] rfl
set_option maxRecDepth 20000 in
theorem gX11_ofPlayerNow_Jx4a65c_get_915e3 : GoodIn wsX11_ofPlayerNow (wsV RX11 90 RJx4a65c yJx4a65c_get_915e3 wsJx4a65c_get_915e3) := goodIn_app (gi_q gd_wsX11_ofPlayerNow _ [(3, 4)] rfl) ggX11_ofPlayerNow_Jx4a65c_get_915e3
set_option maxRecDepth 20000 in
theorem ggX11_ofPlayerNow_X11_weddingsOf : GoodIn wsX11_ofPlayerNow wsX11_weddingsOf := gi_q gd_wsX11_ofPlayerNow _ [(26, 7), (6, 1), (33, 1), (8, 1), (3, 3), (7, 1), (9, 13), (34, 2), (25, 1), (36, 14), (60, 12), (57, 3)] rfl
set_option maxRecDepth 20000 in
theorem gX11_ofPlayerNow_X11_weddingsOf : GoodIn wsX11_ofPlayerNow (wsV RX11 293 RX11 yX11_weddingsOf wsX11_weddingsOf) := goodIn_app (gi_q gd_wsX11_ofPlayerNow _ [(22, 4)] rfl) ggX11_ofPlayerNow_X11_weddingsOf
def zT_cX11_ofPlayerNow : List (List Nat) := [[42, 180, 0, 10, 27, 182, 0, 90, 192, 0, 68, 78, 28, 170, 0, 0, 0, 0, 0, 69, 0, 0, 0, 0, 0, 0, 0, 5, 0, 0, 0, 39, 0, 0, 0, 44, 0, 0, 0, 49, 0, 0, 0, 54, 0, 0, 0, 59, 0, 0, 0, 64, 45, 180, 0, 71, 172, 45, 180, 0, 74, 172, 45, 180, 0, 77, 172, 45], [0, 77, 172, 45, 180, 0, 80, 172, 45, 180, 0, 99, 172, 45, 180, 1, 11, 172, 42, 27, 182, 1, 37, 28, 16, 6, 100, 46, 172]]
theorem zE_cX11_ofPlayerNow : zTab cX11_ofPlayerNow.data.toList zT_cX11_ofPlayerNow = true := by decide +kernel
theorem dX11_ofPlayerNow_0 : decode cX11_ofPlayerNow 0 = .ok (.aload_n 0, 1) := dz_aload_n_0 (y0 zE_cX11_ofPlayerNow 0 0 (by decide +kernel))
theorem dX11_ofPlayerNow_1 : decode cX11_ofPlayerNow 1 = .ok (.getfield 10, 3) := dz_getfield (yu2 zE_cX11_ofPlayerNow 0 1 (by decide +kernel))
theorem dX11_ofPlayerNow_4 : decode cX11_ofPlayerNow 4 = .ok (.iload_n 1, 1) := dz_iload_n_1 (y0 zE_cX11_ofPlayerNow 0 4 (by decide +kernel))
theorem dX11_ofPlayerNow_5 : decode cX11_ofPlayerNow 5 = .ok (.invokevirtual 90, 3) := dz_invokevirtual (yu2 zE_cX11_ofPlayerNow 0 5 (by decide +kernel))
theorem dX11_ofPlayerNow_8 : decode cX11_ofPlayerNow 8 = .ok (.checkcast 68, 3) := dz_checkcast (yu2 zE_cX11_ofPlayerNow 0 8 (by decide +kernel))
theorem dX11_ofPlayerNow_11 : decode cX11_ofPlayerNow 11 = .ok (.astore_n 3, 1) := dz_astore_n_3 (y0 zE_cX11_ofPlayerNow 0 11 (by decide +kernel))
theorem dX11_ofPlayerNow_12 : decode cX11_ofPlayerNow 12 = .ok (.iload_n 2, 1) := dz_iload_n_2 (y0 zE_cX11_ofPlayerNow 0 12 (by decide +kernel))
theorem dX11_ofPlayerNow_13 : decode cX11_ofPlayerNow 13 = .ok (.tableswitch 69 0 5 #[39, 44, 49, 54, 59, 64], 39) := dkT (by decide +kernel)
theorem dX11_ofPlayerNow_52 : decode cX11_ofPlayerNow 52 = .ok (.aload_n 3, 1) := dz_aload_n_3 (y0 zE_cX11_ofPlayerNow 0 52 (by decide +kernel))
theorem dX11_ofPlayerNow_53 : decode cX11_ofPlayerNow 53 = .ok (.getfield 71, 3) := dz_getfield (yu2 zE_cX11_ofPlayerNow 0 53 (by decide +kernel))
theorem dX11_ofPlayerNow_56 : decode cX11_ofPlayerNow 56 = .ok (.ireturn, 1) := dz_ireturn (y0 zE_cX11_ofPlayerNow 0 56 (by decide +kernel))
theorem dX11_ofPlayerNow_57 : decode cX11_ofPlayerNow 57 = .ok (.aload_n 3, 1) := dz_aload_n_3 (y0 zE_cX11_ofPlayerNow 0 57 (by decide +kernel))
theorem dX11_ofPlayerNow_58 : decode cX11_ofPlayerNow 58 = .ok (.getfield 74, 3) := dz_getfield (yu2 zE_cX11_ofPlayerNow 0 58 (by decide +kernel))
theorem dX11_ofPlayerNow_61 : decode cX11_ofPlayerNow 61 = .ok (.ireturn, 1) := dz_ireturn (y0 zE_cX11_ofPlayerNow 0 61 (by decide +kernel))
theorem dX11_ofPlayerNow_62 : decode cX11_ofPlayerNow 62 = .ok (.aload_n 3, 1) := dz_aload_n_3 (y0 zE_cX11_ofPlayerNow 0 62 (by decide +kernel))
theorem dX11_ofPlayerNow_63 : decode cX11_ofPlayerNow 63 = .ok (.getfield 77, 3) := dz_getfield (yu2 zE_cX11_ofPlayerNow 0 63 (by decide +kernel))
theorem dX11_ofPlayerNow_66 : decode cX11_ofPlayerNow 66 = .ok (.ireturn, 1) := dz_ireturn (y0 zE_cX11_ofPlayerNow 1 2 (by decide +kernel))
theorem dX11_ofPlayerNow_67 : decode cX11_ofPlayerNow 67 = .ok (.aload_n 3, 1) := dz_aload_n_3 (y0 zE_cX11_ofPlayerNow 1 3 (by decide +kernel))
theorem dX11_ofPlayerNow_68 : decode cX11_ofPlayerNow 68 = .ok (.getfield 80, 3) := dz_getfield (yu2 zE_cX11_ofPlayerNow 1 4 (by decide +kernel))
theorem dX11_ofPlayerNow_71 : decode cX11_ofPlayerNow 71 = .ok (.ireturn, 1) := dz_ireturn (y0 zE_cX11_ofPlayerNow 1 7 (by decide +kernel))
theorem dX11_ofPlayerNow_72 : decode cX11_ofPlayerNow 72 = .ok (.aload_n 3, 1) := dz_aload_n_3 (y0 zE_cX11_ofPlayerNow 1 8 (by decide +kernel))
theorem dX11_ofPlayerNow_73 : decode cX11_ofPlayerNow 73 = .ok (.getfield 99, 3) := dz_getfield (yu2 zE_cX11_ofPlayerNow 1 9 (by decide +kernel))
theorem dX11_ofPlayerNow_76 : decode cX11_ofPlayerNow 76 = .ok (.ireturn, 1) := dz_ireturn (y0 zE_cX11_ofPlayerNow 1 12 (by decide +kernel))
theorem dX11_ofPlayerNow_77 : decode cX11_ofPlayerNow 77 = .ok (.aload_n 3, 1) := dz_aload_n_3 (y0 zE_cX11_ofPlayerNow 1 13 (by decide +kernel))
theorem dX11_ofPlayerNow_78 : decode cX11_ofPlayerNow 78 = .ok (.getfield 267, 3) := dz_getfield (yu2 zE_cX11_ofPlayerNow 1 14 (by decide +kernel))
theorem dX11_ofPlayerNow_81 : decode cX11_ofPlayerNow 81 = .ok (.ireturn, 1) := dz_ireturn (y0 zE_cX11_ofPlayerNow 1 17 (by decide +kernel))
theorem dX11_ofPlayerNow_82 : decode cX11_ofPlayerNow 82 = .ok (.aload_n 0, 1) := dz_aload_n_0 (y0 zE_cX11_ofPlayerNow 1 18 (by decide +kernel))
theorem dX11_ofPlayerNow_83 : decode cX11_ofPlayerNow 83 = .ok (.iload_n 1, 1) := dz_iload_n_1 (y0 zE_cX11_ofPlayerNow 1 19 (by decide +kernel))
theorem dX11_ofPlayerNow_84 : decode cX11_ofPlayerNow 84 = .ok (.invokevirtual 293, 3) := dz_invokevirtual (yu2 zE_cX11_ofPlayerNow 1 20 (by decide +kernel))
theorem dX11_ofPlayerNow_87 : decode cX11_ofPlayerNow 87 = .ok (.iload_n 2, 1) := dz_iload_n_2 (y0 zE_cX11_ofPlayerNow 1 23 (by decide +kernel))
theorem dX11_ofPlayerNow_88 : decode cX11_ofPlayerNow 88 = .ok (.bipush 6, 2) := dz_bipush (ys1 zE_cX11_ofPlayerNow 1 24 (by decide +kernel))
theorem dX11_ofPlayerNow_90 : decode cX11_ofPlayerNow 90 = .ok (.isub, 1) := dz_isub (y0 zE_cX11_ofPlayerNow 1 26 (by decide +kernel))
theorem dX11_ofPlayerNow_91 : decode cX11_ofPlayerNow 91 = .ok (.iaload, 1) := dz_iaload (y0 zE_cX11_ofPlayerNow 1 27 (by decide +kernel))
theorem dX11_ofPlayerNow_92 : decode cX11_ofPlayerNow 92 = .ok (.ireturn, 1) := dz_ireturn (y0 zE_cX11_ofPlayerNow 1 28 (by decide +kernel))
theorem gd_wsX11_ofPlayer : wsX11_ofPlayer.all goodWord = true := by decide +kernel
set_option maxRecDepth 20000 in
theorem ggX11_ofPlayer_X11_isPlayer : GoodIn wsX11_ofPlayer wsX11_isPlayer := gi_q gd_wsX11_ofPlayer _ [(6, 10), (5, 1), (16, 1), (53, 16)] rfl
set_option maxRecDepth 20000 in
theorem gX11_ofPlayer_X11_isPlayer : GoodIn wsX11_ofPlayer (wsV RX11 87 RX11 yX11_isPlayer wsX11_isPlayer) := goodIn_app (gi_q gd_wsX11_ofPlayer _ [(2, 4)] rfl) ggX11_ofPlayer_X11_isPlayer
set_option maxRecDepth 20000 in
theorem ggX11_ofPlayer_X11_refuse : GoodIn wsX11_ofPlayer wsX11_refuse := gi_q gd_wsX11_ofPlayer _ [(20, 1), (1, 1), (53, 13)] rfl
set_option maxRecDepth 20000 in
theorem gX11_ofPlayer_X11_refuse : GoodIn wsX11_ofPlayer (wsV RX11 60 RX11 yX11_refuse wsX11_refuse) := goodIn_app (gi_q gd_wsX11_ofPlayer _ [(17, 3), (5, 1)] rfl) ggX11_ofPlayer_X11_refuse
set_option maxRecDepth 20000 in
theorem ggX11_ofPlayer_X11_is : GoodIn wsX11_ofPlayer wsX11_is := gi_q gd_wsX11_ofPlayer _ [(16, 1)] rfl
set_option maxRecDepth 20000 in
theorem gX11_ofPlayer_X11_is : GoodIn wsX11_ofPlayer (va_wsS RX11 52 yX11_is wsX11_is) := goodIn_app (gi_q gd_wsX11_ofPlayer _ [(14, 2), (5, 1)] rfl) ggX11_ofPlayer_X11_is
set_option maxRecDepth 20000 in
theorem ggX11_ofPlayer_X11_ofPlayerNow : GoodIn wsX11_ofPlayer wsX11_ofPlayerNow := gi_q gd_wsX11_ofPlayer _ [(24, 1), (7, 1), (25, 4), (11, 1), (29, 1), (13, 1), (30, 16), (5, 1), (46, 4), (8, 3), (12, 1), (50, 16), (69, 7), (66, 3), (76, 12)] rfl
set_option maxRecDepth 20000 in
theorem gX11_ofPlayer_X11_ofPlayerNow : GoodIn wsX11_ofPlayer (wsV RX11 296 RX11 yX11_ofPlayerNow wsX11_ofPlayerNow) := goodIn_app (gi_q gd_wsX11_ofPlayer _ [(21, 3), (5, 1)] rfl) ggX11_ofPlayer_X11_ofPlayerNow
def zT_cX11_ofPlayer : List (List Nat) := [[42, 3, 181, 0, 44, 42, 27, 182, 0, 87, 154, 0, 9, 42, 4, 182, 0, 60, 172, 28, 3, 16, 8, 184, 0, 52, 153, 0, 12, 42, 27, 28, 182, 1, 40, 167, 0, 8, 42, 5, 182, 0, 60, 172]]
theorem zE_cX11_ofPlayer : zTab cX11_ofPlayer.data.toList zT_cX11_ofPlayer = true := by decide +kernel
theorem dX11_ofPlayer_0 : decode cX11_ofPlayer 0 = .ok (.aload_n 0, 1) := dz_aload_n_0 (y0 zE_cX11_ofPlayer 0 0 (by decide +kernel))
theorem dX11_ofPlayer_1 : decode cX11_ofPlayer 1 = .ok (.iconst 0, 1) := dz_iconst_0 (y0 zE_cX11_ofPlayer 0 1 (by decide +kernel))
theorem dX11_ofPlayer_2 : decode cX11_ofPlayer 2 = .ok (.putfield 44, 3) := dz_putfield (yu2 zE_cX11_ofPlayer 0 2 (by decide +kernel))
theorem dX11_ofPlayer_5 : decode cX11_ofPlayer 5 = .ok (.aload_n 0, 1) := dz_aload_n_0 (y0 zE_cX11_ofPlayer 0 5 (by decide +kernel))
theorem dX11_ofPlayer_6 : decode cX11_ofPlayer 6 = .ok (.iload_n 1, 1) := dz_iload_n_1 (y0 zE_cX11_ofPlayer 0 6 (by decide +kernel))
theorem dX11_ofPlayer_7 : decode cX11_ofPlayer 7 = .ok (.invokevirtual 87, 3) := dz_invokevirtual (yu2 zE_cX11_ofPlayer 0 7 (by decide +kernel))
theorem dX11_ofPlayer_10 : decode cX11_ofPlayer 10 = .ok (.ifCond .ne 9, 3) := dz_ifCond_ne (ys2 zE_cX11_ofPlayer 0 10 (by decide +kernel))
theorem dX11_ofPlayer_13 : decode cX11_ofPlayer 13 = .ok (.aload_n 0, 1) := dz_aload_n_0 (y0 zE_cX11_ofPlayer 0 13 (by decide +kernel))
theorem dX11_ofPlayer_14 : decode cX11_ofPlayer 14 = .ok (.iconst 1, 1) := dz_iconst_1 (y0 zE_cX11_ofPlayer 0 14 (by decide +kernel))
theorem dX11_ofPlayer_15 : decode cX11_ofPlayer 15 = .ok (.invokevirtual 60, 3) := dz_invokevirtual (yu2 zE_cX11_ofPlayer 0 15 (by decide +kernel))
theorem dX11_ofPlayer_18 : decode cX11_ofPlayer 18 = .ok (.ireturn, 1) := dz_ireturn (y0 zE_cX11_ofPlayer 0 18 (by decide +kernel))
theorem dX11_ofPlayer_19 : decode cX11_ofPlayer 19 = .ok (.iload_n 2, 1) := dz_iload_n_2 (y0 zE_cX11_ofPlayer 0 19 (by decide +kernel))
theorem dX11_ofPlayer_20 : decode cX11_ofPlayer 20 = .ok (.iconst 0, 1) := dz_iconst_0 (y0 zE_cX11_ofPlayer 0 20 (by decide +kernel))
theorem dX11_ofPlayer_21 : decode cX11_ofPlayer 21 = .ok (.bipush 8, 2) := dz_bipush (ys1 zE_cX11_ofPlayer 0 21 (by decide +kernel))
theorem dX11_ofPlayer_23 : decode cX11_ofPlayer 23 = .ok (.invokestatic 52, 3) := dz_invokestatic (yu2 zE_cX11_ofPlayer 0 23 (by decide +kernel))
theorem dX11_ofPlayer_26 : decode cX11_ofPlayer 26 = .ok (.ifCond .eq 12, 3) := dz_ifCond_eq (ys2 zE_cX11_ofPlayer 0 26 (by decide +kernel))
theorem dX11_ofPlayer_29 : decode cX11_ofPlayer 29 = .ok (.aload_n 0, 1) := dz_aload_n_0 (y0 zE_cX11_ofPlayer 0 29 (by decide +kernel))
theorem dX11_ofPlayer_30 : decode cX11_ofPlayer 30 = .ok (.iload_n 1, 1) := dz_iload_n_1 (y0 zE_cX11_ofPlayer 0 30 (by decide +kernel))
theorem dX11_ofPlayer_31 : decode cX11_ofPlayer 31 = .ok (.iload_n 2, 1) := dz_iload_n_2 (y0 zE_cX11_ofPlayer 0 31 (by decide +kernel))
theorem dX11_ofPlayer_32 : decode cX11_ofPlayer 32 = .ok (.invokevirtual 296, 3) := dz_invokevirtual (yu2 zE_cX11_ofPlayer 0 32 (by decide +kernel))
theorem dX11_ofPlayer_35 : decode cX11_ofPlayer 35 = .ok (.goto 8, 3) := dz_goto (ys2 zE_cX11_ofPlayer 0 35 (by decide +kernel))
theorem dX11_ofPlayer_38 : decode cX11_ofPlayer 38 = .ok (.aload_n 0, 1) := dz_aload_n_0 (y0 zE_cX11_ofPlayer 0 38 (by decide +kernel))
theorem dX11_ofPlayer_39 : decode cX11_ofPlayer 39 = .ok (.iconst 2, 1) := dz_iconst_2 (y0 zE_cX11_ofPlayer 0 39 (by decide +kernel))
theorem dX11_ofPlayer_40 : decode cX11_ofPlayer 40 = .ok (.invokevirtual 60, 3) := dz_invokevirtual (yu2 zE_cX11_ofPlayer 0 40 (by decide +kernel))
theorem dX11_ofPlayer_43 : decode cX11_ofPlayer 43 = .ok (.ireturn, 1) := dz_ireturn (y0 zE_cX11_ofPlayer 0 43 (by decide +kernel))
theorem gd_wsX11_ofSongNow : wsX11_ofSongNow.all goodWord = true := by decide +kernel
set_option maxRecDepth 20000 in
theorem ggX11_ofSongNow_Jx4a65c_size_8abf5 : GoodIn wsX11_ofSongNow wsJx4a65c_size_8abf5 := gi_q gd_wsX11_ofSongNow _ [(11, 2), (58, 3)] rfl
set_option maxRecDepth 20000 in
theorem gX11_ofSongNow_Jx4a65c_size_8abf5 : GoodIn wsX11_ofSongNow (wsV RX11 48 RJx4a65c yJx4a65c_size_8abf5 wsJx4a65c_size_8abf5) := goodIn_app (gi_q gd_wsX11_ofSongNow _ [(7, 4)] rfl) ggX11_ofSongNow_Jx4a65c_size_8abf5
set_option maxRecDepth 20000 in
theorem ggX11_ofSongNow_Jx4a65c_get_915e3 : GoodIn wsX11_ofSongNow wsJx4a65c_get_915e3 := gi_q gd_wsX11_ofSongNow _ [(16, 1), (12, 1), (17, 11), (10, 1), (28, 2), (58, 3)] rfl
set_option maxRecDepth 20000 in
theorem gX11_ofSongNow_Jx4a65c_get_915e3 : GoodIn wsX11_ofSongNow (wsV RX11 90 RJx4a65c yJx4a65c_get_915e3 wsJx4a65c_get_915e3) := goodIn_app (gi_q gd_wsX11_ofSongNow _ [(13, 3), (10, 1)] rfl) ggX11_ofSongNow_Jx4a65c_get_915e3
set_option maxRecDepth 20000 in
theorem ggX11_ofSongNow_X11_isIn : GoodIn wsX11_ofSongNow wsX11_isIn := gi_q gd_wsX11_ofSongNow _ [(33, 1)] rfl
set_option maxRecDepth 20000 in
theorem gX11_ofSongNow_X11_isIn : GoodIn wsX11_ofSongNow (va_wsS RX11 102 yX11_isIn wsX11_isIn) := goodIn_app (gi_q gd_wsX11_ofSongNow _ [(30, 3)] rfl) ggX11_ofSongNow_X11_isIn
set_option maxRecDepth 20000 in
theorem ggX11_ofSongNow_X11_share : GoodIn wsX11_ofSongNow wsX11_share := gi_q gd_wsX11_ofSongNow _ [(37, 1), (5, 2), (38, 13)] rfl
set_option maxRecDepth 20000 in
theorem gX11_ofSongNow_X11_share : GoodIn wsX11_ofSongNow (wsV RX11 299 RX11 yX11_share wsX11_share) := goodIn_app (gi_q gd_wsX11_ofSongNow _ [(34, 3), (32, 1)] rfl) ggX11_ofSongNow_X11_share
def zT_cX11_ofSongNow : List (List Nat) := [[3, 62, 3, 54, 4, 21, 4, 42, 180, 0, 10, 182, 0, 48, 162, 0, 39, 29, 42, 180, 0, 10, 21, 4, 182, 0, 90, 192, 0, 68, 180, 0, 74, 27, 184, 0, 102, 153, 0, 7, 4, 167, 0, 4, 3, 96, 62, 132, 4, 1, 167, 255, 211, 28, 170, 0, 0, 0, 0, 68, 0, 0, 0, 0, 0, 0, 0, 4], [0, 0, 0, 4, 0, 0, 0, 34, 0, 0, 0, 41, 0, 0, 0, 48, 0, 0, 0, 55, 0, 0, 0, 62, 42, 180, 0, 22, 27, 46, 172, 42, 180, 0, 26, 27, 46, 172, 42, 180, 0, 29, 27, 46, 172, 42, 180, 0, 32, 27, 46, 172, 42, 27, 182, 1, 43, 172, 29, 172]]
theorem zE_cX11_ofSongNow : zTab cX11_ofSongNow.data.toList zT_cX11_ofSongNow = true := by decide +kernel
theorem dX11_ofSongNow_0 : decode cX11_ofSongNow 0 = .ok (.iconst 0, 1) := dz_iconst_0 (y0 zE_cX11_ofSongNow 0 0 (by decide +kernel))
theorem dX11_ofSongNow_1 : decode cX11_ofSongNow 1 = .ok (.istore_n 3, 1) := dz_istore_n_3 (y0 zE_cX11_ofSongNow 0 1 (by decide +kernel))
theorem dX11_ofSongNow_2 : decode cX11_ofSongNow 2 = .ok (.iconst 0, 1) := dz_iconst_0 (y0 zE_cX11_ofSongNow 0 2 (by decide +kernel))
theorem dX11_ofSongNow_3 : decode cX11_ofSongNow 3 = .ok (.istore 4, 2) := dz_istore (yu1 zE_cX11_ofSongNow 0 3 (by decide +kernel))
theorem dX11_ofSongNow_5 : decode cX11_ofSongNow 5 = .ok (.iload 4, 2) := dz_iload (yu1 zE_cX11_ofSongNow 0 5 (by decide +kernel))
theorem dX11_ofSongNow_7 : decode cX11_ofSongNow 7 = .ok (.aload_n 0, 1) := dz_aload_n_0 (y0 zE_cX11_ofSongNow 0 7 (by decide +kernel))
theorem dX11_ofSongNow_8 : decode cX11_ofSongNow 8 = .ok (.getfield 10, 3) := dz_getfield (yu2 zE_cX11_ofSongNow 0 8 (by decide +kernel))
theorem dX11_ofSongNow_11 : decode cX11_ofSongNow 11 = .ok (.invokevirtual 48, 3) := dz_invokevirtual (yu2 zE_cX11_ofSongNow 0 11 (by decide +kernel))
theorem dX11_ofSongNow_14 : decode cX11_ofSongNow 14 = .ok (.if_icmp .ge 39, 3) := dz_if_icmp_ge (ys2 zE_cX11_ofSongNow 0 14 (by decide +kernel))
theorem dX11_ofSongNow_17 : decode cX11_ofSongNow 17 = .ok (.iload_n 3, 1) := dz_iload_n_3 (y0 zE_cX11_ofSongNow 0 17 (by decide +kernel))
theorem dX11_ofSongNow_18 : decode cX11_ofSongNow 18 = .ok (.aload_n 0, 1) := dz_aload_n_0 (y0 zE_cX11_ofSongNow 0 18 (by decide +kernel))
theorem dX11_ofSongNow_19 : decode cX11_ofSongNow 19 = .ok (.getfield 10, 3) := dz_getfield (yu2 zE_cX11_ofSongNow 0 19 (by decide +kernel))
theorem dX11_ofSongNow_22 : decode cX11_ofSongNow 22 = .ok (.iload 4, 2) := dz_iload (yu1 zE_cX11_ofSongNow 0 22 (by decide +kernel))
theorem dX11_ofSongNow_24 : decode cX11_ofSongNow 24 = .ok (.invokevirtual 90, 3) := dz_invokevirtual (yu2 zE_cX11_ofSongNow 0 24 (by decide +kernel))
theorem dX11_ofSongNow_27 : decode cX11_ofSongNow 27 = .ok (.checkcast 68, 3) := dz_checkcast (yu2 zE_cX11_ofSongNow 0 27 (by decide +kernel))
theorem dX11_ofSongNow_30 : decode cX11_ofSongNow 30 = .ok (.getfield 74, 3) := dz_getfield (yu2 zE_cX11_ofSongNow 0 30 (by decide +kernel))
theorem dX11_ofSongNow_33 : decode cX11_ofSongNow 33 = .ok (.iload_n 1, 1) := dz_iload_n_1 (y0 zE_cX11_ofSongNow 0 33 (by decide +kernel))
theorem dX11_ofSongNow_34 : decode cX11_ofSongNow 34 = .ok (.invokestatic 102, 3) := dz_invokestatic (yu2 zE_cX11_ofSongNow 0 34 (by decide +kernel))
theorem dX11_ofSongNow_37 : decode cX11_ofSongNow 37 = .ok (.ifCond .eq 7, 3) := dz_ifCond_eq (ys2 zE_cX11_ofSongNow 0 37 (by decide +kernel))
theorem dX11_ofSongNow_40 : decode cX11_ofSongNow 40 = .ok (.iconst 1, 1) := dz_iconst_1 (y0 zE_cX11_ofSongNow 0 40 (by decide +kernel))
theorem dX11_ofSongNow_41 : decode cX11_ofSongNow 41 = .ok (.goto 4, 3) := dz_goto (ys2 zE_cX11_ofSongNow 0 41 (by decide +kernel))
theorem dX11_ofSongNow_44 : decode cX11_ofSongNow 44 = .ok (.iconst 0, 1) := dz_iconst_0 (y0 zE_cX11_ofSongNow 0 44 (by decide +kernel))
theorem dX11_ofSongNow_45 : decode cX11_ofSongNow 45 = .ok (.iadd, 1) := dz_iadd (y0 zE_cX11_ofSongNow 0 45 (by decide +kernel))
theorem dX11_ofSongNow_46 : decode cX11_ofSongNow 46 = .ok (.istore_n 3, 1) := dz_istore_n_3 (y0 zE_cX11_ofSongNow 0 46 (by decide +kernel))
theorem dX11_ofSongNow_47 : decode cX11_ofSongNow 47 = .ok (.iinc 4 1, 3) := dz_iinc (yii zE_cX11_ofSongNow 0 47 (by decide +kernel))
theorem dX11_ofSongNow_50 : decode cX11_ofSongNow 50 = .ok (.goto (-45), 3) := dz_goto (ys2 zE_cX11_ofSongNow 0 50 (by decide +kernel))
theorem dX11_ofSongNow_53 : decode cX11_ofSongNow 53 = .ok (.iload_n 2, 1) := dz_iload_n_2 (y0 zE_cX11_ofSongNow 0 53 (by decide +kernel))
theorem dX11_ofSongNow_54 : decode cX11_ofSongNow 54 = .ok (.tableswitch 68 0 4 #[34, 41, 48, 55, 62], 34) := dkT (by decide +kernel)
theorem dX11_ofSongNow_88 : decode cX11_ofSongNow 88 = .ok (.aload_n 0, 1) := dz_aload_n_0 (y0 zE_cX11_ofSongNow 1 24 (by decide +kernel))
theorem dX11_ofSongNow_89 : decode cX11_ofSongNow 89 = .ok (.getfield 22, 3) := dz_getfield (yu2 zE_cX11_ofSongNow 1 25 (by decide +kernel))
theorem dX11_ofSongNow_92 : decode cX11_ofSongNow 92 = .ok (.iload_n 1, 1) := dz_iload_n_1 (y0 zE_cX11_ofSongNow 1 28 (by decide +kernel))
theorem dX11_ofSongNow_93 : decode cX11_ofSongNow 93 = .ok (.iaload, 1) := dz_iaload (y0 zE_cX11_ofSongNow 1 29 (by decide +kernel))
theorem dX11_ofSongNow_94 : decode cX11_ofSongNow 94 = .ok (.ireturn, 1) := dz_ireturn (y0 zE_cX11_ofSongNow 1 30 (by decide +kernel))
theorem dX11_ofSongNow_95 : decode cX11_ofSongNow 95 = .ok (.aload_n 0, 1) := dz_aload_n_0 (y0 zE_cX11_ofSongNow 1 31 (by decide +kernel))
theorem dX11_ofSongNow_96 : decode cX11_ofSongNow 96 = .ok (.getfield 26, 3) := dz_getfield (yu2 zE_cX11_ofSongNow 1 32 (by decide +kernel))
theorem dX11_ofSongNow_99 : decode cX11_ofSongNow 99 = .ok (.iload_n 1, 1) := dz_iload_n_1 (y0 zE_cX11_ofSongNow 1 35 (by decide +kernel))
theorem dX11_ofSongNow_100 : decode cX11_ofSongNow 100 = .ok (.iaload, 1) := dz_iaload (y0 zE_cX11_ofSongNow 1 36 (by decide +kernel))
theorem dX11_ofSongNow_101 : decode cX11_ofSongNow 101 = .ok (.ireturn, 1) := dz_ireturn (y0 zE_cX11_ofSongNow 1 37 (by decide +kernel))
theorem dX11_ofSongNow_102 : decode cX11_ofSongNow 102 = .ok (.aload_n 0, 1) := dz_aload_n_0 (y0 zE_cX11_ofSongNow 1 38 (by decide +kernel))
theorem dX11_ofSongNow_103 : decode cX11_ofSongNow 103 = .ok (.getfield 29, 3) := dz_getfield (yu2 zE_cX11_ofSongNow 1 39 (by decide +kernel))
theorem dX11_ofSongNow_106 : decode cX11_ofSongNow 106 = .ok (.iload_n 1, 1) := dz_iload_n_1 (y0 zE_cX11_ofSongNow 1 42 (by decide +kernel))
theorem dX11_ofSongNow_107 : decode cX11_ofSongNow 107 = .ok (.iaload, 1) := dz_iaload (y0 zE_cX11_ofSongNow 1 43 (by decide +kernel))
theorem dX11_ofSongNow_108 : decode cX11_ofSongNow 108 = .ok (.ireturn, 1) := dz_ireturn (y0 zE_cX11_ofSongNow 1 44 (by decide +kernel))
theorem dX11_ofSongNow_109 : decode cX11_ofSongNow 109 = .ok (.aload_n 0, 1) := dz_aload_n_0 (y0 zE_cX11_ofSongNow 1 45 (by decide +kernel))
theorem dX11_ofSongNow_110 : decode cX11_ofSongNow 110 = .ok (.getfield 32, 3) := dz_getfield (yu2 zE_cX11_ofSongNow 1 46 (by decide +kernel))
theorem dX11_ofSongNow_113 : decode cX11_ofSongNow 113 = .ok (.iload_n 1, 1) := dz_iload_n_1 (y0 zE_cX11_ofSongNow 1 49 (by decide +kernel))
theorem dX11_ofSongNow_114 : decode cX11_ofSongNow 114 = .ok (.iaload, 1) := dz_iaload (y0 zE_cX11_ofSongNow 1 50 (by decide +kernel))
theorem dX11_ofSongNow_115 : decode cX11_ofSongNow 115 = .ok (.ireturn, 1) := dz_ireturn (y0 zE_cX11_ofSongNow 1 51 (by decide +kernel))
theorem dX11_ofSongNow_116 : decode cX11_ofSongNow 116 = .ok (.aload_n 0, 1) := dz_aload_n_0 (y0 zE_cX11_ofSongNow 1 52 (by decide +kernel))
theorem dX11_ofSongNow_117 : decode cX11_ofSongNow 117 = .ok (.iload_n 1, 1) := dz_iload_n_1 (y0 zE_cX11_ofSongNow 1 53 (by decide +kernel))
theorem dX11_ofSongNow_118 : decode cX11_ofSongNow 118 = .ok (.invokevirtual 299, 3) := dz_invokevirtual (yu2 zE_cX11_ofSongNow 1 54 (by decide +kernel))
theorem dX11_ofSongNow_121 : decode cX11_ofSongNow 121 = .ok (.ireturn, 1) := dz_ireturn (y0 zE_cX11_ofSongNow 1 57 (by decide +kernel))
theorem dX11_ofSongNow_122 : decode cX11_ofSongNow 122 = .ok (.iload_n 3, 1) := dz_iload_n_3 (y0 zE_cX11_ofSongNow 1 58 (by decide +kernel))
theorem dX11_ofSongNow_123 : decode cX11_ofSongNow 123 = .ok (.ireturn, 1) := dz_ireturn (y0 zE_cX11_ofSongNow 1 59 (by decide +kernel))
theorem gd_wsX11_ofSong : wsX11_ofSong.all goodWord = true := by decide +kernel
set_option maxRecDepth 20000 in
theorem ggX11_ofSong_X11_is : GoodIn wsX11_ofSong wsX11_is := gi_q gd_wsX11_ofSong _ [(5, 1)] rfl
set_option maxRecDepth 20000 in
theorem gX11_ofSong_X11_is : GoodIn wsX11_ofSong (va_wsS RX11 52 yX11_is wsX11_is) := goodIn_app (gi_q gd_wsX11_ofSong _ [(2, 3)] rfl) ggX11_ofSong_X11_is
set_option maxRecDepth 20000 in
theorem ggX11_ofSong_X11_refuse : GoodIn wsX11_ofSong wsX11_refuse := gi_q gd_wsX11_ofSong _ [(9, 1), (1, 1), (50, 13)] rfl
set_option maxRecDepth 20000 in
theorem gX11_ofSong_X11_refuse : GoodIn wsX11_ofSong (wsV RX11 60 RX11 yX11_refuse wsX11_refuse) := goodIn_app (gi_q gd_wsX11_ofSong _ [(6, 3), (4, 1)] rfl) ggX11_ofSong_X11_refuse
set_option maxRecDepth 20000 in
theorem ggX11_ofSong_X11_ofSongNow : GoodIn wsX11_ofSong wsX11_ofSongNow := gi_q gd_wsX11_ofSong _ [(13, 32), (4, 1), (45, 28)] rfl
set_option maxRecDepth 20000 in
theorem gX11_ofSong_X11_ofSongNow : GoodIn wsX11_ofSong (wsV RX11 302 RX11 yX11_ofSongNow wsX11_ofSongNow) := goodIn_app (gi_q gd_wsX11_ofSong _ [(10, 3), (4, 1)] rfl) ggX11_ofSong_X11_ofSongNow
def zT_cX11_ofSong : List (List Nat) := [[42, 3, 181, 0, 44, 27, 3, 16, 15, 184, 0, 52, 154, 0, 9, 42, 4, 182, 0, 60, 172, 28, 3, 8, 184, 0, 52, 153, 0, 12, 42, 27, 28, 182, 1, 46, 167, 0, 8, 42, 5, 182, 0, 60, 172]]
theorem zE_cX11_ofSong : zTab cX11_ofSong.data.toList zT_cX11_ofSong = true := by decide +kernel
theorem dX11_ofSong_0 : decode cX11_ofSong 0 = .ok (.aload_n 0, 1) := dz_aload_n_0 (y0 zE_cX11_ofSong 0 0 (by decide +kernel))
theorem dX11_ofSong_1 : decode cX11_ofSong 1 = .ok (.iconst 0, 1) := dz_iconst_0 (y0 zE_cX11_ofSong 0 1 (by decide +kernel))
theorem dX11_ofSong_2 : decode cX11_ofSong 2 = .ok (.putfield 44, 3) := dz_putfield (yu2 zE_cX11_ofSong 0 2 (by decide +kernel))
theorem dX11_ofSong_5 : decode cX11_ofSong 5 = .ok (.iload_n 1, 1) := dz_iload_n_1 (y0 zE_cX11_ofSong 0 5 (by decide +kernel))
theorem dX11_ofSong_6 : decode cX11_ofSong 6 = .ok (.iconst 0, 1) := dz_iconst_0 (y0 zE_cX11_ofSong 0 6 (by decide +kernel))
theorem dX11_ofSong_7 : decode cX11_ofSong 7 = .ok (.bipush 15, 2) := dz_bipush (ys1 zE_cX11_ofSong 0 7 (by decide +kernel))
theorem dX11_ofSong_9 : decode cX11_ofSong 9 = .ok (.invokestatic 52, 3) := dz_invokestatic (yu2 zE_cX11_ofSong 0 9 (by decide +kernel))
theorem dX11_ofSong_12 : decode cX11_ofSong 12 = .ok (.ifCond .ne 9, 3) := dz_ifCond_ne (ys2 zE_cX11_ofSong 0 12 (by decide +kernel))
theorem dX11_ofSong_15 : decode cX11_ofSong 15 = .ok (.aload_n 0, 1) := dz_aload_n_0 (y0 zE_cX11_ofSong 0 15 (by decide +kernel))
theorem dX11_ofSong_16 : decode cX11_ofSong 16 = .ok (.iconst 1, 1) := dz_iconst_1 (y0 zE_cX11_ofSong 0 16 (by decide +kernel))
theorem dX11_ofSong_17 : decode cX11_ofSong 17 = .ok (.invokevirtual 60, 3) := dz_invokevirtual (yu2 zE_cX11_ofSong 0 17 (by decide +kernel))
theorem dX11_ofSong_20 : decode cX11_ofSong 20 = .ok (.ireturn, 1) := dz_ireturn (y0 zE_cX11_ofSong 0 20 (by decide +kernel))
theorem dX11_ofSong_21 : decode cX11_ofSong 21 = .ok (.iload_n 2, 1) := dz_iload_n_2 (y0 zE_cX11_ofSong 0 21 (by decide +kernel))
theorem dX11_ofSong_22 : decode cX11_ofSong 22 = .ok (.iconst 0, 1) := dz_iconst_0 (y0 zE_cX11_ofSong 0 22 (by decide +kernel))
theorem dX11_ofSong_23 : decode cX11_ofSong 23 = .ok (.iconst 5, 1) := dz_iconst_5 (y0 zE_cX11_ofSong 0 23 (by decide +kernel))
theorem dX11_ofSong_24 : decode cX11_ofSong 24 = .ok (.invokestatic 52, 3) := dz_invokestatic (yu2 zE_cX11_ofSong 0 24 (by decide +kernel))
theorem dX11_ofSong_27 : decode cX11_ofSong 27 = .ok (.ifCond .eq 12, 3) := dz_ifCond_eq (ys2 zE_cX11_ofSong 0 27 (by decide +kernel))
theorem dX11_ofSong_30 : decode cX11_ofSong 30 = .ok (.aload_n 0, 1) := dz_aload_n_0 (y0 zE_cX11_ofSong 0 30 (by decide +kernel))
theorem dX11_ofSong_31 : decode cX11_ofSong 31 = .ok (.iload_n 1, 1) := dz_iload_n_1 (y0 zE_cX11_ofSong 0 31 (by decide +kernel))
theorem dX11_ofSong_32 : decode cX11_ofSong 32 = .ok (.iload_n 2, 1) := dz_iload_n_2 (y0 zE_cX11_ofSong 0 32 (by decide +kernel))
theorem dX11_ofSong_33 : decode cX11_ofSong 33 = .ok (.invokevirtual 302, 3) := dz_invokevirtual (yu2 zE_cX11_ofSong 0 33 (by decide +kernel))
theorem dX11_ofSong_36 : decode cX11_ofSong 36 = .ok (.goto 8, 3) := dz_goto (ys2 zE_cX11_ofSong 0 36 (by decide +kernel))
theorem dX11_ofSong_39 : decode cX11_ofSong 39 = .ok (.aload_n 0, 1) := dz_aload_n_0 (y0 zE_cX11_ofSong 0 39 (by decide +kernel))
theorem dX11_ofSong_40 : decode cX11_ofSong 40 = .ok (.iconst 2, 1) := dz_iconst_2 (y0 zE_cX11_ofSong 0 40 (by decide +kernel))
theorem dX11_ofSong_41 : decode cX11_ofSong 41 = .ok (.invokevirtual 60, 3) := dz_invokevirtual (yu2 zE_cX11_ofSong 0 41 (by decide +kernel))
theorem dX11_ofSong_44 : decode cX11_ofSong 44 = .ok (.ireturn, 1) := dz_ireturn (y0 zE_cX11_ofSong 0 44 (by decide +kernel))
theorem gd_wsX11_ofBandNow : wsX11_ofBandNow.all goodWord = true := by decide +kernel
set_option maxRecDepth 20000 in
theorem ggX11_ofBandNow_Jx4a65c_get_915e3 : GoodIn wsX11_ofBandNow wsJx4a65c_get_915e3 := gi_q gd_wsX11_ofBandNow _ [(9, 13), (8, 1), (22, 2), (66, 3)] rfl
set_option maxRecDepth 20000 in
theorem gX11_ofBandNow_Jx4a65c_get_915e3 : GoodIn wsX11_ofBandNow (wsV RX11 90 RJx4a65c yJx4a65c_get_915e3 wsJx4a65c_get_915e3) := goodIn_app (gi_q gd_wsX11_ofBandNow _ [(5, 4)] rfl) ggX11_ofBandNow_Jx4a65c_get_915e3
set_option maxRecDepth 20000 in
theorem ggX11_ofBandNow_J6_intValue_8abf5 : GoodIn wsX11_ofBandNow wsJ6_intValue_8abf5 := gi_q gd_wsX11_ofBandNow _ [(28, 2), (69, 1)] rfl
set_option maxRecDepth 20000 in
theorem gX11_ofBandNow_J6_intValue_8abf5 : GoodIn wsX11_ofBandNow (wsV RX11 177 RJ6 yJ6_intValue_8abf5 wsJ6_intValue_8abf5) := goodIn_app (gi_q gd_wsX11_ofBandNow _ [(24, 4)] rfl) ggX11_ofBandNow_J6_intValue_8abf5
set_option maxRecDepth 20000 in
theorem ggX11_ofBandNow_X11_needed : GoodIn wsX11_ofBandNow wsX11_needed := gi_q gd_wsX11_ofBandNow _ [(33, 1)] rfl
set_option maxRecDepth 20000 in
theorem gX11_ofBandNow_X11_needed : GoodIn wsX11_ofBandNow (va_wsS RX11 113 yX11_needed wsX11_needed) := goodIn_app (gi_q gd_wsX11_ofBandNow _ [(30, 3)] rfl) ggX11_ofBandNow_X11_needed
set_option maxRecDepth 20000 in
theorem ggX11_ofBandNow_X11_needed_ : GoodIn wsX11_ofBandNow wsX11_needed_ := gi_q gd_wsX11_ofBandNow _ [(36, 1), (30, 4)] rfl
set_option maxRecDepth 20000 in
theorem gX11_ofBandNow_X11_needed_ : GoodIn wsX11_ofBandNow (va_wsS RX11 116 yX11_needed_ wsX11_needed_) := goodIn_app (gi_q gd_wsX11_ofBandNow _ [(34, 2), (32, 1)] rfl) ggX11_ofBandNow_X11_needed_
set_option maxRecDepth 20000 in
theorem ggX11_ofBandNow_Jx4a65c_size_8abf5 : GoodIn wsX11_ofBandNow wsJx4a65c_size_8abf5 := gi_q gd_wsX11_ofBandNow _ [(40, 1), (10, 1), (66, 3)] rfl
set_option maxRecDepth 20000 in
theorem gX11_ofBandNow_Jx4a65c_size_8abf5 : GoodIn wsX11_ofBandNow (wsV RX11 48 RJx4a65c yJx4a65c_size_8abf5 wsJx4a65c_size_8abf5) := goodIn_app (gi_q gd_wsX11_ofBandNow _ [(37, 3), (8, 1)] rfl) ggX11_ofBandNow_Jx4a65c_size_8abf5
def zT_cX11_ofBandNow : List (List Nat) := [[28, 16, 6, 162, 0, 22, 42, 180, 0, 16, 27, 182, 0, 90, 192, 0, 95, 182, 0, 177, 28, 184, 0, 113, 172, 28, 16, 6, 160, 0, 21, 42, 180, 0, 16, 27, 182, 0, 90, 192, 0, 95, 182, 0, 177, 184, 0, 116, 172, 3, 62, 3, 54, 4, 21, 4, 42, 180, 0, 19, 182, 0, 48, 162, 0, 61, 29, 42], [0, 61, 29, 42, 180, 0, 19, 21, 4, 182, 0, 90, 192, 0, 122, 180, 0, 127, 27, 160, 0, 32, 28, 16, 7, 159, 0, 22, 42, 180, 0, 19, 21, 4, 182, 0, 90, 192, 0, 122, 180, 0, 124, 5, 160, 0, 7, 4, 167, 0, 4, 3, 96, 62, 132, 4, 1, 167, 255, 189, 29, 172]]
theorem zE_cX11_ofBandNow : zTab cX11_ofBandNow.data.toList zT_cX11_ofBandNow = true := by decide +kernel
theorem dX11_ofBandNow_0 : decode cX11_ofBandNow 0 = .ok (.iload_n 2, 1) := dz_iload_n_2 (y0 zE_cX11_ofBandNow 0 0 (by decide +kernel))
theorem dX11_ofBandNow_1 : decode cX11_ofBandNow 1 = .ok (.bipush 6, 2) := dz_bipush (ys1 zE_cX11_ofBandNow 0 1 (by decide +kernel))
theorem dX11_ofBandNow_3 : decode cX11_ofBandNow 3 = .ok (.if_icmp .ge 22, 3) := dz_if_icmp_ge (ys2 zE_cX11_ofBandNow 0 3 (by decide +kernel))
theorem dX11_ofBandNow_6 : decode cX11_ofBandNow 6 = .ok (.aload_n 0, 1) := dz_aload_n_0 (y0 zE_cX11_ofBandNow 0 6 (by decide +kernel))
theorem dX11_ofBandNow_7 : decode cX11_ofBandNow 7 = .ok (.getfield 16, 3) := dz_getfield (yu2 zE_cX11_ofBandNow 0 7 (by decide +kernel))
theorem dX11_ofBandNow_10 : decode cX11_ofBandNow 10 = .ok (.iload_n 1, 1) := dz_iload_n_1 (y0 zE_cX11_ofBandNow 0 10 (by decide +kernel))
theorem dX11_ofBandNow_11 : decode cX11_ofBandNow 11 = .ok (.invokevirtual 90, 3) := dz_invokevirtual (yu2 zE_cX11_ofBandNow 0 11 (by decide +kernel))
theorem dX11_ofBandNow_14 : decode cX11_ofBandNow 14 = .ok (.checkcast 95, 3) := dz_checkcast (yu2 zE_cX11_ofBandNow 0 14 (by decide +kernel))
theorem dX11_ofBandNow_17 : decode cX11_ofBandNow 17 = .ok (.invokevirtual 177, 3) := dz_invokevirtual (yu2 zE_cX11_ofBandNow 0 17 (by decide +kernel))
theorem dX11_ofBandNow_20 : decode cX11_ofBandNow 20 = .ok (.iload_n 2, 1) := dz_iload_n_2 (y0 zE_cX11_ofBandNow 0 20 (by decide +kernel))
theorem dX11_ofBandNow_21 : decode cX11_ofBandNow 21 = .ok (.invokestatic 113, 3) := dz_invokestatic (yu2 zE_cX11_ofBandNow 0 21 (by decide +kernel))
theorem dX11_ofBandNow_24 : decode cX11_ofBandNow 24 = .ok (.ireturn, 1) := dz_ireturn (y0 zE_cX11_ofBandNow 0 24 (by decide +kernel))
theorem dX11_ofBandNow_25 : decode cX11_ofBandNow 25 = .ok (.iload_n 2, 1) := dz_iload_n_2 (y0 zE_cX11_ofBandNow 0 25 (by decide +kernel))
theorem dX11_ofBandNow_26 : decode cX11_ofBandNow 26 = .ok (.bipush 6, 2) := dz_bipush (ys1 zE_cX11_ofBandNow 0 26 (by decide +kernel))
theorem dX11_ofBandNow_28 : decode cX11_ofBandNow 28 = .ok (.if_icmp .ne 21, 3) := dz_if_icmp_ne (ys2 zE_cX11_ofBandNow 0 28 (by decide +kernel))
theorem dX11_ofBandNow_31 : decode cX11_ofBandNow 31 = .ok (.aload_n 0, 1) := dz_aload_n_0 (y0 zE_cX11_ofBandNow 0 31 (by decide +kernel))
theorem dX11_ofBandNow_32 : decode cX11_ofBandNow 32 = .ok (.getfield 16, 3) := dz_getfield (yu2 zE_cX11_ofBandNow 0 32 (by decide +kernel))
theorem dX11_ofBandNow_35 : decode cX11_ofBandNow 35 = .ok (.iload_n 1, 1) := dz_iload_n_1 (y0 zE_cX11_ofBandNow 0 35 (by decide +kernel))
theorem dX11_ofBandNow_36 : decode cX11_ofBandNow 36 = .ok (.invokevirtual 90, 3) := dz_invokevirtual (yu2 zE_cX11_ofBandNow 0 36 (by decide +kernel))
theorem dX11_ofBandNow_39 : decode cX11_ofBandNow 39 = .ok (.checkcast 95, 3) := dz_checkcast (yu2 zE_cX11_ofBandNow 0 39 (by decide +kernel))
theorem dX11_ofBandNow_42 : decode cX11_ofBandNow 42 = .ok (.invokevirtual 177, 3) := dz_invokevirtual (yu2 zE_cX11_ofBandNow 0 42 (by decide +kernel))
theorem dX11_ofBandNow_45 : decode cX11_ofBandNow 45 = .ok (.invokestatic 116, 3) := dz_invokestatic (yu2 zE_cX11_ofBandNow 0 45 (by decide +kernel))
theorem dX11_ofBandNow_48 : decode cX11_ofBandNow 48 = .ok (.ireturn, 1) := dz_ireturn (y0 zE_cX11_ofBandNow 0 48 (by decide +kernel))
theorem dX11_ofBandNow_49 : decode cX11_ofBandNow 49 = .ok (.iconst 0, 1) := dz_iconst_0 (y0 zE_cX11_ofBandNow 0 49 (by decide +kernel))
theorem dX11_ofBandNow_50 : decode cX11_ofBandNow 50 = .ok (.istore_n 3, 1) := dz_istore_n_3 (y0 zE_cX11_ofBandNow 0 50 (by decide +kernel))
theorem dX11_ofBandNow_51 : decode cX11_ofBandNow 51 = .ok (.iconst 0, 1) := dz_iconst_0 (y0 zE_cX11_ofBandNow 0 51 (by decide +kernel))
theorem dX11_ofBandNow_52 : decode cX11_ofBandNow 52 = .ok (.istore 4, 2) := dz_istore (yu1 zE_cX11_ofBandNow 0 52 (by decide +kernel))
theorem dX11_ofBandNow_54 : decode cX11_ofBandNow 54 = .ok (.iload 4, 2) := dz_iload (yu1 zE_cX11_ofBandNow 0 54 (by decide +kernel))
theorem dX11_ofBandNow_56 : decode cX11_ofBandNow 56 = .ok (.aload_n 0, 1) := dz_aload_n_0 (y0 zE_cX11_ofBandNow 0 56 (by decide +kernel))
theorem dX11_ofBandNow_57 : decode cX11_ofBandNow 57 = .ok (.getfield 19, 3) := dz_getfield (yu2 zE_cX11_ofBandNow 0 57 (by decide +kernel))
theorem dX11_ofBandNow_60 : decode cX11_ofBandNow 60 = .ok (.invokevirtual 48, 3) := dz_invokevirtual (yu2 zE_cX11_ofBandNow 0 60 (by decide +kernel))
theorem dX11_ofBandNow_63 : decode cX11_ofBandNow 63 = .ok (.if_icmp .ge 61, 3) := dz_if_icmp_ge (ys2 zE_cX11_ofBandNow 0 63 (by decide +kernel))
theorem dX11_ofBandNow_66 : decode cX11_ofBandNow 66 = .ok (.iload_n 3, 1) := dz_iload_n_3 (y0 zE_cX11_ofBandNow 1 2 (by decide +kernel))
theorem dX11_ofBandNow_67 : decode cX11_ofBandNow 67 = .ok (.aload_n 0, 1) := dz_aload_n_0 (y0 zE_cX11_ofBandNow 1 3 (by decide +kernel))
theorem dX11_ofBandNow_68 : decode cX11_ofBandNow 68 = .ok (.getfield 19, 3) := dz_getfield (yu2 zE_cX11_ofBandNow 1 4 (by decide +kernel))
theorem dX11_ofBandNow_71 : decode cX11_ofBandNow 71 = .ok (.iload 4, 2) := dz_iload (yu1 zE_cX11_ofBandNow 1 7 (by decide +kernel))
theorem dX11_ofBandNow_73 : decode cX11_ofBandNow 73 = .ok (.invokevirtual 90, 3) := dz_invokevirtual (yu2 zE_cX11_ofBandNow 1 9 (by decide +kernel))
theorem dX11_ofBandNow_76 : decode cX11_ofBandNow 76 = .ok (.checkcast 122, 3) := dz_checkcast (yu2 zE_cX11_ofBandNow 1 12 (by decide +kernel))
theorem dX11_ofBandNow_79 : decode cX11_ofBandNow 79 = .ok (.getfield 127, 3) := dz_getfield (yu2 zE_cX11_ofBandNow 1 15 (by decide +kernel))
theorem dX11_ofBandNow_82 : decode cX11_ofBandNow 82 = .ok (.iload_n 1, 1) := dz_iload_n_1 (y0 zE_cX11_ofBandNow 1 18 (by decide +kernel))
theorem dX11_ofBandNow_83 : decode cX11_ofBandNow 83 = .ok (.if_icmp .ne 32, 3) := dz_if_icmp_ne (ys2 zE_cX11_ofBandNow 1 19 (by decide +kernel))
theorem dX11_ofBandNow_86 : decode cX11_ofBandNow 86 = .ok (.iload_n 2, 1) := dz_iload_n_2 (y0 zE_cX11_ofBandNow 1 22 (by decide +kernel))
theorem dX11_ofBandNow_87 : decode cX11_ofBandNow 87 = .ok (.bipush 7, 2) := dz_bipush (ys1 zE_cX11_ofBandNow 1 23 (by decide +kernel))
theorem dX11_ofBandNow_89 : decode cX11_ofBandNow 89 = .ok (.if_icmp .eq 22, 3) := dz_if_icmp_eq (ys2 zE_cX11_ofBandNow 1 25 (by decide +kernel))
theorem dX11_ofBandNow_92 : decode cX11_ofBandNow 92 = .ok (.aload_n 0, 1) := dz_aload_n_0 (y0 zE_cX11_ofBandNow 1 28 (by decide +kernel))
theorem dX11_ofBandNow_93 : decode cX11_ofBandNow 93 = .ok (.getfield 19, 3) := dz_getfield (yu2 zE_cX11_ofBandNow 1 29 (by decide +kernel))
theorem dX11_ofBandNow_96 : decode cX11_ofBandNow 96 = .ok (.iload 4, 2) := dz_iload (yu1 zE_cX11_ofBandNow 1 32 (by decide +kernel))
theorem dX11_ofBandNow_98 : decode cX11_ofBandNow 98 = .ok (.invokevirtual 90, 3) := dz_invokevirtual (yu2 zE_cX11_ofBandNow 1 34 (by decide +kernel))
theorem dX11_ofBandNow_101 : decode cX11_ofBandNow 101 = .ok (.checkcast 122, 3) := dz_checkcast (yu2 zE_cX11_ofBandNow 1 37 (by decide +kernel))
theorem dX11_ofBandNow_104 : decode cX11_ofBandNow 104 = .ok (.getfield 124, 3) := dz_getfield (yu2 zE_cX11_ofBandNow 1 40 (by decide +kernel))
theorem dX11_ofBandNow_107 : decode cX11_ofBandNow 107 = .ok (.iconst 2, 1) := dz_iconst_2 (y0 zE_cX11_ofBandNow 1 43 (by decide +kernel))
theorem dX11_ofBandNow_108 : decode cX11_ofBandNow 108 = .ok (.if_icmp .ne 7, 3) := dz_if_icmp_ne (ys2 zE_cX11_ofBandNow 1 44 (by decide +kernel))
theorem dX11_ofBandNow_111 : decode cX11_ofBandNow 111 = .ok (.iconst 1, 1) := dz_iconst_1 (y0 zE_cX11_ofBandNow 1 47 (by decide +kernel))
theorem dX11_ofBandNow_112 : decode cX11_ofBandNow 112 = .ok (.goto 4, 3) := dz_goto (ys2 zE_cX11_ofBandNow 1 48 (by decide +kernel))
theorem dX11_ofBandNow_115 : decode cX11_ofBandNow 115 = .ok (.iconst 0, 1) := dz_iconst_0 (y0 zE_cX11_ofBandNow 1 51 (by decide +kernel))
theorem dX11_ofBandNow_116 : decode cX11_ofBandNow 116 = .ok (.iadd, 1) := dz_iadd (y0 zE_cX11_ofBandNow 1 52 (by decide +kernel))
theorem dX11_ofBandNow_117 : decode cX11_ofBandNow 117 = .ok (.istore_n 3, 1) := dz_istore_n_3 (y0 zE_cX11_ofBandNow 1 53 (by decide +kernel))
theorem dX11_ofBandNow_118 : decode cX11_ofBandNow 118 = .ok (.iinc 4 1, 3) := dz_iinc (yii zE_cX11_ofBandNow 1 54 (by decide +kernel))
theorem dX11_ofBandNow_121 : decode cX11_ofBandNow 121 = .ok (.goto (-67), 3) := dz_goto (ys2 zE_cX11_ofBandNow 1 57 (by decide +kernel))
theorem dX11_ofBandNow_124 : decode cX11_ofBandNow 124 = .ok (.iload_n 3, 1) := dz_iload_n_3 (y0 zE_cX11_ofBandNow 1 60 (by decide +kernel))
theorem dX11_ofBandNow_125 : decode cX11_ofBandNow 125 = .ok (.ireturn, 1) := dz_ireturn (y0 zE_cX11_ofBandNow 1 61 (by decide +kernel))
theorem gd_wsX11_ofBand : wsX11_ofBand.all goodWord = true := by decide +kernel
set_option maxRecDepth 20000 in
theorem ggX11_ofBand_X11_isBand : GoodIn wsX11_ofBand wsX11_isBand := gi_q gd_wsX11_ofBand _ [(6, 10), (5, 1), (16, 1), (57, 16)] rfl
set_option maxRecDepth 20000 in
theorem gX11_ofBand_X11_isBand : GoodIn wsX11_ofBand (wsV RX11 133 RX11 yX11_isBand wsX11_isBand) := goodIn_app (gi_q gd_wsX11_ofBand _ [(2, 4)] rfl) ggX11_ofBand_X11_isBand
set_option maxRecDepth 20000 in
theorem ggX11_ofBand_X11_refuse : GoodIn wsX11_ofBand wsX11_refuse := gi_q gd_wsX11_ofBand _ [(20, 1), (1, 1), (57, 13)] rfl
set_option maxRecDepth 20000 in
theorem gX11_ofBand_X11_refuse : GoodIn wsX11_ofBand (wsV RX11 60 RX11 yX11_refuse wsX11_refuse) := goodIn_app (gi_q gd_wsX11_ofBand _ [(17, 3), (5, 1)] rfl) ggX11_ofBand_X11_refuse
set_option maxRecDepth 20000 in
theorem ggX11_ofBand_X11_is : GoodIn wsX11_ofBand wsX11_is := gi_q gd_wsX11_ofBand _ [(16, 1)] rfl
set_option maxRecDepth 20000 in
theorem gX11_ofBand_X11_is : GoodIn wsX11_ofBand (va_wsS RX11 52 yX11_is wsX11_is) := goodIn_app (gi_q gd_wsX11_ofBand _ [(14, 2), (5, 1)] rfl) ggX11_ofBand_X11_is
set_option maxRecDepth 20000 in
theorem ggX11_ofBand_X11_ofBandNow : GoodIn wsX11_ofBand wsX11_ofBandNow := gi_q gd_wsX11_ofBand _ [(24, 1), (7, 1), (25, 6), (11, 1), (31, 1), (13, 1), (32, 21), (5, 1), (53, 4), (8, 3), (12, 1), (57, 13), (73, 12), (70, 3), (85, 1)] rfl
set_option maxRecDepth 20000 in
theorem gX11_ofBand_X11_ofBandNow : GoodIn wsX11_ofBand (wsV RX11 305 RX11 yX11_ofBandNow wsX11_ofBandNow) := goodIn_app (gi_q gd_wsX11_ofBand _ [(21, 3), (5, 1)] rfl) ggX11_ofBand_X11_ofBandNow
def zT_cX11_ofBand : List (List Nat) := [[42, 3, 181, 0, 44, 42, 27, 182, 0, 133, 154, 0, 9, 42, 4, 182, 0, 60, 172, 28, 3, 16, 8, 184, 0, 52, 153, 0, 12, 42, 27, 28, 182, 1, 49, 167, 0, 8, 42, 5, 182, 0, 60, 172]]
theorem zE_cX11_ofBand : zTab cX11_ofBand.data.toList zT_cX11_ofBand = true := by decide +kernel
theorem dX11_ofBand_0 : decode cX11_ofBand 0 = .ok (.aload_n 0, 1) := dz_aload_n_0 (y0 zE_cX11_ofBand 0 0 (by decide +kernel))
theorem dX11_ofBand_1 : decode cX11_ofBand 1 = .ok (.iconst 0, 1) := dz_iconst_0 (y0 zE_cX11_ofBand 0 1 (by decide +kernel))
theorem dX11_ofBand_2 : decode cX11_ofBand 2 = .ok (.putfield 44, 3) := dz_putfield (yu2 zE_cX11_ofBand 0 2 (by decide +kernel))
theorem dX11_ofBand_5 : decode cX11_ofBand 5 = .ok (.aload_n 0, 1) := dz_aload_n_0 (y0 zE_cX11_ofBand 0 5 (by decide +kernel))
theorem dX11_ofBand_6 : decode cX11_ofBand 6 = .ok (.iload_n 1, 1) := dz_iload_n_1 (y0 zE_cX11_ofBand 0 6 (by decide +kernel))
theorem dX11_ofBand_7 : decode cX11_ofBand 7 = .ok (.invokevirtual 133, 3) := dz_invokevirtual (yu2 zE_cX11_ofBand 0 7 (by decide +kernel))
theorem dX11_ofBand_10 : decode cX11_ofBand 10 = .ok (.ifCond .ne 9, 3) := dz_ifCond_ne (ys2 zE_cX11_ofBand 0 10 (by decide +kernel))
theorem dX11_ofBand_13 : decode cX11_ofBand 13 = .ok (.aload_n 0, 1) := dz_aload_n_0 (y0 zE_cX11_ofBand 0 13 (by decide +kernel))
theorem dX11_ofBand_14 : decode cX11_ofBand 14 = .ok (.iconst 1, 1) := dz_iconst_1 (y0 zE_cX11_ofBand 0 14 (by decide +kernel))
theorem dX11_ofBand_15 : decode cX11_ofBand 15 = .ok (.invokevirtual 60, 3) := dz_invokevirtual (yu2 zE_cX11_ofBand 0 15 (by decide +kernel))
theorem dX11_ofBand_18 : decode cX11_ofBand 18 = .ok (.ireturn, 1) := dz_ireturn (y0 zE_cX11_ofBand 0 18 (by decide +kernel))
theorem dX11_ofBand_19 : decode cX11_ofBand 19 = .ok (.iload_n 2, 1) := dz_iload_n_2 (y0 zE_cX11_ofBand 0 19 (by decide +kernel))
theorem dX11_ofBand_20 : decode cX11_ofBand 20 = .ok (.iconst 0, 1) := dz_iconst_0 (y0 zE_cX11_ofBand 0 20 (by decide +kernel))
theorem dX11_ofBand_21 : decode cX11_ofBand 21 = .ok (.bipush 8, 2) := dz_bipush (ys1 zE_cX11_ofBand 0 21 (by decide +kernel))
theorem dX11_ofBand_23 : decode cX11_ofBand 23 = .ok (.invokestatic 52, 3) := dz_invokestatic (yu2 zE_cX11_ofBand 0 23 (by decide +kernel))
theorem dX11_ofBand_26 : decode cX11_ofBand 26 = .ok (.ifCond .eq 12, 3) := dz_ifCond_eq (ys2 zE_cX11_ofBand 0 26 (by decide +kernel))
theorem dX11_ofBand_29 : decode cX11_ofBand 29 = .ok (.aload_n 0, 1) := dz_aload_n_0 (y0 zE_cX11_ofBand 0 29 (by decide +kernel))
theorem dX11_ofBand_30 : decode cX11_ofBand 30 = .ok (.iload_n 1, 1) := dz_iload_n_1 (y0 zE_cX11_ofBand 0 30 (by decide +kernel))
theorem dX11_ofBand_31 : decode cX11_ofBand 31 = .ok (.iload_n 2, 1) := dz_iload_n_2 (y0 zE_cX11_ofBand 0 31 (by decide +kernel))
theorem dX11_ofBand_32 : decode cX11_ofBand 32 = .ok (.invokevirtual 305, 3) := dz_invokevirtual (yu2 zE_cX11_ofBand 0 32 (by decide +kernel))
theorem dX11_ofBand_35 : decode cX11_ofBand 35 = .ok (.goto 8, 3) := dz_goto (ys2 zE_cX11_ofBand 0 35 (by decide +kernel))
theorem dX11_ofBand_38 : decode cX11_ofBand 38 = .ok (.aload_n 0, 1) := dz_aload_n_0 (y0 zE_cX11_ofBand 0 38 (by decide +kernel))
theorem dX11_ofBand_39 : decode cX11_ofBand 39 = .ok (.iconst 2, 1) := dz_iconst_2 (y0 zE_cX11_ofBand 0 39 (by decide +kernel))
theorem dX11_ofBand_40 : decode cX11_ofBand 40 = .ok (.invokevirtual 60, 3) := dz_invokevirtual (yu2 zE_cX11_ofBand 0 40 (by decide +kernel))
theorem dX11_ofBand_43 : decode cX11_ofBand 43 = .ok (.ireturn, 1) := dz_ireturn (y0 zE_cX11_ofBand 0 43 (by decide +kernel))
theorem gd_wsX11_ofWeddingNow : wsX11_ofWeddingNow.all goodWord = true := by decide +kernel
set_option maxRecDepth 20000 in
theorem ggX11_ofWeddingNow_Jx4a65c_get_915e3 : GoodIn wsX11_ofWeddingNow wsJx4a65c_get_915e3 := gi_q gd_wsX11_ofWeddingNow _ [(7, 13), (6, 1), (20, 2), (64, 3)] rfl
set_option maxRecDepth 20000 in
theorem gX11_ofWeddingNow_Jx4a65c_get_915e3 : GoodIn wsX11_ofWeddingNow (wsV RX11 90 RJx4a65c yJx4a65c_get_915e3 wsJx4a65c_get_915e3) := goodIn_app (gi_q gd_wsX11_ofWeddingNow _ [(3, 4)] rfl) ggX11_ofWeddingNow_Jx4a65c_get_915e3
set_option maxRecDepth 20000 in
theorem ggX11_ofWeddingNow_X11_place : GoodIn wsX11_ofWeddingNow wsX11_place := gi_q gd_wsX11_ofWeddingNow _ [(26, 1), (1, 21), (39, 28)] rfl
set_option maxRecDepth 20000 in
theorem gX11_ofWeddingNow_X11_place : GoodIn wsX11_ofWeddingNow (wsV RX11 219 RX11 yX11_place wsX11_place) := goodIn_app (gi_q gd_wsX11_ofWeddingNow _ [(22, 4)] rfl) ggX11_ofWeddingNow_X11_place
set_option maxRecDepth 20000 in
theorem ggX11_ofWeddingNow_X10_quarters : GoodIn wsX11_ofWeddingNow wsX10_quarters := gi_q gd_wsX11_ofWeddingNow _ [(31, 8), (52, 12)] rfl
set_option maxRecDepth 20000 in
theorem gX11_ofWeddingNow_X10_quarters : GoodIn wsX11_ofWeddingNow (wsV RX11 255 RX10 yX10_quarters wsX10_quarters) := goodIn_app (gi_q gd_wsX11_ofWeddingNow _ [(27, 4)] rfl) ggX11_ofWeddingNow_X10_quarters
def zT_cX11_ofWeddingNow : List (List Nat) := [[42, 180, 0, 19, 27, 182, 0, 90, 192, 0, 122, 78, 28, 170, 0, 0, 0, 0, 0, 124, 0, 0, 0, 0, 0, 0, 0, 11, 0, 0, 0, 63, 0, 0, 0, 68, 0, 0, 0, 73, 0, 0, 0, 78, 0, 0, 0, 83, 0, 0, 0, 88, 0, 0, 0, 93, 0, 0, 0, 98, 0, 0, 0, 103, 0, 0, 0, 108], [0, 0, 0, 108, 0, 0, 0, 113, 0, 0, 0, 118, 45, 180, 0, 127, 172, 45, 180, 0, 130, 172, 45, 180, 0, 143, 172, 45, 180, 0, 146, 172, 45, 180, 0, 149, 172, 45, 180, 0, 152, 172, 45, 180, 0, 124, 172, 45, 180, 0, 160, 172, 45, 180, 0, 207, 172, 45, 180, 0, 252, 172, 45, 180, 0, 210, 172, 42], [0, 210, 172, 42, 27, 182, 0, 219, 172, 45, 182, 0, 255, 172]]
theorem zE_cX11_ofWeddingNow : zTab cX11_ofWeddingNow.data.toList zT_cX11_ofWeddingNow = true := by decide +kernel
theorem dX11_ofWeddingNow_0 : decode cX11_ofWeddingNow 0 = .ok (.aload_n 0, 1) := dz_aload_n_0 (y0 zE_cX11_ofWeddingNow 0 0 (by decide +kernel))
theorem dX11_ofWeddingNow_1 : decode cX11_ofWeddingNow 1 = .ok (.getfield 19, 3) := dz_getfield (yu2 zE_cX11_ofWeddingNow 0 1 (by decide +kernel))
theorem dX11_ofWeddingNow_4 : decode cX11_ofWeddingNow 4 = .ok (.iload_n 1, 1) := dz_iload_n_1 (y0 zE_cX11_ofWeddingNow 0 4 (by decide +kernel))
theorem dX11_ofWeddingNow_5 : decode cX11_ofWeddingNow 5 = .ok (.invokevirtual 90, 3) := dz_invokevirtual (yu2 zE_cX11_ofWeddingNow 0 5 (by decide +kernel))
theorem dX11_ofWeddingNow_8 : decode cX11_ofWeddingNow 8 = .ok (.checkcast 122, 3) := dz_checkcast (yu2 zE_cX11_ofWeddingNow 0 8 (by decide +kernel))
theorem dX11_ofWeddingNow_11 : decode cX11_ofWeddingNow 11 = .ok (.astore_n 3, 1) := dz_astore_n_3 (y0 zE_cX11_ofWeddingNow 0 11 (by decide +kernel))
theorem dX11_ofWeddingNow_12 : decode cX11_ofWeddingNow 12 = .ok (.iload_n 2, 1) := dz_iload_n_2 (y0 zE_cX11_ofWeddingNow 0 12 (by decide +kernel))
theorem dX11_ofWeddingNow_13 : decode cX11_ofWeddingNow 13 = .ok (.tableswitch 124 0 11 #[63, 68, 73, 78, 83, 88, 93, 98, 103, 108, 113, 118], 63) := dkT (by decide +kernel)
theorem dX11_ofWeddingNow_76 : decode cX11_ofWeddingNow 76 = .ok (.aload_n 3, 1) := dz_aload_n_3 (y0 zE_cX11_ofWeddingNow 1 12 (by decide +kernel))
theorem dX11_ofWeddingNow_77 : decode cX11_ofWeddingNow 77 = .ok (.getfield 127, 3) := dz_getfield (yu2 zE_cX11_ofWeddingNow 1 13 (by decide +kernel))
theorem dX11_ofWeddingNow_80 : decode cX11_ofWeddingNow 80 = .ok (.ireturn, 1) := dz_ireturn (y0 zE_cX11_ofWeddingNow 1 16 (by decide +kernel))
theorem dX11_ofWeddingNow_81 : decode cX11_ofWeddingNow 81 = .ok (.aload_n 3, 1) := dz_aload_n_3 (y0 zE_cX11_ofWeddingNow 1 17 (by decide +kernel))
theorem dX11_ofWeddingNow_82 : decode cX11_ofWeddingNow 82 = .ok (.getfield 130, 3) := dz_getfield (yu2 zE_cX11_ofWeddingNow 1 18 (by decide +kernel))
theorem dX11_ofWeddingNow_85 : decode cX11_ofWeddingNow 85 = .ok (.ireturn, 1) := dz_ireturn (y0 zE_cX11_ofWeddingNow 1 21 (by decide +kernel))
theorem dX11_ofWeddingNow_86 : decode cX11_ofWeddingNow 86 = .ok (.aload_n 3, 1) := dz_aload_n_3 (y0 zE_cX11_ofWeddingNow 1 22 (by decide +kernel))
theorem dX11_ofWeddingNow_87 : decode cX11_ofWeddingNow 87 = .ok (.getfield 143, 3) := dz_getfield (yu2 zE_cX11_ofWeddingNow 1 23 (by decide +kernel))
theorem dX11_ofWeddingNow_90 : decode cX11_ofWeddingNow 90 = .ok (.ireturn, 1) := dz_ireturn (y0 zE_cX11_ofWeddingNow 1 26 (by decide +kernel))
theorem dX11_ofWeddingNow_91 : decode cX11_ofWeddingNow 91 = .ok (.aload_n 3, 1) := dz_aload_n_3 (y0 zE_cX11_ofWeddingNow 1 27 (by decide +kernel))
theorem dX11_ofWeddingNow_92 : decode cX11_ofWeddingNow 92 = .ok (.getfield 146, 3) := dz_getfield (yu2 zE_cX11_ofWeddingNow 1 28 (by decide +kernel))
theorem dX11_ofWeddingNow_95 : decode cX11_ofWeddingNow 95 = .ok (.ireturn, 1) := dz_ireturn (y0 zE_cX11_ofWeddingNow 1 31 (by decide +kernel))
theorem dX11_ofWeddingNow_96 : decode cX11_ofWeddingNow 96 = .ok (.aload_n 3, 1) := dz_aload_n_3 (y0 zE_cX11_ofWeddingNow 1 32 (by decide +kernel))
theorem dX11_ofWeddingNow_97 : decode cX11_ofWeddingNow 97 = .ok (.getfield 149, 3) := dz_getfield (yu2 zE_cX11_ofWeddingNow 1 33 (by decide +kernel))
theorem dX11_ofWeddingNow_100 : decode cX11_ofWeddingNow 100 = .ok (.ireturn, 1) := dz_ireturn (y0 zE_cX11_ofWeddingNow 1 36 (by decide +kernel))
theorem dX11_ofWeddingNow_101 : decode cX11_ofWeddingNow 101 = .ok (.aload_n 3, 1) := dz_aload_n_3 (y0 zE_cX11_ofWeddingNow 1 37 (by decide +kernel))
theorem dX11_ofWeddingNow_102 : decode cX11_ofWeddingNow 102 = .ok (.getfield 152, 3) := dz_getfield (yu2 zE_cX11_ofWeddingNow 1 38 (by decide +kernel))
theorem dX11_ofWeddingNow_105 : decode cX11_ofWeddingNow 105 = .ok (.ireturn, 1) := dz_ireturn (y0 zE_cX11_ofWeddingNow 1 41 (by decide +kernel))
theorem dX11_ofWeddingNow_106 : decode cX11_ofWeddingNow 106 = .ok (.aload_n 3, 1) := dz_aload_n_3 (y0 zE_cX11_ofWeddingNow 1 42 (by decide +kernel))
theorem dX11_ofWeddingNow_107 : decode cX11_ofWeddingNow 107 = .ok (.getfield 124, 3) := dz_getfield (yu2 zE_cX11_ofWeddingNow 1 43 (by decide +kernel))
theorem dX11_ofWeddingNow_110 : decode cX11_ofWeddingNow 110 = .ok (.ireturn, 1) := dz_ireturn (y0 zE_cX11_ofWeddingNow 1 46 (by decide +kernel))
theorem dX11_ofWeddingNow_111 : decode cX11_ofWeddingNow 111 = .ok (.aload_n 3, 1) := dz_aload_n_3 (y0 zE_cX11_ofWeddingNow 1 47 (by decide +kernel))
theorem dX11_ofWeddingNow_112 : decode cX11_ofWeddingNow 112 = .ok (.getfield 160, 3) := dz_getfield (yu2 zE_cX11_ofWeddingNow 1 48 (by decide +kernel))
theorem dX11_ofWeddingNow_115 : decode cX11_ofWeddingNow 115 = .ok (.ireturn, 1) := dz_ireturn (y0 zE_cX11_ofWeddingNow 1 51 (by decide +kernel))
theorem dX11_ofWeddingNow_116 : decode cX11_ofWeddingNow 116 = .ok (.aload_n 3, 1) := dz_aload_n_3 (y0 zE_cX11_ofWeddingNow 1 52 (by decide +kernel))
theorem dX11_ofWeddingNow_117 : decode cX11_ofWeddingNow 117 = .ok (.getfield 207, 3) := dz_getfield (yu2 zE_cX11_ofWeddingNow 1 53 (by decide +kernel))
theorem dX11_ofWeddingNow_120 : decode cX11_ofWeddingNow 120 = .ok (.ireturn, 1) := dz_ireturn (y0 zE_cX11_ofWeddingNow 1 56 (by decide +kernel))
theorem dX11_ofWeddingNow_121 : decode cX11_ofWeddingNow 121 = .ok (.aload_n 3, 1) := dz_aload_n_3 (y0 zE_cX11_ofWeddingNow 1 57 (by decide +kernel))
theorem dX11_ofWeddingNow_122 : decode cX11_ofWeddingNow 122 = .ok (.getfield 252, 3) := dz_getfield (yu2 zE_cX11_ofWeddingNow 1 58 (by decide +kernel))
theorem dX11_ofWeddingNow_125 : decode cX11_ofWeddingNow 125 = .ok (.ireturn, 1) := dz_ireturn (y0 zE_cX11_ofWeddingNow 1 61 (by decide +kernel))
theorem dX11_ofWeddingNow_126 : decode cX11_ofWeddingNow 126 = .ok (.aload_n 3, 1) := dz_aload_n_3 (y0 zE_cX11_ofWeddingNow 1 62 (by decide +kernel))
theorem dX11_ofWeddingNow_127 : decode cX11_ofWeddingNow 127 = .ok (.getfield 210, 3) := dz_getfield (yu2 zE_cX11_ofWeddingNow 1 63 (by decide +kernel))
theorem dX11_ofWeddingNow_130 : decode cX11_ofWeddingNow 130 = .ok (.ireturn, 1) := dz_ireturn (y0 zE_cX11_ofWeddingNow 2 2 (by decide +kernel))
theorem dX11_ofWeddingNow_131 : decode cX11_ofWeddingNow 131 = .ok (.aload_n 0, 1) := dz_aload_n_0 (y0 zE_cX11_ofWeddingNow 2 3 (by decide +kernel))
theorem dX11_ofWeddingNow_132 : decode cX11_ofWeddingNow 132 = .ok (.iload_n 1, 1) := dz_iload_n_1 (y0 zE_cX11_ofWeddingNow 2 4 (by decide +kernel))
theorem dX11_ofWeddingNow_133 : decode cX11_ofWeddingNow 133 = .ok (.invokevirtual 219, 3) := dz_invokevirtual (yu2 zE_cX11_ofWeddingNow 2 5 (by decide +kernel))
theorem dX11_ofWeddingNow_136 : decode cX11_ofWeddingNow 136 = .ok (.ireturn, 1) := dz_ireturn (y0 zE_cX11_ofWeddingNow 2 8 (by decide +kernel))
theorem dX11_ofWeddingNow_137 : decode cX11_ofWeddingNow 137 = .ok (.aload_n 3, 1) := dz_aload_n_3 (y0 zE_cX11_ofWeddingNow 2 9 (by decide +kernel))
theorem dX11_ofWeddingNow_138 : decode cX11_ofWeddingNow 138 = .ok (.invokevirtual 255, 3) := dz_invokevirtual (yu2 zE_cX11_ofWeddingNow 2 10 (by decide +kernel))
theorem dX11_ofWeddingNow_141 : decode cX11_ofWeddingNow 141 = .ok (.ireturn, 1) := dz_ireturn (y0 zE_cX11_ofWeddingNow 2 13 (by decide +kernel))
theorem gd_wsX11_ofWedding : wsX11_ofWedding.all goodWord = true := by decide +kernel
set_option maxRecDepth 20000 in
theorem ggX11_ofWedding_X11_isWedding : GoodIn wsX11_ofWedding wsX11_isWedding := gi_q gd_wsX11_ofWedding _ [(6, 10), (5, 1), (16, 1), (59, 16)] rfl
set_option maxRecDepth 20000 in
theorem gX11_ofWedding_X11_isWedding : GoodIn wsX11_ofWedding (wsV RX11 216 RX11 yX11_isWedding wsX11_isWedding) := goodIn_app (gi_q gd_wsX11_ofWedding _ [(2, 4)] rfl) ggX11_ofWedding_X11_isWedding
set_option maxRecDepth 20000 in
theorem ggX11_ofWedding_X11_refuse : GoodIn wsX11_ofWedding wsX11_refuse := gi_q gd_wsX11_ofWedding _ [(20, 1), (1, 1), (59, 13)] rfl
set_option maxRecDepth 20000 in
theorem gX11_ofWedding_X11_refuse : GoodIn wsX11_ofWedding (wsV RX11 60 RX11 yX11_refuse wsX11_refuse) := goodIn_app (gi_q gd_wsX11_ofWedding _ [(17, 3), (5, 1)] rfl) ggX11_ofWedding_X11_refuse
set_option maxRecDepth 20000 in
theorem ggX11_ofWedding_X11_is : GoodIn wsX11_ofWedding wsX11_is := gi_q gd_wsX11_ofWedding _ [(16, 1)] rfl
set_option maxRecDepth 20000 in
theorem gX11_ofWedding_X11_is : GoodIn wsX11_ofWedding (va_wsS RX11 52 yX11_is wsX11_is) := goodIn_app (gi_q gd_wsX11_ofWedding _ [(14, 2), (5, 1)] rfl) ggX11_ofWedding_X11_is
set_option maxRecDepth 20000 in
theorem ggX11_ofWedding_X11_ofWeddingNow : GoodIn wsX11_ofWedding wsX11_ofWeddingNow := gi_q gd_wsX11_ofWedding _ [(24, 1), (7, 1), (25, 4), (11, 1), (29, 1), (13, 1), (30, 16), (5, 1), (46, 26), (75, 12), (72, 3)] rfl
set_option maxRecDepth 20000 in
theorem gX11_ofWedding_X11_ofWeddingNow : GoodIn wsX11_ofWedding (wsV RX11 308 RX11 yX11_ofWeddingNow wsX11_ofWeddingNow) := goodIn_app (gi_q gd_wsX11_ofWedding _ [(21, 3), (5, 1)] rfl) ggX11_ofWedding_X11_ofWeddingNow
def zT_cX11_ofWedding : List (List Nat) := [[42, 3, 181, 0, 44, 42, 27, 182, 0, 216, 154, 0, 9, 42, 4, 182, 0, 60, 172, 28, 3, 16, 12, 184, 0, 52, 153, 0, 12, 42, 27, 28, 182, 1, 52, 167, 0, 8, 42, 5, 182, 0, 60, 172]]
theorem zE_cX11_ofWedding : zTab cX11_ofWedding.data.toList zT_cX11_ofWedding = true := by decide +kernel
theorem dX11_ofWedding_0 : decode cX11_ofWedding 0 = .ok (.aload_n 0, 1) := dz_aload_n_0 (y0 zE_cX11_ofWedding 0 0 (by decide +kernel))
theorem dX11_ofWedding_1 : decode cX11_ofWedding 1 = .ok (.iconst 0, 1) := dz_iconst_0 (y0 zE_cX11_ofWedding 0 1 (by decide +kernel))
theorem dX11_ofWedding_2 : decode cX11_ofWedding 2 = .ok (.putfield 44, 3) := dz_putfield (yu2 zE_cX11_ofWedding 0 2 (by decide +kernel))
theorem dX11_ofWedding_5 : decode cX11_ofWedding 5 = .ok (.aload_n 0, 1) := dz_aload_n_0 (y0 zE_cX11_ofWedding 0 5 (by decide +kernel))
theorem dX11_ofWedding_6 : decode cX11_ofWedding 6 = .ok (.iload_n 1, 1) := dz_iload_n_1 (y0 zE_cX11_ofWedding 0 6 (by decide +kernel))
theorem dX11_ofWedding_7 : decode cX11_ofWedding 7 = .ok (.invokevirtual 216, 3) := dz_invokevirtual (yu2 zE_cX11_ofWedding 0 7 (by decide +kernel))
theorem dX11_ofWedding_10 : decode cX11_ofWedding 10 = .ok (.ifCond .ne 9, 3) := dz_ifCond_ne (ys2 zE_cX11_ofWedding 0 10 (by decide +kernel))
theorem dX11_ofWedding_13 : decode cX11_ofWedding 13 = .ok (.aload_n 0, 1) := dz_aload_n_0 (y0 zE_cX11_ofWedding 0 13 (by decide +kernel))
theorem dX11_ofWedding_14 : decode cX11_ofWedding 14 = .ok (.iconst 1, 1) := dz_iconst_1 (y0 zE_cX11_ofWedding 0 14 (by decide +kernel))
theorem dX11_ofWedding_15 : decode cX11_ofWedding 15 = .ok (.invokevirtual 60, 3) := dz_invokevirtual (yu2 zE_cX11_ofWedding 0 15 (by decide +kernel))
theorem dX11_ofWedding_18 : decode cX11_ofWedding 18 = .ok (.ireturn, 1) := dz_ireturn (y0 zE_cX11_ofWedding 0 18 (by decide +kernel))
theorem dX11_ofWedding_19 : decode cX11_ofWedding 19 = .ok (.iload_n 2, 1) := dz_iload_n_2 (y0 zE_cX11_ofWedding 0 19 (by decide +kernel))
theorem dX11_ofWedding_20 : decode cX11_ofWedding 20 = .ok (.iconst 0, 1) := dz_iconst_0 (y0 zE_cX11_ofWedding 0 20 (by decide +kernel))
theorem dX11_ofWedding_21 : decode cX11_ofWedding 21 = .ok (.bipush 12, 2) := dz_bipush (ys1 zE_cX11_ofWedding 0 21 (by decide +kernel))
theorem dX11_ofWedding_23 : decode cX11_ofWedding 23 = .ok (.invokestatic 52, 3) := dz_invokestatic (yu2 zE_cX11_ofWedding 0 23 (by decide +kernel))
theorem dX11_ofWedding_26 : decode cX11_ofWedding 26 = .ok (.ifCond .eq 12, 3) := dz_ifCond_eq (ys2 zE_cX11_ofWedding 0 26 (by decide +kernel))
theorem dX11_ofWedding_29 : decode cX11_ofWedding 29 = .ok (.aload_n 0, 1) := dz_aload_n_0 (y0 zE_cX11_ofWedding 0 29 (by decide +kernel))
theorem dX11_ofWedding_30 : decode cX11_ofWedding 30 = .ok (.iload_n 1, 1) := dz_iload_n_1 (y0 zE_cX11_ofWedding 0 30 (by decide +kernel))
theorem dX11_ofWedding_31 : decode cX11_ofWedding 31 = .ok (.iload_n 2, 1) := dz_iload_n_2 (y0 zE_cX11_ofWedding 0 31 (by decide +kernel))
theorem dX11_ofWedding_32 : decode cX11_ofWedding 32 = .ok (.invokevirtual 308, 3) := dz_invokevirtual (yu2 zE_cX11_ofWedding 0 32 (by decide +kernel))
theorem dX11_ofWedding_35 : decode cX11_ofWedding 35 = .ok (.goto 8, 3) := dz_goto (ys2 zE_cX11_ofWedding 0 35 (by decide +kernel))
theorem dX11_ofWedding_38 : decode cX11_ofWedding 38 = .ok (.aload_n 0, 1) := dz_aload_n_0 (y0 zE_cX11_ofWedding 0 38 (by decide +kernel))
theorem dX11_ofWedding_39 : decode cX11_ofWedding 39 = .ok (.iconst 2, 1) := dz_iconst_2 (y0 zE_cX11_ofWedding 0 39 (by decide +kernel))
theorem dX11_ofWedding_40 : decode cX11_ofWedding 40 = .ok (.invokevirtual 60, 3) := dz_invokevirtual (yu2 zE_cX11_ofWedding 0 40 (by decide +kernel))
theorem dX11_ofWedding_43 : decode cX11_ofWedding 43 = .ok (.ireturn, 1) := dz_ireturn (y0 zE_cX11_ofWedding 0 43 (by decide +kernel))
theorem gd_wsX11_drive_ : wsX11_drive_.all goodWord = true := by decide +kernel
set_option maxRecDepth 20000 in
theorem ggX11_drive__X11_isTown : GoodIn wsX11_drive_ wsX11_isTown := gi_q gd_wsX11_drive_ _ [(5, 3), (4, 1), (8, 1)] rfl
set_option maxRecDepth 20000 in
theorem gX11_drive__X11_isTown : GoodIn wsX11_drive_ (va_wsS RX11 106 yX11_isTown wsX11_isTown) := goodIn_app (gi_q gd_wsX11_drive_ _ [(2, 3)] rfl) ggX11_drive__X11_isTown
set_option maxRecDepth 20000 in
theorem ggX11_drive__X11_driveOf : GoodIn wsX11_drive_ wsX11_driveOf := gi_q gd_wsX11_drive_ _ [(12, 2), (18, 13)] rfl
set_option maxRecDepth 20000 in
theorem gX11_drive__X11_driveOf : GoodIn wsX11_drive_ (wsV RX11 109 RX11 yX11_driveOf wsX11_driveOf) := goodIn_app (gi_q gd_wsX11_drive_ _ [(9, 3), (4, 1)] rfl) ggX11_drive__X11_driveOf
set_option maxRecDepth 20000 in
theorem ggX11_drive__X11_refuse : GoodIn wsX11_drive_ wsX11_refuse := gi_q gd_wsX11_drive_ _ [(17, 1), (1, 1), (18, 13)] rfl
set_option maxRecDepth 20000 in
theorem gX11_drive__X11_refuse : GoodIn wsX11_drive_ (wsV RX11 60 RX11 yX11_refuse wsX11_refuse) := goodIn_app (gi_q gd_wsX11_drive_ _ [(14, 3), (4, 1)] rfl) ggX11_drive__X11_refuse
def zT_cX11_drive_ : List (List Nat) := [[42, 3, 181, 0, 44, 27, 184, 0, 106, 153, 0, 19, 28, 184, 0, 106, 153, 0, 12, 42, 27, 28, 182, 0, 109, 167, 0, 8, 42, 4, 182, 0, 60, 172]]
theorem zE_cX11_drive_ : zTab cX11_drive_.data.toList zT_cX11_drive_ = true := by decide +kernel
theorem dX11_drive__0 : decode cX11_drive_ 0 = .ok (.aload_n 0, 1) := dz_aload_n_0 (y0 zE_cX11_drive_ 0 0 (by decide +kernel))
theorem dX11_drive__1 : decode cX11_drive_ 1 = .ok (.iconst 0, 1) := dz_iconst_0 (y0 zE_cX11_drive_ 0 1 (by decide +kernel))
theorem dX11_drive__2 : decode cX11_drive_ 2 = .ok (.putfield 44, 3) := dz_putfield (yu2 zE_cX11_drive_ 0 2 (by decide +kernel))
theorem dX11_drive__5 : decode cX11_drive_ 5 = .ok (.iload_n 1, 1) := dz_iload_n_1 (y0 zE_cX11_drive_ 0 5 (by decide +kernel))
theorem dX11_drive__6 : decode cX11_drive_ 6 = .ok (.invokestatic 106, 3) := dz_invokestatic (yu2 zE_cX11_drive_ 0 6 (by decide +kernel))
theorem dX11_drive__9 : decode cX11_drive_ 9 = .ok (.ifCond .eq 19, 3) := dz_ifCond_eq (ys2 zE_cX11_drive_ 0 9 (by decide +kernel))
theorem dX11_drive__12 : decode cX11_drive_ 12 = .ok (.iload_n 2, 1) := dz_iload_n_2 (y0 zE_cX11_drive_ 0 12 (by decide +kernel))
theorem dX11_drive__13 : decode cX11_drive_ 13 = .ok (.invokestatic 106, 3) := dz_invokestatic (yu2 zE_cX11_drive_ 0 13 (by decide +kernel))
theorem dX11_drive__16 : decode cX11_drive_ 16 = .ok (.ifCond .eq 12, 3) := dz_ifCond_eq (ys2 zE_cX11_drive_ 0 16 (by decide +kernel))
theorem dX11_drive__19 : decode cX11_drive_ 19 = .ok (.aload_n 0, 1) := dz_aload_n_0 (y0 zE_cX11_drive_ 0 19 (by decide +kernel))
theorem dX11_drive__20 : decode cX11_drive_ 20 = .ok (.iload_n 1, 1) := dz_iload_n_1 (y0 zE_cX11_drive_ 0 20 (by decide +kernel))
theorem dX11_drive__21 : decode cX11_drive_ 21 = .ok (.iload_n 2, 1) := dz_iload_n_2 (y0 zE_cX11_drive_ 0 21 (by decide +kernel))
theorem dX11_drive__22 : decode cX11_drive_ 22 = .ok (.invokevirtual 109, 3) := dz_invokevirtual (yu2 zE_cX11_drive_ 0 22 (by decide +kernel))
theorem dX11_drive__25 : decode cX11_drive_ 25 = .ok (.goto 8, 3) := dz_goto (ys2 zE_cX11_drive_ 0 25 (by decide +kernel))
theorem dX11_drive__28 : decode cX11_drive_ 28 = .ok (.aload_n 0, 1) := dz_aload_n_0 (y0 zE_cX11_drive_ 0 28 (by decide +kernel))
theorem dX11_drive__29 : decode cX11_drive_ 29 = .ok (.iconst 1, 1) := dz_iconst_1 (y0 zE_cX11_drive_ 0 29 (by decide +kernel))
theorem dX11_drive__30 : decode cX11_drive_ 30 = .ok (.invokevirtual 60, 3) := dz_invokevirtual (yu2 zE_cX11_drive_ 0 30 (by decide +kernel))
theorem dX11_drive__33 : decode cX11_drive_ 33 = .ok (.ireturn, 1) := dz_ireturn (y0 zE_cX11_drive_ 0 33 (by decide +kernel))
theorem gd_wsX11_free : wsX11_free.all goodWord = true := by decide +kernel
set_option maxRecDepth 20000 in
theorem ggX11_free_X11_isPlayer : GoodIn wsX11_free wsX11_isPlayer := gi_q gd_wsX11_free _ [(6, 10), (5, 1), (16, 1), (53, 16)] rfl
set_option maxRecDepth 20000 in
theorem gX11_free_X11_isPlayer : GoodIn wsX11_free (wsV RX11 87 RX11 yX11_isPlayer wsX11_isPlayer) := goodIn_app (gi_q gd_wsX11_free _ [(2, 4)] rfl) ggX11_free_X11_isPlayer
set_option maxRecDepth 20000 in
theorem ggX11_free_X11_isWedding : GoodIn wsX11_free wsX11_isWedding := gi_q gd_wsX11_free _ [(20, 2), (8, 8), (5, 1), (16, 1), (53, 16)] rfl
set_option maxRecDepth 20000 in
theorem gX11_free_X11_isWedding : GoodIn wsX11_free (wsV RX11 216 RX11 yX11_isWedding wsX11_isWedding) := goodIn_app (gi_q gd_wsX11_free _ [(17, 3), (5, 1)] rfl) ggX11_free_X11_isWedding
set_option maxRecDepth 20000 in
theorem ggX11_free_X11_isFree : GoodIn wsX11_free wsX11_isFree := gi_q gd_wsX11_free _ [(25, 1), (21, 1), (26, 1), (7, 1), (27, 4), (11, 1), (31, 1), (13, 1), (32, 16), (5, 1), (48, 2), (8, 3), (12, 1), (50, 16), (69, 19), (66, 3)] rfl
set_option maxRecDepth 20000 in
theorem gX11_free_X11_isFree : GoodIn wsX11_free (wsV RX11 163 RX11 yX11_isFree wsX11_isFree) := goodIn_app (gi_q gd_wsX11_free _ [(22, 3), (5, 1)] rfl) ggX11_free_X11_isFree
def zT_cX11_free : List (List Nat) := [[42, 42, 27, 182, 0, 87, 153, 0, 15, 42, 28, 182, 0, 216, 153, 0, 7, 3, 167, 0, 4, 4, 181, 0, 44, 42, 180, 0, 44, 154, 0, 16, 42, 27, 28, 182, 0, 163, 153, 0, 7, 4, 167, 0, 4, 3, 172]]
theorem zE_cX11_free : zTab cX11_free.data.toList zT_cX11_free = true := by decide +kernel
theorem dX11_free_0 : decode cX11_free 0 = .ok (.aload_n 0, 1) := dz_aload_n_0 (y0 zE_cX11_free 0 0 (by decide +kernel))
theorem dX11_free_1 : decode cX11_free 1 = .ok (.aload_n 0, 1) := dz_aload_n_0 (y0 zE_cX11_free 0 1 (by decide +kernel))
theorem dX11_free_2 : decode cX11_free 2 = .ok (.iload_n 1, 1) := dz_iload_n_1 (y0 zE_cX11_free 0 2 (by decide +kernel))
theorem dX11_free_3 : decode cX11_free 3 = .ok (.invokevirtual 87, 3) := dz_invokevirtual (yu2 zE_cX11_free 0 3 (by decide +kernel))
theorem dX11_free_6 : decode cX11_free 6 = .ok (.ifCond .eq 15, 3) := dz_ifCond_eq (ys2 zE_cX11_free 0 6 (by decide +kernel))
theorem dX11_free_9 : decode cX11_free 9 = .ok (.aload_n 0, 1) := dz_aload_n_0 (y0 zE_cX11_free 0 9 (by decide +kernel))
theorem dX11_free_10 : decode cX11_free 10 = .ok (.iload_n 2, 1) := dz_iload_n_2 (y0 zE_cX11_free 0 10 (by decide +kernel))
theorem dX11_free_11 : decode cX11_free 11 = .ok (.invokevirtual 216, 3) := dz_invokevirtual (yu2 zE_cX11_free 0 11 (by decide +kernel))
theorem dX11_free_14 : decode cX11_free 14 = .ok (.ifCond .eq 7, 3) := dz_ifCond_eq (ys2 zE_cX11_free 0 14 (by decide +kernel))
theorem dX11_free_17 : decode cX11_free 17 = .ok (.iconst 0, 1) := dz_iconst_0 (y0 zE_cX11_free 0 17 (by decide +kernel))
theorem dX11_free_18 : decode cX11_free 18 = .ok (.goto 4, 3) := dz_goto (ys2 zE_cX11_free 0 18 (by decide +kernel))
theorem dX11_free_21 : decode cX11_free 21 = .ok (.iconst 1, 1) := dz_iconst_1 (y0 zE_cX11_free 0 21 (by decide +kernel))
theorem dX11_free_22 : decode cX11_free 22 = .ok (.putfield 44, 3) := dz_putfield (yu2 zE_cX11_free 0 22 (by decide +kernel))
theorem dX11_free_25 : decode cX11_free 25 = .ok (.aload_n 0, 1) := dz_aload_n_0 (y0 zE_cX11_free 0 25 (by decide +kernel))
theorem dX11_free_26 : decode cX11_free 26 = .ok (.getfield 44, 3) := dz_getfield (yu2 zE_cX11_free 0 26 (by decide +kernel))
theorem dX11_free_29 : decode cX11_free 29 = .ok (.ifCond .ne 16, 3) := dz_ifCond_ne (ys2 zE_cX11_free 0 29 (by decide +kernel))
theorem dX11_free_32 : decode cX11_free 32 = .ok (.aload_n 0, 1) := dz_aload_n_0 (y0 zE_cX11_free 0 32 (by decide +kernel))
theorem dX11_free_33 : decode cX11_free 33 = .ok (.iload_n 1, 1) := dz_iload_n_1 (y0 zE_cX11_free 0 33 (by decide +kernel))
theorem dX11_free_34 : decode cX11_free 34 = .ok (.iload_n 2, 1) := dz_iload_n_2 (y0 zE_cX11_free 0 34 (by decide +kernel))
theorem dX11_free_35 : decode cX11_free 35 = .ok (.invokevirtual 163, 3) := dz_invokevirtual (yu2 zE_cX11_free 0 35 (by decide +kernel))
theorem dX11_free_38 : decode cX11_free 38 = .ok (.ifCond .eq 7, 3) := dz_ifCond_eq (ys2 zE_cX11_free 0 38 (by decide +kernel))
theorem dX11_free_41 : decode cX11_free 41 = .ok (.iconst 1, 1) := dz_iconst_1 (y0 zE_cX11_free 0 41 (by decide +kernel))
theorem dX11_free_42 : decode cX11_free 42 = .ok (.goto 4, 3) := dz_goto (ys2 zE_cX11_free 0 42 (by decide +kernel))
theorem dX11_free_45 : decode cX11_free 45 = .ok (.iconst 0, 1) := dz_iconst_0 (y0 zE_cX11_free 0 45 (by decide +kernel))
theorem dX11_free_46 : decode cX11_free 46 = .ok (.ireturn, 1) := dz_ireturn (y0 zE_cX11_free 0 46 (by decide +kernel))
theorem gd_wsX11_fillingNow : wsX11_fillingNow.all goodWord = true := by decide +kernel
set_option maxRecDepth 20000 in
theorem ggX11_fillingNow_X11_fillings : GoodIn wsX11_fillingNow wsX11_fillings := gi_q gd_wsX11_fillingNow _ [(7, 1), (1, 2), (8, 22), (6, 1), (30, 59), (109, 36)] rfl
set_option maxRecDepth 20000 in
theorem gX11_fillingNow_X11_fillings : GoodIn wsX11_fillingNow (wsV RX11 311 RX11 yX11_fillings wsX11_fillings) := goodIn_app (gi_q gd_wsX11_fillingNow _ [(3, 4)] rfl) ggX11_fillingNow_X11_fillings
set_option maxRecDepth 20000 in
theorem ggX11_fillingNow_X11_why : GoodIn wsX11_fillingNow wsX11_why := gi_q gd_wsX11_fillingNow _ [(92, 1), (1, 2), (53, 2), (8, 19), (55, 6), (27, 3), (6, 1), (30, 19), (61, 12), (93, 4), (49, 4), (73, 16), (97, 25), (132, 12), (122, 3), (144, 1), (125, 7)] rfl
set_option maxRecDepth 20000 in
theorem gX11_fillingNow_X11_why : GoodIn wsX11_fillingNow (wsV RX11 314 RX11 yX11_why wsX11_why) := goodIn_app (gi_q gd_wsX11_fillingNow _ [(89, 3), (6, 1)] rfl) ggX11_fillingNow_X11_why
set_option maxRecDepth 20000 in
theorem ggX11_fillingNow_X11_best : GoodIn wsX11_fillingNow wsX11_best := gi_q gd_wsX11_fillingNow _ [(96, 1), (1, 2), (8, 22), (6, 1), (30, 59), (97, 48)] rfl
set_option maxRecDepth 20000 in
theorem gX11_fillingNow_X11_best : GoodIn wsX11_fillingNow (wsV RX11 200 RX11 yX11_best wsX11_best) := goodIn_app (gi_q gd_wsX11_fillingNow _ [(93, 3), (6, 1)] rfl) ggX11_fillingNow_X11_best
set_option maxRecDepth 20000 in
theorem ggX11_fillingNow_Jx4a65c_get_915e3 : GoodIn wsX11_fillingNow wsJx4a65c_get_915e3 := gi_q gd_wsX11_fillingNow _ [(12, 13), (11, 1), (25, 2), (122, 3)] rfl
set_option maxRecDepth 20000 in
theorem gX11_fillingNow_Jx4a65c_get_915e3 : GoodIn wsX11_fillingNow (wsV RX11 90 RJx4a65c yJx4a65c_get_915e3 wsJx4a65c_get_915e3) := goodIn_app (gi_q gd_wsX11_fillingNow _ [(8, 4)] rfl) ggX11_fillingNow_Jx4a65c_get_915e3
set_option maxRecDepth 20000 in
theorem ggX11_fillingNow_X11_costOf : GoodIn wsX11_fillingNow wsX11_costOf := gi_q gd_wsX11_fillingNow _ [(104, 1), (31, 4), (11, 1), (35, 1), (13, 1), (46, 2), (6, 1), (48, 1), (105, 4), (40, 1), (8, 3), (12, 1), (14, 13), (41, 5), (109, 35)] rfl
set_option maxRecDepth 20000 in
theorem gX11_fillingNow_X11_costOf : GoodIn wsX11_fillingNow (wsV RX11 197 RX11 yX11_costOf wsX11_costOf) := goodIn_app (gi_q gd_wsX11_fillingNow _ [(101, 3), (6, 1)] rfl) ggX11_fillingNow_X11_costOf
def zT_cX11_fillingNow : List (List Nat) := [[28, 5, 160, 0, 9, 42, 27, 182, 1, 55, 172, 28, 6, 160, 0, 9, 42, 27, 182, 1, 58, 172, 42, 27, 3, 3, 182, 0, 200, 62, 28, 153, 0, 8, 29, 2, 160, 0, 7, 29, 167, 0, 19, 42, 29, 42, 180, 0, 19, 27, 182, 0, 90, 192, 0, 122, 182, 0, 197, 172]]
theorem zE_cX11_fillingNow : zTab cX11_fillingNow.data.toList zT_cX11_fillingNow = true := by decide +kernel
theorem dX11_fillingNow_0 : decode cX11_fillingNow 0 = .ok (.iload_n 2, 1) := dz_iload_n_2 (y0 zE_cX11_fillingNow 0 0 (by decide +kernel))
theorem dX11_fillingNow_1 : decode cX11_fillingNow 1 = .ok (.iconst 2, 1) := dz_iconst_2 (y0 zE_cX11_fillingNow 0 1 (by decide +kernel))
theorem dX11_fillingNow_2 : decode cX11_fillingNow 2 = .ok (.if_icmp .ne 9, 3) := dz_if_icmp_ne (ys2 zE_cX11_fillingNow 0 2 (by decide +kernel))
theorem dX11_fillingNow_5 : decode cX11_fillingNow 5 = .ok (.aload_n 0, 1) := dz_aload_n_0 (y0 zE_cX11_fillingNow 0 5 (by decide +kernel))
theorem dX11_fillingNow_6 : decode cX11_fillingNow 6 = .ok (.iload_n 1, 1) := dz_iload_n_1 (y0 zE_cX11_fillingNow 0 6 (by decide +kernel))
theorem dX11_fillingNow_7 : decode cX11_fillingNow 7 = .ok (.invokevirtual 311, 3) := dz_invokevirtual (yu2 zE_cX11_fillingNow 0 7 (by decide +kernel))
theorem dX11_fillingNow_10 : decode cX11_fillingNow 10 = .ok (.ireturn, 1) := dz_ireturn (y0 zE_cX11_fillingNow 0 10 (by decide +kernel))
theorem dX11_fillingNow_11 : decode cX11_fillingNow 11 = .ok (.iload_n 2, 1) := dz_iload_n_2 (y0 zE_cX11_fillingNow 0 11 (by decide +kernel))
theorem dX11_fillingNow_12 : decode cX11_fillingNow 12 = .ok (.iconst 3, 1) := dz_iconst_3 (y0 zE_cX11_fillingNow 0 12 (by decide +kernel))
theorem dX11_fillingNow_13 : decode cX11_fillingNow 13 = .ok (.if_icmp .ne 9, 3) := dz_if_icmp_ne (ys2 zE_cX11_fillingNow 0 13 (by decide +kernel))
theorem dX11_fillingNow_16 : decode cX11_fillingNow 16 = .ok (.aload_n 0, 1) := dz_aload_n_0 (y0 zE_cX11_fillingNow 0 16 (by decide +kernel))
theorem dX11_fillingNow_17 : decode cX11_fillingNow 17 = .ok (.iload_n 1, 1) := dz_iload_n_1 (y0 zE_cX11_fillingNow 0 17 (by decide +kernel))
theorem dX11_fillingNow_18 : decode cX11_fillingNow 18 = .ok (.invokevirtual 314, 3) := dz_invokevirtual (yu2 zE_cX11_fillingNow 0 18 (by decide +kernel))
theorem dX11_fillingNow_21 : decode cX11_fillingNow 21 = .ok (.ireturn, 1) := dz_ireturn (y0 zE_cX11_fillingNow 0 21 (by decide +kernel))
theorem dX11_fillingNow_22 : decode cX11_fillingNow 22 = .ok (.aload_n 0, 1) := dz_aload_n_0 (y0 zE_cX11_fillingNow 0 22 (by decide +kernel))
theorem dX11_fillingNow_23 : decode cX11_fillingNow 23 = .ok (.iload_n 1, 1) := dz_iload_n_1 (y0 zE_cX11_fillingNow 0 23 (by decide +kernel))
theorem dX11_fillingNow_24 : decode cX11_fillingNow 24 = .ok (.iconst 0, 1) := dz_iconst_0 (y0 zE_cX11_fillingNow 0 24 (by decide +kernel))
theorem dX11_fillingNow_25 : decode cX11_fillingNow 25 = .ok (.iconst 0, 1) := dz_iconst_0 (y0 zE_cX11_fillingNow 0 25 (by decide +kernel))
theorem dX11_fillingNow_26 : decode cX11_fillingNow 26 = .ok (.invokevirtual 200, 3) := dz_invokevirtual (yu2 zE_cX11_fillingNow 0 26 (by decide +kernel))
theorem dX11_fillingNow_29 : decode cX11_fillingNow 29 = .ok (.istore_n 3, 1) := dz_istore_n_3 (y0 zE_cX11_fillingNow 0 29 (by decide +kernel))
theorem dX11_fillingNow_30 : decode cX11_fillingNow 30 = .ok (.iload_n 2, 1) := dz_iload_n_2 (y0 zE_cX11_fillingNow 0 30 (by decide +kernel))
theorem dX11_fillingNow_31 : decode cX11_fillingNow 31 = .ok (.ifCond .eq 8, 3) := dz_ifCond_eq (ys2 zE_cX11_fillingNow 0 31 (by decide +kernel))
theorem dX11_fillingNow_34 : decode cX11_fillingNow 34 = .ok (.iload_n 3, 1) := dz_iload_n_3 (y0 zE_cX11_fillingNow 0 34 (by decide +kernel))
theorem dX11_fillingNow_35 : decode cX11_fillingNow 35 = .ok (.iconst (-1), 1) := dz_iconst_m1 (y0 zE_cX11_fillingNow 0 35 (by decide +kernel))
theorem dX11_fillingNow_36 : decode cX11_fillingNow 36 = .ok (.if_icmp .ne 7, 3) := dz_if_icmp_ne (ys2 zE_cX11_fillingNow 0 36 (by decide +kernel))
theorem dX11_fillingNow_39 : decode cX11_fillingNow 39 = .ok (.iload_n 3, 1) := dz_iload_n_3 (y0 zE_cX11_fillingNow 0 39 (by decide +kernel))
theorem dX11_fillingNow_40 : decode cX11_fillingNow 40 = .ok (.goto 19, 3) := dz_goto (ys2 zE_cX11_fillingNow 0 40 (by decide +kernel))
theorem dX11_fillingNow_43 : decode cX11_fillingNow 43 = .ok (.aload_n 0, 1) := dz_aload_n_0 (y0 zE_cX11_fillingNow 0 43 (by decide +kernel))
theorem dX11_fillingNow_44 : decode cX11_fillingNow 44 = .ok (.iload_n 3, 1) := dz_iload_n_3 (y0 zE_cX11_fillingNow 0 44 (by decide +kernel))
theorem dX11_fillingNow_45 : decode cX11_fillingNow 45 = .ok (.aload_n 0, 1) := dz_aload_n_0 (y0 zE_cX11_fillingNow 0 45 (by decide +kernel))
theorem dX11_fillingNow_46 : decode cX11_fillingNow 46 = .ok (.getfield 19, 3) := dz_getfield (yu2 zE_cX11_fillingNow 0 46 (by decide +kernel))
theorem dX11_fillingNow_49 : decode cX11_fillingNow 49 = .ok (.iload_n 1, 1) := dz_iload_n_1 (y0 zE_cX11_fillingNow 0 49 (by decide +kernel))
theorem dX11_fillingNow_50 : decode cX11_fillingNow 50 = .ok (.invokevirtual 90, 3) := dz_invokevirtual (yu2 zE_cX11_fillingNow 0 50 (by decide +kernel))
theorem dX11_fillingNow_53 : decode cX11_fillingNow 53 = .ok (.checkcast 122, 3) := dz_checkcast (yu2 zE_cX11_fillingNow 0 53 (by decide +kernel))
theorem dX11_fillingNow_56 : decode cX11_fillingNow 56 = .ok (.invokevirtual 197, 3) := dz_invokevirtual (yu2 zE_cX11_fillingNow 0 56 (by decide +kernel))
theorem dX11_fillingNow_59 : decode cX11_fillingNow 59 = .ok (.ireturn, 1) := dz_ireturn (y0 zE_cX11_fillingNow 0 59 (by decide +kernel))
theorem gd_wsX11_filling : wsX11_filling.all goodWord = true := by decide +kernel
set_option maxRecDepth 20000 in
theorem ggX11_filling_X11_isWedding : GoodIn wsX11_filling wsX11_isWedding := gi_q gd_wsX11_filling _ [(6, 10), (5, 1), (16, 1), (125, 16)] rfl
set_option maxRecDepth 20000 in
theorem gX11_filling_X11_isWedding : GoodIn wsX11_filling (wsV RX11 216 RX11 yX11_isWedding wsX11_isWedding) := goodIn_app (gi_q gd_wsX11_filling _ [(2, 4)] rfl) ggX11_filling_X11_isWedding
set_option maxRecDepth 20000 in
theorem ggX11_filling_X11_refuse : GoodIn wsX11_filling wsX11_refuse := gi_q gd_wsX11_filling _ [(20, 1), (1, 1), (125, 13)] rfl
set_option maxRecDepth 20000 in
theorem gX11_filling_X11_refuse : GoodIn wsX11_filling (wsV RX11 60 RX11 yX11_refuse wsX11_refuse) := goodIn_app (gi_q gd_wsX11_filling _ [(17, 3), (5, 1)] rfl) ggX11_filling_X11_refuse
set_option maxRecDepth 20000 in
theorem ggX11_filling_X11_is : GoodIn wsX11_filling wsX11_is := gi_q gd_wsX11_filling _ [(16, 1)] rfl
set_option maxRecDepth 20000 in
theorem gX11_filling_X11_is : GoodIn wsX11_filling (va_wsS RX11 52 yX11_is wsX11_is) := goodIn_app (gi_q gd_wsX11_filling _ [(14, 2), (5, 1)] rfl) ggX11_filling_X11_is
set_option maxRecDepth 20000 in
theorem ggX11_filling_X11_fillingNow : GoodIn wsX11_filling wsX11_fillingNow := gi_q gd_wsX11_filling _ [(24, 1), (7, 1), (25, 4), (5, 1), (29, 4), (11, 1), (33, 1), (13, 1), (34, 18), (8, 3), (12, 1), (52, 109)] rfl
set_option maxRecDepth 20000 in
theorem gX11_filling_X11_fillingNow : GoodIn wsX11_filling (wsV RX11 317 RX11 yX11_fillingNow wsX11_fillingNow) := goodIn_app (gi_q gd_wsX11_filling _ [(21, 3), (5, 1)] rfl) ggX11_filling_X11_fillingNow
def zT_cX11_filling : List (List Nat) := [[42, 3, 181, 0, 44, 42, 27, 182, 0, 216, 154, 0, 9, 42, 4, 182, 0, 60, 172, 28, 3, 6, 184, 0, 52, 153, 0, 12, 42, 27, 28, 182, 1, 61, 167, 0, 8, 42, 5, 182, 0, 60, 172]]
theorem zE_cX11_filling : zTab cX11_filling.data.toList zT_cX11_filling = true := by decide +kernel
theorem dX11_filling_0 : decode cX11_filling 0 = .ok (.aload_n 0, 1) := dz_aload_n_0 (y0 zE_cX11_filling 0 0 (by decide +kernel))
theorem dX11_filling_1 : decode cX11_filling 1 = .ok (.iconst 0, 1) := dz_iconst_0 (y0 zE_cX11_filling 0 1 (by decide +kernel))
theorem dX11_filling_2 : decode cX11_filling 2 = .ok (.putfield 44, 3) := dz_putfield (yu2 zE_cX11_filling 0 2 (by decide +kernel))
theorem dX11_filling_5 : decode cX11_filling 5 = .ok (.aload_n 0, 1) := dz_aload_n_0 (y0 zE_cX11_filling 0 5 (by decide +kernel))
theorem dX11_filling_6 : decode cX11_filling 6 = .ok (.iload_n 1, 1) := dz_iload_n_1 (y0 zE_cX11_filling 0 6 (by decide +kernel))
theorem dX11_filling_7 : decode cX11_filling 7 = .ok (.invokevirtual 216, 3) := dz_invokevirtual (yu2 zE_cX11_filling 0 7 (by decide +kernel))
theorem dX11_filling_10 : decode cX11_filling 10 = .ok (.ifCond .ne 9, 3) := dz_ifCond_ne (ys2 zE_cX11_filling 0 10 (by decide +kernel))
theorem dX11_filling_13 : decode cX11_filling 13 = .ok (.aload_n 0, 1) := dz_aload_n_0 (y0 zE_cX11_filling 0 13 (by decide +kernel))
theorem dX11_filling_14 : decode cX11_filling 14 = .ok (.iconst 1, 1) := dz_iconst_1 (y0 zE_cX11_filling 0 14 (by decide +kernel))
theorem dX11_filling_15 : decode cX11_filling 15 = .ok (.invokevirtual 60, 3) := dz_invokevirtual (yu2 zE_cX11_filling 0 15 (by decide +kernel))
theorem dX11_filling_18 : decode cX11_filling 18 = .ok (.ireturn, 1) := dz_ireturn (y0 zE_cX11_filling 0 18 (by decide +kernel))
theorem dX11_filling_19 : decode cX11_filling 19 = .ok (.iload_n 2, 1) := dz_iload_n_2 (y0 zE_cX11_filling 0 19 (by decide +kernel))
theorem dX11_filling_20 : decode cX11_filling 20 = .ok (.iconst 0, 1) := dz_iconst_0 (y0 zE_cX11_filling 0 20 (by decide +kernel))
theorem dX11_filling_21 : decode cX11_filling 21 = .ok (.iconst 3, 1) := dz_iconst_3 (y0 zE_cX11_filling 0 21 (by decide +kernel))
theorem dX11_filling_22 : decode cX11_filling 22 = .ok (.invokestatic 52, 3) := dz_invokestatic (yu2 zE_cX11_filling 0 22 (by decide +kernel))
theorem dX11_filling_25 : decode cX11_filling 25 = .ok (.ifCond .eq 12, 3) := dz_ifCond_eq (ys2 zE_cX11_filling 0 25 (by decide +kernel))
theorem dX11_filling_28 : decode cX11_filling 28 = .ok (.aload_n 0, 1) := dz_aload_n_0 (y0 zE_cX11_filling 0 28 (by decide +kernel))
theorem dX11_filling_29 : decode cX11_filling 29 = .ok (.iload_n 1, 1) := dz_iload_n_1 (y0 zE_cX11_filling 0 29 (by decide +kernel))
theorem dX11_filling_30 : decode cX11_filling 30 = .ok (.iload_n 2, 1) := dz_iload_n_2 (y0 zE_cX11_filling 0 30 (by decide +kernel))
theorem dX11_filling_31 : decode cX11_filling 31 = .ok (.invokevirtual 317, 3) := dz_invokevirtual (yu2 zE_cX11_filling 0 31 (by decide +kernel))
theorem dX11_filling_34 : decode cX11_filling 34 = .ok (.goto 8, 3) := dz_goto (ys2 zE_cX11_filling 0 34 (by decide +kernel))
theorem dX11_filling_37 : decode cX11_filling 37 = .ok (.aload_n 0, 1) := dz_aload_n_0 (y0 zE_cX11_filling 0 37 (by decide +kernel))
theorem dX11_filling_38 : decode cX11_filling 38 = .ok (.iconst 2, 1) := dz_iconst_2 (y0 zE_cX11_filling 0 38 (by decide +kernel))
theorem dX11_filling_39 : decode cX11_filling 39 = .ok (.invokevirtual 60, 3) := dz_invokevirtual (yu2 zE_cX11_filling 0 39 (by decide +kernel))
theorem dX11_filling_42 : decode cX11_filling 42 = .ok (.ireturn, 1) := dz_ireturn (y0 zE_cX11_filling 0 42 (by decide +kernel))
theorem gd_wsX11_set : wsX11_set.all goodWord = true := by decide +kernel
set_option maxRecDepth 20000 in
theorem ggX11_set_Jx4a65c_size_8abf5 : GoodIn wsX11_set wsJx4a65c_size_8abf5 := gi_q gd_wsX11_set _ [(7, 2), (90, 3)] rfl
set_option maxRecDepth 20000 in
theorem gX11_set_Jx4a65c_size_8abf5 : GoodIn wsX11_set (wsV RX11 48 RJx4a65c yJx4a65c_size_8abf5 wsJx4a65c_size_8abf5) := goodIn_app (gi_q gd_wsX11_set _ [(3, 4)] rfl) ggX11_set_Jx4a65c_size_8abf5
set_option maxRecDepth 20000 in
theorem ggX11_set_X11_refuse : GoodIn wsX11_set wsX11_refuse := gi_q gd_wsX11_set _ [(13, 1), (1, 1), (77, 13)] rfl
set_option maxRecDepth 20000 in
theorem gX11_set_X11_refuse : GoodIn wsX11_set (wsV RX11 60 RX11 yX11_refuse wsX11_refuse) := goodIn_app (gi_q gd_wsX11_set _ [(9, 4)] rfl) ggX11_set_X11_refuse
set_option maxRecDepth 20000 in
theorem ggX11_set_X11_minutesOf : GoodIn wsX11_set wsX11_minutesOf := gi_q gd_wsX11_set _ [(17, 5), (12, 1), (22, 16), (2, 1), (38, 1), (3, 6), (39, 51), (93, 7), (90, 3)] rfl
set_option maxRecDepth 20000 in
theorem gX11_set_X11_minutesOf : GoodIn wsX11_set (wsV RX11 320 RX11 yX11_minutesOf wsX11_minutesOf) := goodIn_app (gi_q gd_wsX11_set _ [(14, 3), (12, 1)] rfl) ggX11_set_X11_minutesOf
set_option maxRecDepth 20000 in
theorem ggX11_set_X11_bestSet : GoodIn wsX11_set wsX11_bestSet := gi_q gd_wsX11_set _ [(22, 4), (18, 1), (26, 11), (12, 1), (37, 1), (2, 1), (38, 1), (3, 6), (39, 51), (93, 7), (90, 3)] rfl
set_option maxRecDepth 20000 in
theorem gX11_set_X11_bestSet : GoodIn wsX11_set (wsV RX11 270 RX11 yX11_bestSet wsX11_bestSet) := goodIn_app (gi_q gd_wsX11_set _ [(19, 3), (12, 1)] rfl) ggX11_set_X11_bestSet
def zT_cX11_set : List (List Nat) := [[42, 3, 181, 0, 44, 27, 155, 0, 16, 27, 4, 42, 180, 0, 10, 182, 0, 48, 120, 161, 0, 9, 42, 4, 182, 0, 60, 172, 28, 153, 0, 11, 42, 27, 182, 1, 64, 167, 0, 9, 42, 27, 182, 1, 14, 190, 172]]
theorem zE_cX11_set : zTab cX11_set.data.toList zT_cX11_set = true := by decide +kernel
theorem dX11_set_0 : decode cX11_set 0 = .ok (.aload_n 0, 1) := dz_aload_n_0 (y0 zE_cX11_set 0 0 (by decide +kernel))
theorem dX11_set_1 : decode cX11_set 1 = .ok (.iconst 0, 1) := dz_iconst_0 (y0 zE_cX11_set 0 1 (by decide +kernel))
theorem dX11_set_2 : decode cX11_set 2 = .ok (.putfield 44, 3) := dz_putfield (yu2 zE_cX11_set 0 2 (by decide +kernel))
theorem dX11_set_5 : decode cX11_set 5 = .ok (.iload_n 1, 1) := dz_iload_n_1 (y0 zE_cX11_set 0 5 (by decide +kernel))
theorem dX11_set_6 : decode cX11_set 6 = .ok (.ifCond .lt 16, 3) := dz_ifCond_lt (ys2 zE_cX11_set 0 6 (by decide +kernel))
theorem dX11_set_9 : decode cX11_set 9 = .ok (.iload_n 1, 1) := dz_iload_n_1 (y0 zE_cX11_set 0 9 (by decide +kernel))
theorem dX11_set_10 : decode cX11_set 10 = .ok (.iconst 1, 1) := dz_iconst_1 (y0 zE_cX11_set 0 10 (by decide +kernel))
theorem dX11_set_11 : decode cX11_set 11 = .ok (.aload_n 0, 1) := dz_aload_n_0 (y0 zE_cX11_set 0 11 (by decide +kernel))
theorem dX11_set_12 : decode cX11_set 12 = .ok (.getfield 10, 3) := dz_getfield (yu2 zE_cX11_set 0 12 (by decide +kernel))
theorem dX11_set_15 : decode cX11_set 15 = .ok (.invokevirtual 48, 3) := dz_invokevirtual (yu2 zE_cX11_set 0 15 (by decide +kernel))
theorem dX11_set_18 : decode cX11_set 18 = .ok (.ishl, 1) := dz_ishl (y0 zE_cX11_set 0 18 (by decide +kernel))
theorem dX11_set_19 : decode cX11_set 19 = .ok (.if_icmp .lt 9, 3) := dz_if_icmp_lt (ys2 zE_cX11_set 0 19 (by decide +kernel))
theorem dX11_set_22 : decode cX11_set 22 = .ok (.aload_n 0, 1) := dz_aload_n_0 (y0 zE_cX11_set 0 22 (by decide +kernel))
theorem dX11_set_23 : decode cX11_set 23 = .ok (.iconst 1, 1) := dz_iconst_1 (y0 zE_cX11_set 0 23 (by decide +kernel))
theorem dX11_set_24 : decode cX11_set 24 = .ok (.invokevirtual 60, 3) := dz_invokevirtual (yu2 zE_cX11_set 0 24 (by decide +kernel))
theorem dX11_set_27 : decode cX11_set 27 = .ok (.ireturn, 1) := dz_ireturn (y0 zE_cX11_set 0 27 (by decide +kernel))
theorem dX11_set_28 : decode cX11_set 28 = .ok (.iload_n 2, 1) := dz_iload_n_2 (y0 zE_cX11_set 0 28 (by decide +kernel))
theorem dX11_set_29 : decode cX11_set 29 = .ok (.ifCond .eq 11, 3) := dz_ifCond_eq (ys2 zE_cX11_set 0 29 (by decide +kernel))
theorem dX11_set_32 : decode cX11_set 32 = .ok (.aload_n 0, 1) := dz_aload_n_0 (y0 zE_cX11_set 0 32 (by decide +kernel))
theorem dX11_set_33 : decode cX11_set 33 = .ok (.iload_n 1, 1) := dz_iload_n_1 (y0 zE_cX11_set 0 33 (by decide +kernel))
theorem dX11_set_34 : decode cX11_set 34 = .ok (.invokevirtual 320, 3) := dz_invokevirtual (yu2 zE_cX11_set 0 34 (by decide +kernel))
theorem dX11_set_37 : decode cX11_set 37 = .ok (.goto 9, 3) := dz_goto (ys2 zE_cX11_set 0 37 (by decide +kernel))
theorem dX11_set_40 : decode cX11_set 40 = .ok (.aload_n 0, 1) := dz_aload_n_0 (y0 zE_cX11_set 0 40 (by decide +kernel))
theorem dX11_set_41 : decode cX11_set 41 = .ok (.iload_n 1, 1) := dz_iload_n_1 (y0 zE_cX11_set 0 41 (by decide +kernel))
theorem dX11_set_42 : decode cX11_set 42 = .ok (.invokevirtual 270, 3) := dz_invokevirtual (yu2 zE_cX11_set 0 42 (by decide +kernel))
theorem dX11_set_45 : decode cX11_set 45 = .ok (.arraylength, 1) := dz_arraylength (y0 zE_cX11_set 0 45 (by decide +kernel))
theorem dX11_set_46 : decode cX11_set 46 = .ok (.ireturn, 1) := dz_ireturn (y0 zE_cX11_set 0 46 (by decide +kernel))
theorem gd_wsX11_songs : wsX11_songs.all goodWord = true := by decide +kernel
set_option maxRecDepth 20000 in
theorem ggX11_songs_X11_isWedding : GoodIn wsX11_songs wsX11_isWedding := gi_q gd_wsX11_songs _ [(11, 1), (5, 1), (12, 8), (10, 1), (20, 1), (305, 13), (334, 3)] rfl
set_option maxRecDepth 20000 in
theorem gX11_songs_X11_isWedding : GoodIn wsX11_songs (wsV RX11 216 RX11 yX11_isWedding wsX11_isWedding) := goodIn_app (gi_q gd_wsX11_songs _ [(7, 4)] rfl) ggX11_songs_X11_isWedding
set_option maxRecDepth 20000 in
theorem ggX11_songs_J4_init_da8c8 : GoodIn wsX11_songs wsJ4_init_da8c8 := gi_q gd_wsX11_songs _ [(23, 20), (318, 4)] rfl
set_option maxRecDepth 20000 in
theorem gX11_songs_J4_init_da8c8 : GoodIn wsX11_songs (wsJ4_init_da8c8) := ggX11_songs_J4_init_da8c8
set_option maxRecDepth 20000 in
theorem ggX11_songs_Jx4a65c_get_915e3 : GoodIn wsX11_songs wsJx4a65c_get_915e3 := gi_q gd_wsX11_songs _ [(46, 1), (17, 1), (47, 11), (15, 1), (58, 2), (334, 3)] rfl
set_option maxRecDepth 20000 in
theorem gX11_songs_Jx4a65c_get_915e3 : GoodIn wsX11_songs (wsV RX11 90 RJx4a65c yJx4a65c_get_915e3 wsJx4a65c_get_915e3) := goodIn_app (gi_q gd_wsX11_songs _ [(43, 3), (15, 1)] rfl) ggX11_songs_Jx4a65c_get_915e3
set_option maxRecDepth 20000 in
theorem ggX11_songs_X11_bestSet : GoodIn wsX11_songs wsX11_bestSet := gi_q gd_wsX11_songs _ [(63, 16), (10, 1), (79, 3), (12, 6), (82, 3), (43, 17), (85, 18), (305, 13), (337, 7), (334, 3)] rfl
set_option maxRecDepth 20000 in
theorem gX11_songs_X11_bestSet : GoodIn wsX11_songs (wsV RX11 270 RX11 yX11_bestSet wsX11_bestSet) := goodIn_app (gi_q gd_wsX11_songs _ [(60, 3), (10, 1)] rfl) ggX11_songs_X11_bestSet
set_option maxRecDepth 20000 in
theorem ggX11_songs_J4_length_8abf5 : GoodIn wsX11_songs wsJ4_length_8abf5 := gi_q gd_wsX11_songs _ [(106, 5), (26, 1), (111, 2), (318, 4)] rfl
set_option maxRecDepth 20000 in
theorem gX11_songs_J4_length_8abf5 : GoodIn wsX11_songs (wsV RX11 328 RJ4 yJ4_length_8abf5 wsJ4_length_8abf5) := goodIn_app (gi_q gd_wsX11_songs _ [(103, 3), (4, 1)] rfl) ggX11_songs_J4_length_8abf5
set_option maxRecDepth 20000 in
theorem ggX11_songs_J4_append_15ec4 : GoodIn wsX11_songs wsJ4_append_15ec4 := gi_q gd_wsX11_songs _ [(116, 3), (109, 1), (119, 1), (26, 1), (120, 1), (112, 1), (121, 5), (33, 1), (126, 5), (34, 1), (131, 11), (69, 3), (142, 14), (32, 1), (156, 1), (101, 2), (157, 1), (73, 3), (158, 5), (31, 1), (163, 2), (37, 1), (165, 15), (53, 1), (180, 33), (35, 2), (38, 5), (213, 22), (318, 4), (344, 4)] rfl
set_option maxRecDepth 20000 in
theorem gX11_songs_J4_append_15ec4 : GoodIn wsX11_songs (wsV RX11 332 RJ4 yJ4_append_15ec4 wsJ4_append_15ec4) := goodIn_app (gi_q gd_wsX11_songs _ [(113, 3), (4, 1)] rfl) ggX11_songs_J4_append_15ec4
set_option maxRecDepth 20000 in
theorem ggX11_songs_J4_append_bf812 : GoodIn wsX11_songs wsJ4_append_bf812 := gi_q gd_wsX11_songs _ [(238, 3), (109, 1), (241, 1), (26, 1), (242, 1), (112, 1), (33, 1), (243, 2), (87, 1), (245, 1), (126, 5), (34, 1), (131, 11), (69, 3), (142, 14), (32, 1), (156, 1), (101, 2), (157, 1), (73, 3), (158, 5), (31, 1), (246, 7), (37, 1), (253, 1), (166, 14), (53, 1), (180, 1), (254, 5), (181, 5), (318, 4)] rfl
set_option maxRecDepth 20000 in
theorem gX11_songs_J4_append_bf812 : GoodIn wsX11_songs (wsV RX11 336 RJ4 yJ4_append_bf812 wsJ4_append_bf812) := goodIn_app (gi_q gd_wsX11_songs _ [(235, 3), (4, 1)] rfl) ggX11_songs_J4_append_bf812
set_option maxRecDepth 20000 in
theorem ggX11_songs_J4_toString_0e30d : GoodIn wsX11_songs wsJ4_toString_0e30d := gi_q gd_wsX11_songs _ [(262, 3), (175, 1), (265, 7), (29, 2), (196, 1), (190, 1), (195, 1), (272, 5), (26, 1), (277, 1), (33, 1), (278, 1), (108, 1), (279, 2), (104, 1), (4, 1), (106, 2), (109, 4), (281, 1), (159, 4), (31, 1), (34, 1), (282, 2), (148, 1), (284, 1), (150, 6), (285, 3), (32, 1), (156, 1), (101, 1), (70, 1), (102, 1), (157, 1), (73, 3), (288, 4), (3, 1), (292, 2), (37, 1), (294, 4), (220, 3), (170, 3), (223, 3), (177, 1), (226, 2), (53, 1), (228, 1), (298, 3), (166, 1), (184, 2), (39, 4), (301, 4), (344, 4), (318, 4)] rfl
set_option maxRecDepth 20000 in
theorem gX11_songs_J4_toString_0e30d : GoodIn wsX11_songs (wsV RX11 341 RJ4 yJ4_toString_0e30d wsJ4_toString_0e30d) := goodIn_app (gi_q gd_wsX11_songs _ [(259, 3), (4, 1)] rfl) ggX11_songs_J4_toString_0e30d
def zT_cX11_songs : List (List Nat) := [[42, 42, 27, 182, 0, 216, 153, 0, 7, 3, 167, 0, 4, 4, 181, 0, 44, 42, 180, 0, 44, 158, 0, 7, 19, 1, 67, 176, 187, 1, 69, 89, 183, 1, 71, 77, 42, 42, 180, 0, 19, 27, 182, 0, 90, 192, 0, 122, 180, 0, 160, 182, 1, 14, 78, 45, 190, 54, 4, 3, 54, 5, 21, 5, 21, 4, 162, 0], [21, 4, 162, 0, 41, 45, 21, 5, 46, 54, 6, 44, 44, 182, 1, 72, 158, 0, 9, 19, 1, 74, 167, 0, 6, 19, 1, 67, 182, 1, 76, 21, 6, 182, 1, 80, 87, 132, 5, 1, 167, 255, 214, 44, 182, 1, 72, 154, 0, 9, 19, 1, 83, 167, 0, 7, 44, 182, 1, 85, 176]]
theorem zE_cX11_songs : zTab cX11_songs.data.toList zT_cX11_songs = true := by decide +kernel
theorem dX11_songs_0 : decode cX11_songs 0 = .ok (.aload_n 0, 1) := dz_aload_n_0 (y0 zE_cX11_songs 0 0 (by decide +kernel))
theorem dX11_songs_1 : decode cX11_songs 1 = .ok (.aload_n 0, 1) := dz_aload_n_0 (y0 zE_cX11_songs 0 1 (by decide +kernel))
theorem dX11_songs_2 : decode cX11_songs 2 = .ok (.iload_n 1, 1) := dz_iload_n_1 (y0 zE_cX11_songs 0 2 (by decide +kernel))
theorem dX11_songs_3 : decode cX11_songs 3 = .ok (.invokevirtual 216, 3) := dz_invokevirtual (yu2 zE_cX11_songs 0 3 (by decide +kernel))
theorem dX11_songs_6 : decode cX11_songs 6 = .ok (.ifCond .eq 7, 3) := dz_ifCond_eq (ys2 zE_cX11_songs 0 6 (by decide +kernel))
theorem dX11_songs_9 : decode cX11_songs 9 = .ok (.iconst 0, 1) := dz_iconst_0 (y0 zE_cX11_songs 0 9 (by decide +kernel))
theorem dX11_songs_10 : decode cX11_songs 10 = .ok (.goto 4, 3) := dz_goto (ys2 zE_cX11_songs 0 10 (by decide +kernel))
theorem dX11_songs_13 : decode cX11_songs 13 = .ok (.iconst 1, 1) := dz_iconst_1 (y0 zE_cX11_songs 0 13 (by decide +kernel))
theorem dX11_songs_14 : decode cX11_songs 14 = .ok (.putfield 44, 3) := dz_putfield (yu2 zE_cX11_songs 0 14 (by decide +kernel))
theorem dX11_songs_17 : decode cX11_songs 17 = .ok (.aload_n 0, 1) := dz_aload_n_0 (y0 zE_cX11_songs 0 17 (by decide +kernel))
theorem dX11_songs_18 : decode cX11_songs 18 = .ok (.getfield 44, 3) := dz_getfield (yu2 zE_cX11_songs 0 18 (by decide +kernel))
theorem dX11_songs_21 : decode cX11_songs 21 = .ok (.ifCond .le 7, 3) := dz_ifCond_le (ys2 zE_cX11_songs 0 21 (by decide +kernel))
theorem dX11_songs_24 : decode cX11_songs 24 = .ok (.ldc_w 323, 3) := dz_ldc_w (yu2 zE_cX11_songs 0 24 (by decide +kernel))
theorem dX11_songs_27 : decode cX11_songs 27 = .ok (.areturn, 1) := dz_areturn (y0 zE_cX11_songs 0 27 (by decide +kernel))
theorem dX11_songs_28 : decode cX11_songs 28 = .ok (.new 325, 3) := dz_new (yu2 zE_cX11_songs 0 28 (by decide +kernel))
theorem dX11_songs_31 : decode cX11_songs 31 = .ok (.dup, 1) := dz_dup (y0 zE_cX11_songs 0 31 (by decide +kernel))
theorem dX11_songs_32 : decode cX11_songs 32 = .ok (.invokespecial 327, 3) := dz_invokespecial (yu2 zE_cX11_songs 0 32 (by decide +kernel))
theorem dX11_songs_35 : decode cX11_songs 35 = .ok (.astore_n 2, 1) := dz_astore_n_2 (y0 zE_cX11_songs 0 35 (by decide +kernel))
theorem dX11_songs_36 : decode cX11_songs 36 = .ok (.aload_n 0, 1) := dz_aload_n_0 (y0 zE_cX11_songs 0 36 (by decide +kernel))
theorem dX11_songs_37 : decode cX11_songs 37 = .ok (.aload_n 0, 1) := dz_aload_n_0 (y0 zE_cX11_songs 0 37 (by decide +kernel))
theorem dX11_songs_38 : decode cX11_songs 38 = .ok (.getfield 19, 3) := dz_getfield (yu2 zE_cX11_songs 0 38 (by decide +kernel))
theorem dX11_songs_41 : decode cX11_songs 41 = .ok (.iload_n 1, 1) := dz_iload_n_1 (y0 zE_cX11_songs 0 41 (by decide +kernel))
theorem dX11_songs_42 : decode cX11_songs 42 = .ok (.invokevirtual 90, 3) := dz_invokevirtual (yu2 zE_cX11_songs 0 42 (by decide +kernel))
theorem dX11_songs_45 : decode cX11_songs 45 = .ok (.checkcast 122, 3) := dz_checkcast (yu2 zE_cX11_songs 0 45 (by decide +kernel))
theorem dX11_songs_48 : decode cX11_songs 48 = .ok (.getfield 160, 3) := dz_getfield (yu2 zE_cX11_songs 0 48 (by decide +kernel))
theorem dX11_songs_51 : decode cX11_songs 51 = .ok (.invokevirtual 270, 3) := dz_invokevirtual (yu2 zE_cX11_songs 0 51 (by decide +kernel))
theorem dX11_songs_54 : decode cX11_songs 54 = .ok (.astore_n 3, 1) := dz_astore_n_3 (y0 zE_cX11_songs 0 54 (by decide +kernel))
theorem dX11_songs_55 : decode cX11_songs 55 = .ok (.aload_n 3, 1) := dz_aload_n_3 (y0 zE_cX11_songs 0 55 (by decide +kernel))
theorem dX11_songs_56 : decode cX11_songs 56 = .ok (.arraylength, 1) := dz_arraylength (y0 zE_cX11_songs 0 56 (by decide +kernel))
theorem dX11_songs_57 : decode cX11_songs 57 = .ok (.istore 4, 2) := dz_istore (yu1 zE_cX11_songs 0 57 (by decide +kernel))
theorem dX11_songs_59 : decode cX11_songs 59 = .ok (.iconst 0, 1) := dz_iconst_0 (y0 zE_cX11_songs 0 59 (by decide +kernel))
theorem dX11_songs_60 : decode cX11_songs 60 = .ok (.istore 5, 2) := dz_istore (yu1 zE_cX11_songs 0 60 (by decide +kernel))
theorem dX11_songs_62 : decode cX11_songs 62 = .ok (.iload 5, 2) := dz_iload (yu1 zE_cX11_songs 0 62 (by decide +kernel))
theorem dX11_songs_64 : decode cX11_songs 64 = .ok (.iload 4, 2) := dz_iload (yu1 zE_cX11_songs 1 0 (by decide +kernel))
theorem dX11_songs_66 : decode cX11_songs 66 = .ok (.if_icmp .ge 41, 3) := dz_if_icmp_ge (ys2 zE_cX11_songs 1 2 (by decide +kernel))
theorem dX11_songs_69 : decode cX11_songs 69 = .ok (.aload_n 3, 1) := dz_aload_n_3 (y0 zE_cX11_songs 1 5 (by decide +kernel))
theorem dX11_songs_70 : decode cX11_songs 70 = .ok (.iload 5, 2) := dz_iload (yu1 zE_cX11_songs 1 6 (by decide +kernel))
theorem dX11_songs_72 : decode cX11_songs 72 = .ok (.iaload, 1) := dz_iaload (y0 zE_cX11_songs 1 8 (by decide +kernel))
theorem dX11_songs_73 : decode cX11_songs 73 = .ok (.istore 6, 2) := dz_istore (yu1 zE_cX11_songs 1 9 (by decide +kernel))
theorem dX11_songs_75 : decode cX11_songs 75 = .ok (.aload_n 2, 1) := dz_aload_n_2 (y0 zE_cX11_songs 1 11 (by decide +kernel))
theorem dX11_songs_76 : decode cX11_songs 76 = .ok (.aload_n 2, 1) := dz_aload_n_2 (y0 zE_cX11_songs 1 12 (by decide +kernel))
theorem dX11_songs_77 : decode cX11_songs 77 = .ok (.invokevirtual 328, 3) := dz_invokevirtual (yu2 zE_cX11_songs 1 13 (by decide +kernel))
theorem dX11_songs_80 : decode cX11_songs 80 = .ok (.ifCond .le 9, 3) := dz_ifCond_le (ys2 zE_cX11_songs 1 16 (by decide +kernel))
theorem dX11_songs_83 : decode cX11_songs 83 = .ok (.ldc_w 330, 3) := dz_ldc_w (yu2 zE_cX11_songs 1 19 (by decide +kernel))
theorem dX11_songs_86 : decode cX11_songs 86 = .ok (.goto 6, 3) := dz_goto (ys2 zE_cX11_songs 1 22 (by decide +kernel))
theorem dX11_songs_89 : decode cX11_songs 89 = .ok (.ldc_w 323, 3) := dz_ldc_w (yu2 zE_cX11_songs 1 25 (by decide +kernel))
theorem dX11_songs_92 : decode cX11_songs 92 = .ok (.invokevirtual 332, 3) := dz_invokevirtual (yu2 zE_cX11_songs 1 28 (by decide +kernel))
theorem dX11_songs_95 : decode cX11_songs 95 = .ok (.iload 6, 2) := dz_iload (yu1 zE_cX11_songs 1 31 (by decide +kernel))
theorem dX11_songs_97 : decode cX11_songs 97 = .ok (.invokevirtual 336, 3) := dz_invokevirtual (yu2 zE_cX11_songs 1 33 (by decide +kernel))
theorem dX11_songs_100 : decode cX11_songs 100 = .ok (.pop, 1) := dz_pop (y0 zE_cX11_songs 1 36 (by decide +kernel))
theorem dX11_songs_101 : decode cX11_songs 101 = .ok (.iinc 5 1, 3) := dz_iinc (yii zE_cX11_songs 1 37 (by decide +kernel))
theorem dX11_songs_104 : decode cX11_songs 104 = .ok (.goto (-42), 3) := dz_goto (ys2 zE_cX11_songs 1 40 (by decide +kernel))
theorem dX11_songs_107 : decode cX11_songs 107 = .ok (.aload_n 2, 1) := dz_aload_n_2 (y0 zE_cX11_songs 1 43 (by decide +kernel))
theorem dX11_songs_108 : decode cX11_songs 108 = .ok (.invokevirtual 328, 3) := dz_invokevirtual (yu2 zE_cX11_songs 1 44 (by decide +kernel))
theorem dX11_songs_111 : decode cX11_songs 111 = .ok (.ifCond .ne 9, 3) := dz_ifCond_ne (ys2 zE_cX11_songs 1 47 (by decide +kernel))
theorem dX11_songs_114 : decode cX11_songs 114 = .ok (.ldc_w 339, 3) := dz_ldc_w (yu2 zE_cX11_songs 1 50 (by decide +kernel))
theorem dX11_songs_117 : decode cX11_songs 117 = .ok (.goto 7, 3) := dz_goto (ys2 zE_cX11_songs 1 53 (by decide +kernel))
theorem dX11_songs_120 : decode cX11_songs 120 = .ok (.aload_n 2, 1) := dz_aload_n_2 (y0 zE_cX11_songs 1 56 (by decide +kernel))
theorem dX11_songs_121 : decode cX11_songs 121 = .ok (.invokevirtual 341, 3) := dz_invokevirtual (yu2 zE_cX11_songs 1 57 (by decide +kernel))
theorem dX11_songs_124 : decode cX11_songs 124 = .ok (.areturn, 1) := dz_areturn (y0 zE_cX11_songs 1 60 (by decide +kernel))
theorem gd_wsX11_deskNow : wsX11_deskNow.all goodWord = true := by decide +kernel
set_option maxRecDepth 20000 in
theorem ggX11_deskNow_Jx4a65c_size_8abf5 : GoodIn wsX11_deskNow wsJx4a65c_size_8abf5 := gi_q gd_wsX11_deskNow _ [(12, 2), (94, 3)] rfl
set_option maxRecDepth 20000 in
theorem gX11_deskNow_Jx4a65c_size_8abf5 : GoodIn wsX11_deskNow (wsV RX11 48 RJx4a65c yJx4a65c_size_8abf5 wsJx4a65c_size_8abf5) := goodIn_app (gi_q gd_wsX11_deskNow _ [(8, 4)] rfl) ggX11_deskNow_Jx4a65c_size_8abf5
set_option maxRecDepth 20000 in
theorem ggX11_deskNow_Jx4a65c_get_915e3 : GoodIn wsX11_deskNow wsJx4a65c_get_915e3 := gi_q gd_wsX11_deskNow _ [(17, 1), (13, 1), (18, 11), (11, 1), (29, 2), (94, 3)] rfl
set_option maxRecDepth 20000 in
theorem gX11_deskNow_Jx4a65c_get_915e3 : GoodIn wsX11_deskNow (wsV RX11 90 RJx4a65c yJx4a65c_get_915e3 wsJx4a65c_get_915e3) := goodIn_app (gi_q gd_wsX11_deskNow _ [(14, 3), (11, 1)] rfl) ggX11_deskNow_Jx4a65c_get_915e3
set_option maxRecDepth 20000 in
theorem ggX11_deskNow_J6_bitCount_0f7a4 : GoodIn wsX11_deskNow wsJ6_bitCount_0f7a4 := gi_q gd_wsX11_deskNow _ [(34, 4)] rfl
set_option maxRecDepth 20000 in
theorem gX11_deskNow_J6_bitCount_0f7a4 : GoodIn wsX11_deskNow (va_wsS RX11 94 yJ6_bitCount_0f7a4 wsJ6_bitCount_0f7a4) := goodIn_app (gi_q gd_wsX11_deskNow _ [(31, 3)] rfl) ggX11_deskNow_J6_bitCount_0f7a4
set_option maxRecDepth 20000 in
theorem ggX11_deskNow_X11_apart : GoodIn wsX11_deskNow wsX11_apart := gi_q gd_wsX11_deskNow _ [(42, 1), (2, 1), (43, 10), (11, 1), (53, 1), (13, 1), (8, 3), (12, 1), (54, 3), (41, 1), (57, 2), (4, 2), (14, 17), (59, 16), (94, 3), (75, 12)] rfl
set_option maxRecDepth 20000 in
theorem gX11_deskNow_X11_apart : GoodIn wsX11_deskNow (wsV RX11 345 RX11 yX11_apart wsX11_apart) := goodIn_app (gi_q gd_wsX11_deskNow _ [(38, 4)] rfl) ggX11_deskNow_X11_apart
def zT_cX11_deskNow : List (List Nat) := [[3, 61, 27, 170, 0, 0, 1, 47, 0, 0, 0, 0, 0, 0, 0, 11, 0, 0, 0, 61, 0, 0, 0, 66, 0, 0, 0, 74, 0, 0, 0, 82, 0, 0, 0, 90, 0, 0, 0, 90, 0, 0, 0, 90, 0, 0, 0, 90, 0, 0, 0, 139, 0, 0, 0, 144, 0, 0, 0, 187, 0, 0, 0, 225, 42, 180, 0, 57], [42, 180, 0, 57, 172, 42, 180, 0, 10, 182, 0, 48, 172, 42, 180, 0, 16, 182, 0, 48, 172, 42, 180, 0, 19, 182, 0, 48, 172, 3, 62, 29, 42, 180, 0, 19, 182, 0, 48, 162, 0, 37, 28, 42, 180, 0, 19, 29, 182, 0, 90, 192, 0, 122, 180, 0, 124, 27, 7, 100, 160, 0, 7, 4, 167, 0, 4, 3], [167, 0, 4, 3, 96, 61, 132, 3, 1, 167, 255, 214, 28, 172, 42, 180, 0, 213, 172, 3, 62, 29, 42, 180, 0, 10, 182, 0, 48, 162, 0, 29, 28, 42, 180, 0, 10, 29, 182, 0, 90, 192, 0, 68, 180, 0, 99, 184, 0, 94, 96, 61, 132, 3, 1, 167, 255, 222, 28, 5, 108, 172, 3, 62, 29, 42, 180, 0], [29, 42, 180, 0, 10, 182, 0, 48, 162, 0, 26, 28, 42, 180, 0, 10, 29, 182, 0, 90, 192, 0, 68, 180, 1, 11, 96, 61, 132, 3, 1, 167, 255, 225, 28, 172, 3, 62, 29, 42, 180, 0, 10, 182, 0, 48, 162, 0, 66, 42, 180, 0, 10, 29, 182, 0, 90, 192, 0, 68, 180, 0, 156, 58, 4, 25, 4, 190], [4, 25, 4, 190, 54, 5, 3, 54, 6, 21, 6, 21, 5, 162, 0, 29, 25, 4, 21, 6, 51, 54, 7, 28, 21, 7, 153, 0, 7, 4, 167, 0, 4, 3, 96, 61, 132, 6, 1, 167, 255, 226, 132, 3, 1, 167, 255, 185, 28, 172, 42, 182, 1, 89, 172]]
theorem zE_cX11_deskNow : zTab cX11_deskNow.data.toList zT_cX11_deskNow = true := by decide +kernel
theorem dX11_deskNow_0 : decode cX11_deskNow 0 = .ok (.iconst 0, 1) := dz_iconst_0 (y0 zE_cX11_deskNow 0 0 (by decide +kernel))
theorem dX11_deskNow_1 : decode cX11_deskNow 1 = .ok (.istore_n 2, 1) := dz_istore_n_2 (y0 zE_cX11_deskNow 0 1 (by decide +kernel))
theorem dX11_deskNow_2 : decode cX11_deskNow 2 = .ok (.iload_n 1, 1) := dz_iload_n_1 (y0 zE_cX11_deskNow 0 2 (by decide +kernel))
theorem dX11_deskNow_3 : decode cX11_deskNow 3 = .ok (.tableswitch 303 0 11 #[61, 66, 74, 82, 90, 90, 90, 90, 139, 144, 187, 225], 61) := dkT (by decide +kernel)
theorem dX11_deskNow_64 : decode cX11_deskNow 64 = .ok (.aload_n 0, 1) := dz_aload_n_0 (y0 zE_cX11_deskNow 1 0 (by decide +kernel))
theorem dX11_deskNow_65 : decode cX11_deskNow 65 = .ok (.getfield 57, 3) := dz_getfield (yu2 zE_cX11_deskNow 1 1 (by decide +kernel))
theorem dX11_deskNow_68 : decode cX11_deskNow 68 = .ok (.ireturn, 1) := dz_ireturn (y0 zE_cX11_deskNow 1 4 (by decide +kernel))
theorem dX11_deskNow_69 : decode cX11_deskNow 69 = .ok (.aload_n 0, 1) := dz_aload_n_0 (y0 zE_cX11_deskNow 1 5 (by decide +kernel))
theorem dX11_deskNow_70 : decode cX11_deskNow 70 = .ok (.getfield 10, 3) := dz_getfield (yu2 zE_cX11_deskNow 1 6 (by decide +kernel))
theorem dX11_deskNow_73 : decode cX11_deskNow 73 = .ok (.invokevirtual 48, 3) := dz_invokevirtual (yu2 zE_cX11_deskNow 1 9 (by decide +kernel))
theorem dX11_deskNow_76 : decode cX11_deskNow 76 = .ok (.ireturn, 1) := dz_ireturn (y0 zE_cX11_deskNow 1 12 (by decide +kernel))
theorem dX11_deskNow_77 : decode cX11_deskNow 77 = .ok (.aload_n 0, 1) := dz_aload_n_0 (y0 zE_cX11_deskNow 1 13 (by decide +kernel))
theorem dX11_deskNow_78 : decode cX11_deskNow 78 = .ok (.getfield 16, 3) := dz_getfield (yu2 zE_cX11_deskNow 1 14 (by decide +kernel))
theorem dX11_deskNow_81 : decode cX11_deskNow 81 = .ok (.invokevirtual 48, 3) := dz_invokevirtual (yu2 zE_cX11_deskNow 1 17 (by decide +kernel))
theorem dX11_deskNow_84 : decode cX11_deskNow 84 = .ok (.ireturn, 1) := dz_ireturn (y0 zE_cX11_deskNow 1 20 (by decide +kernel))
theorem dX11_deskNow_85 : decode cX11_deskNow 85 = .ok (.aload_n 0, 1) := dz_aload_n_0 (y0 zE_cX11_deskNow 1 21 (by decide +kernel))
theorem dX11_deskNow_86 : decode cX11_deskNow 86 = .ok (.getfield 19, 3) := dz_getfield (yu2 zE_cX11_deskNow 1 22 (by decide +kernel))
theorem dX11_deskNow_89 : decode cX11_deskNow 89 = .ok (.invokevirtual 48, 3) := dz_invokevirtual (yu2 zE_cX11_deskNow 1 25 (by decide +kernel))
theorem dX11_deskNow_92 : decode cX11_deskNow 92 = .ok (.ireturn, 1) := dz_ireturn (y0 zE_cX11_deskNow 1 28 (by decide +kernel))
theorem dX11_deskNow_93 : decode cX11_deskNow 93 = .ok (.iconst 0, 1) := dz_iconst_0 (y0 zE_cX11_deskNow 1 29 (by decide +kernel))
theorem dX11_deskNow_94 : decode cX11_deskNow 94 = .ok (.istore_n 3, 1) := dz_istore_n_3 (y0 zE_cX11_deskNow 1 30 (by decide +kernel))
theorem dX11_deskNow_95 : decode cX11_deskNow 95 = .ok (.iload_n 3, 1) := dz_iload_n_3 (y0 zE_cX11_deskNow 1 31 (by decide +kernel))
theorem dX11_deskNow_96 : decode cX11_deskNow 96 = .ok (.aload_n 0, 1) := dz_aload_n_0 (y0 zE_cX11_deskNow 1 32 (by decide +kernel))
theorem dX11_deskNow_97 : decode cX11_deskNow 97 = .ok (.getfield 19, 3) := dz_getfield (yu2 zE_cX11_deskNow 1 33 (by decide +kernel))
theorem dX11_deskNow_100 : decode cX11_deskNow 100 = .ok (.invokevirtual 48, 3) := dz_invokevirtual (yu2 zE_cX11_deskNow 1 36 (by decide +kernel))
theorem dX11_deskNow_103 : decode cX11_deskNow 103 = .ok (.if_icmp .ge 37, 3) := dz_if_icmp_ge (ys2 zE_cX11_deskNow 1 39 (by decide +kernel))
theorem dX11_deskNow_106 : decode cX11_deskNow 106 = .ok (.iload_n 2, 1) := dz_iload_n_2 (y0 zE_cX11_deskNow 1 42 (by decide +kernel))
theorem dX11_deskNow_107 : decode cX11_deskNow 107 = .ok (.aload_n 0, 1) := dz_aload_n_0 (y0 zE_cX11_deskNow 1 43 (by decide +kernel))
theorem dX11_deskNow_108 : decode cX11_deskNow 108 = .ok (.getfield 19, 3) := dz_getfield (yu2 zE_cX11_deskNow 1 44 (by decide +kernel))
theorem dX11_deskNow_111 : decode cX11_deskNow 111 = .ok (.iload_n 3, 1) := dz_iload_n_3 (y0 zE_cX11_deskNow 1 47 (by decide +kernel))
theorem dX11_deskNow_112 : decode cX11_deskNow 112 = .ok (.invokevirtual 90, 3) := dz_invokevirtual (yu2 zE_cX11_deskNow 1 48 (by decide +kernel))
theorem dX11_deskNow_115 : decode cX11_deskNow 115 = .ok (.checkcast 122, 3) := dz_checkcast (yu2 zE_cX11_deskNow 1 51 (by decide +kernel))
theorem dX11_deskNow_118 : decode cX11_deskNow 118 = .ok (.getfield 124, 3) := dz_getfield (yu2 zE_cX11_deskNow 1 54 (by decide +kernel))
theorem dX11_deskNow_121 : decode cX11_deskNow 121 = .ok (.iload_n 1, 1) := dz_iload_n_1 (y0 zE_cX11_deskNow 1 57 (by decide +kernel))
theorem dX11_deskNow_122 : decode cX11_deskNow 122 = .ok (.iconst 4, 1) := dz_iconst_4 (y0 zE_cX11_deskNow 1 58 (by decide +kernel))
theorem dX11_deskNow_123 : decode cX11_deskNow 123 = .ok (.isub, 1) := dz_isub (y0 zE_cX11_deskNow 1 59 (by decide +kernel))
theorem dX11_deskNow_124 : decode cX11_deskNow 124 = .ok (.if_icmp .ne 7, 3) := dz_if_icmp_ne (ys2 zE_cX11_deskNow 1 60 (by decide +kernel))
theorem dX11_deskNow_127 : decode cX11_deskNow 127 = .ok (.iconst 1, 1) := dz_iconst_1 (y0 zE_cX11_deskNow 1 63 (by decide +kernel))
theorem dX11_deskNow_128 : decode cX11_deskNow 128 = .ok (.goto 4, 3) := dz_goto (ys2 zE_cX11_deskNow 2 0 (by decide +kernel))
theorem dX11_deskNow_131 : decode cX11_deskNow 131 = .ok (.iconst 0, 1) := dz_iconst_0 (y0 zE_cX11_deskNow 2 3 (by decide +kernel))
theorem dX11_deskNow_132 : decode cX11_deskNow 132 = .ok (.iadd, 1) := dz_iadd (y0 zE_cX11_deskNow 2 4 (by decide +kernel))
theorem dX11_deskNow_133 : decode cX11_deskNow 133 = .ok (.istore_n 2, 1) := dz_istore_n_2 (y0 zE_cX11_deskNow 2 5 (by decide +kernel))
theorem dX11_deskNow_134 : decode cX11_deskNow 134 = .ok (.iinc 3 1, 3) := dz_iinc (yii zE_cX11_deskNow 2 6 (by decide +kernel))
theorem dX11_deskNow_137 : decode cX11_deskNow 137 = .ok (.goto (-42), 3) := dz_goto (ys2 zE_cX11_deskNow 2 9 (by decide +kernel))
theorem dX11_deskNow_140 : decode cX11_deskNow 140 = .ok (.iload_n 2, 1) := dz_iload_n_2 (y0 zE_cX11_deskNow 2 12 (by decide +kernel))
theorem dX11_deskNow_141 : decode cX11_deskNow 141 = .ok (.ireturn, 1) := dz_ireturn (y0 zE_cX11_deskNow 2 13 (by decide +kernel))
theorem dX11_deskNow_142 : decode cX11_deskNow 142 = .ok (.aload_n 0, 1) := dz_aload_n_0 (y0 zE_cX11_deskNow 2 14 (by decide +kernel))
theorem dX11_deskNow_143 : decode cX11_deskNow 143 = .ok (.getfield 213, 3) := dz_getfield (yu2 zE_cX11_deskNow 2 15 (by decide +kernel))
theorem dX11_deskNow_146 : decode cX11_deskNow 146 = .ok (.ireturn, 1) := dz_ireturn (y0 zE_cX11_deskNow 2 18 (by decide +kernel))
theorem dX11_deskNow_147 : decode cX11_deskNow 147 = .ok (.iconst 0, 1) := dz_iconst_0 (y0 zE_cX11_deskNow 2 19 (by decide +kernel))
theorem dX11_deskNow_148 : decode cX11_deskNow 148 = .ok (.istore_n 3, 1) := dz_istore_n_3 (y0 zE_cX11_deskNow 2 20 (by decide +kernel))
theorem dX11_deskNow_149 : decode cX11_deskNow 149 = .ok (.iload_n 3, 1) := dz_iload_n_3 (y0 zE_cX11_deskNow 2 21 (by decide +kernel))
theorem dX11_deskNow_150 : decode cX11_deskNow 150 = .ok (.aload_n 0, 1) := dz_aload_n_0 (y0 zE_cX11_deskNow 2 22 (by decide +kernel))
theorem dX11_deskNow_151 : decode cX11_deskNow 151 = .ok (.getfield 10, 3) := dz_getfield (yu2 zE_cX11_deskNow 2 23 (by decide +kernel))
theorem dX11_deskNow_154 : decode cX11_deskNow 154 = .ok (.invokevirtual 48, 3) := dz_invokevirtual (yu2 zE_cX11_deskNow 2 26 (by decide +kernel))
theorem dX11_deskNow_157 : decode cX11_deskNow 157 = .ok (.if_icmp .ge 29, 3) := dz_if_icmp_ge (ys2 zE_cX11_deskNow 2 29 (by decide +kernel))
theorem dX11_deskNow_160 : decode cX11_deskNow 160 = .ok (.iload_n 2, 1) := dz_iload_n_2 (y0 zE_cX11_deskNow 2 32 (by decide +kernel))
theorem dX11_deskNow_161 : decode cX11_deskNow 161 = .ok (.aload_n 0, 1) := dz_aload_n_0 (y0 zE_cX11_deskNow 2 33 (by decide +kernel))
theorem dX11_deskNow_162 : decode cX11_deskNow 162 = .ok (.getfield 10, 3) := dz_getfield (yu2 zE_cX11_deskNow 2 34 (by decide +kernel))
theorem dX11_deskNow_165 : decode cX11_deskNow 165 = .ok (.iload_n 3, 1) := dz_iload_n_3 (y0 zE_cX11_deskNow 2 37 (by decide +kernel))
theorem dX11_deskNow_166 : decode cX11_deskNow 166 = .ok (.invokevirtual 90, 3) := dz_invokevirtual (yu2 zE_cX11_deskNow 2 38 (by decide +kernel))
theorem dX11_deskNow_169 : decode cX11_deskNow 169 = .ok (.checkcast 68, 3) := dz_checkcast (yu2 zE_cX11_deskNow 2 41 (by decide +kernel))
theorem dX11_deskNow_172 : decode cX11_deskNow 172 = .ok (.getfield 99, 3) := dz_getfield (yu2 zE_cX11_deskNow 2 44 (by decide +kernel))
theorem dX11_deskNow_175 : decode cX11_deskNow 175 = .ok (.invokestatic 94, 3) := dz_invokestatic (yu2 zE_cX11_deskNow 2 47 (by decide +kernel))
theorem dX11_deskNow_178 : decode cX11_deskNow 178 = .ok (.iadd, 1) := dz_iadd (y0 zE_cX11_deskNow 2 50 (by decide +kernel))
theorem dX11_deskNow_179 : decode cX11_deskNow 179 = .ok (.istore_n 2, 1) := dz_istore_n_2 (y0 zE_cX11_deskNow 2 51 (by decide +kernel))
theorem dX11_deskNow_180 : decode cX11_deskNow 180 = .ok (.iinc 3 1, 3) := dz_iinc (yii zE_cX11_deskNow 2 52 (by decide +kernel))
theorem dX11_deskNow_183 : decode cX11_deskNow 183 = .ok (.goto (-34), 3) := dz_goto (ys2 zE_cX11_deskNow 2 55 (by decide +kernel))
theorem dX11_deskNow_186 : decode cX11_deskNow 186 = .ok (.iload_n 2, 1) := dz_iload_n_2 (y0 zE_cX11_deskNow 2 58 (by decide +kernel))
theorem dX11_deskNow_187 : decode cX11_deskNow 187 = .ok (.iconst 2, 1) := dz_iconst_2 (y0 zE_cX11_deskNow 2 59 (by decide +kernel))
theorem dX11_deskNow_188 : decode cX11_deskNow 188 = .ok (.idiv, 1) := dz_idiv (y0 zE_cX11_deskNow 2 60 (by decide +kernel))
theorem dX11_deskNow_189 : decode cX11_deskNow 189 = .ok (.ireturn, 1) := dz_ireturn (y0 zE_cX11_deskNow 2 61 (by decide +kernel))
theorem dX11_deskNow_190 : decode cX11_deskNow 190 = .ok (.iconst 0, 1) := dz_iconst_0 (y0 zE_cX11_deskNow 2 62 (by decide +kernel))
theorem dX11_deskNow_191 : decode cX11_deskNow 191 = .ok (.istore_n 3, 1) := dz_istore_n_3 (y0 zE_cX11_deskNow 2 63 (by decide +kernel))
theorem dX11_deskNow_192 : decode cX11_deskNow 192 = .ok (.iload_n 3, 1) := dz_iload_n_3 (y0 zE_cX11_deskNow 3 0 (by decide +kernel))
theorem dX11_deskNow_193 : decode cX11_deskNow 193 = .ok (.aload_n 0, 1) := dz_aload_n_0 (y0 zE_cX11_deskNow 3 1 (by decide +kernel))
theorem dX11_deskNow_194 : decode cX11_deskNow 194 = .ok (.getfield 10, 3) := dz_getfield (yu2 zE_cX11_deskNow 3 2 (by decide +kernel))
theorem dX11_deskNow_197 : decode cX11_deskNow 197 = .ok (.invokevirtual 48, 3) := dz_invokevirtual (yu2 zE_cX11_deskNow 3 5 (by decide +kernel))
theorem dX11_deskNow_200 : decode cX11_deskNow 200 = .ok (.if_icmp .ge 26, 3) := dz_if_icmp_ge (ys2 zE_cX11_deskNow 3 8 (by decide +kernel))
theorem dX11_deskNow_203 : decode cX11_deskNow 203 = .ok (.iload_n 2, 1) := dz_iload_n_2 (y0 zE_cX11_deskNow 3 11 (by decide +kernel))
theorem dX11_deskNow_204 : decode cX11_deskNow 204 = .ok (.aload_n 0, 1) := dz_aload_n_0 (y0 zE_cX11_deskNow 3 12 (by decide +kernel))
theorem dX11_deskNow_205 : decode cX11_deskNow 205 = .ok (.getfield 10, 3) := dz_getfield (yu2 zE_cX11_deskNow 3 13 (by decide +kernel))
theorem dX11_deskNow_208 : decode cX11_deskNow 208 = .ok (.iload_n 3, 1) := dz_iload_n_3 (y0 zE_cX11_deskNow 3 16 (by decide +kernel))
theorem dX11_deskNow_209 : decode cX11_deskNow 209 = .ok (.invokevirtual 90, 3) := dz_invokevirtual (yu2 zE_cX11_deskNow 3 17 (by decide +kernel))
theorem dX11_deskNow_212 : decode cX11_deskNow 212 = .ok (.checkcast 68, 3) := dz_checkcast (yu2 zE_cX11_deskNow 3 20 (by decide +kernel))
theorem dX11_deskNow_215 : decode cX11_deskNow 215 = .ok (.getfield 267, 3) := dz_getfield (yu2 zE_cX11_deskNow 3 23 (by decide +kernel))
theorem dX11_deskNow_218 : decode cX11_deskNow 218 = .ok (.iadd, 1) := dz_iadd (y0 zE_cX11_deskNow 3 26 (by decide +kernel))
theorem dX11_deskNow_219 : decode cX11_deskNow 219 = .ok (.istore_n 2, 1) := dz_istore_n_2 (y0 zE_cX11_deskNow 3 27 (by decide +kernel))
theorem dX11_deskNow_220 : decode cX11_deskNow 220 = .ok (.iinc 3 1, 3) := dz_iinc (yii zE_cX11_deskNow 3 28 (by decide +kernel))
theorem dX11_deskNow_223 : decode cX11_deskNow 223 = .ok (.goto (-31), 3) := dz_goto (ys2 zE_cX11_deskNow 3 31 (by decide +kernel))
theorem dX11_deskNow_226 : decode cX11_deskNow 226 = .ok (.iload_n 2, 1) := dz_iload_n_2 (y0 zE_cX11_deskNow 3 34 (by decide +kernel))
theorem dX11_deskNow_227 : decode cX11_deskNow 227 = .ok (.ireturn, 1) := dz_ireturn (y0 zE_cX11_deskNow 3 35 (by decide +kernel))
theorem dX11_deskNow_228 : decode cX11_deskNow 228 = .ok (.iconst 0, 1) := dz_iconst_0 (y0 zE_cX11_deskNow 3 36 (by decide +kernel))
theorem dX11_deskNow_229 : decode cX11_deskNow 229 = .ok (.istore_n 3, 1) := dz_istore_n_3 (y0 zE_cX11_deskNow 3 37 (by decide +kernel))
theorem dX11_deskNow_230 : decode cX11_deskNow 230 = .ok (.iload_n 3, 1) := dz_iload_n_3 (y0 zE_cX11_deskNow 3 38 (by decide +kernel))
theorem dX11_deskNow_231 : decode cX11_deskNow 231 = .ok (.aload_n 0, 1) := dz_aload_n_0 (y0 zE_cX11_deskNow 3 39 (by decide +kernel))
theorem dX11_deskNow_232 : decode cX11_deskNow 232 = .ok (.getfield 10, 3) := dz_getfield (yu2 zE_cX11_deskNow 3 40 (by decide +kernel))
theorem dX11_deskNow_235 : decode cX11_deskNow 235 = .ok (.invokevirtual 48, 3) := dz_invokevirtual (yu2 zE_cX11_deskNow 3 43 (by decide +kernel))
theorem dX11_deskNow_238 : decode cX11_deskNow 238 = .ok (.if_icmp .ge 66, 3) := dz_if_icmp_ge (ys2 zE_cX11_deskNow 3 46 (by decide +kernel))
theorem dX11_deskNow_241 : decode cX11_deskNow 241 = .ok (.aload_n 0, 1) := dz_aload_n_0 (y0 zE_cX11_deskNow 3 49 (by decide +kernel))
theorem dX11_deskNow_242 : decode cX11_deskNow 242 = .ok (.getfield 10, 3) := dz_getfield (yu2 zE_cX11_deskNow 3 50 (by decide +kernel))
theorem dX11_deskNow_245 : decode cX11_deskNow 245 = .ok (.iload_n 3, 1) := dz_iload_n_3 (y0 zE_cX11_deskNow 3 53 (by decide +kernel))
theorem dX11_deskNow_246 : decode cX11_deskNow 246 = .ok (.invokevirtual 90, 3) := dz_invokevirtual (yu2 zE_cX11_deskNow 3 54 (by decide +kernel))
theorem dX11_deskNow_249 : decode cX11_deskNow 249 = .ok (.checkcast 68, 3) := dz_checkcast (yu2 zE_cX11_deskNow 3 57 (by decide +kernel))
theorem dX11_deskNow_252 : decode cX11_deskNow 252 = .ok (.getfield 156, 3) := dz_getfield (yu2 zE_cX11_deskNow 3 60 (by decide +kernel))
theorem dX11_deskNow_255 : decode cX11_deskNow 255 = .ok (.astore 4, 2) := dz_astore (yu1 zE_cX11_deskNow 3 63 (by decide +kernel))
theorem dX11_deskNow_257 : decode cX11_deskNow 257 = .ok (.aload 4, 2) := dz_aload (yu1 zE_cX11_deskNow 4 1 (by decide +kernel))
theorem dX11_deskNow_259 : decode cX11_deskNow 259 = .ok (.arraylength, 1) := dz_arraylength (y0 zE_cX11_deskNow 4 3 (by decide +kernel))
theorem dX11_deskNow_260 : decode cX11_deskNow 260 = .ok (.istore 5, 2) := dz_istore (yu1 zE_cX11_deskNow 4 4 (by decide +kernel))
theorem dX11_deskNow_262 : decode cX11_deskNow 262 = .ok (.iconst 0, 1) := dz_iconst_0 (y0 zE_cX11_deskNow 4 6 (by decide +kernel))
theorem dX11_deskNow_263 : decode cX11_deskNow 263 = .ok (.istore 6, 2) := dz_istore (yu1 zE_cX11_deskNow 4 7 (by decide +kernel))
theorem dX11_deskNow_265 : decode cX11_deskNow 265 = .ok (.iload 6, 2) := dz_iload (yu1 zE_cX11_deskNow 4 9 (by decide +kernel))
theorem dX11_deskNow_267 : decode cX11_deskNow 267 = .ok (.iload 5, 2) := dz_iload (yu1 zE_cX11_deskNow 4 11 (by decide +kernel))
theorem dX11_deskNow_269 : decode cX11_deskNow 269 = .ok (.if_icmp .ge 29, 3) := dz_if_icmp_ge (ys2 zE_cX11_deskNow 4 13 (by decide +kernel))
theorem dX11_deskNow_272 : decode cX11_deskNow 272 = .ok (.aload 4, 2) := dz_aload (yu1 zE_cX11_deskNow 4 16 (by decide +kernel))
theorem dX11_deskNow_274 : decode cX11_deskNow 274 = .ok (.iload 6, 2) := dz_iload (yu1 zE_cX11_deskNow 4 18 (by decide +kernel))
theorem dX11_deskNow_276 : decode cX11_deskNow 276 = .ok (.baload, 1) := dz_baload (y0 zE_cX11_deskNow 4 20 (by decide +kernel))
theorem dX11_deskNow_277 : decode cX11_deskNow 277 = .ok (.istore 7, 2) := dz_istore (yu1 zE_cX11_deskNow 4 21 (by decide +kernel))
theorem dX11_deskNow_279 : decode cX11_deskNow 279 = .ok (.iload_n 2, 1) := dz_iload_n_2 (y0 zE_cX11_deskNow 4 23 (by decide +kernel))
theorem dX11_deskNow_280 : decode cX11_deskNow 280 = .ok (.iload 7, 2) := dz_iload (yu1 zE_cX11_deskNow 4 24 (by decide +kernel))
theorem dX11_deskNow_282 : decode cX11_deskNow 282 = .ok (.ifCond .eq 7, 3) := dz_ifCond_eq (ys2 zE_cX11_deskNow 4 26 (by decide +kernel))
theorem dX11_deskNow_285 : decode cX11_deskNow 285 = .ok (.iconst 1, 1) := dz_iconst_1 (y0 zE_cX11_deskNow 4 29 (by decide +kernel))
theorem dX11_deskNow_286 : decode cX11_deskNow 286 = .ok (.goto 4, 3) := dz_goto (ys2 zE_cX11_deskNow 4 30 (by decide +kernel))
theorem dX11_deskNow_289 : decode cX11_deskNow 289 = .ok (.iconst 0, 1) := dz_iconst_0 (y0 zE_cX11_deskNow 4 33 (by decide +kernel))
