theorem dX11_deskNow_290 : decode cX11_deskNow 290 = .ok (.iadd, 1) := dz_iadd (y0 zE_cX11_deskNow 4 34 (by decide +kernel))
theorem dX11_deskNow_291 : decode cX11_deskNow 291 = .ok (.istore_n 2, 1) := dz_istore_n_2 (y0 zE_cX11_deskNow 4 35 (by decide +kernel))
theorem dX11_deskNow_292 : decode cX11_deskNow 292 = .ok (.iinc 6 1, 3) := dz_iinc (yii zE_cX11_deskNow 4 36 (by decide +kernel))
theorem dX11_deskNow_295 : decode cX11_deskNow 295 = .ok (.goto (-30), 3) := dz_goto (ys2 zE_cX11_deskNow 4 39 (by decide +kernel))
theorem dX11_deskNow_298 : decode cX11_deskNow 298 = .ok (.iinc 3 1, 3) := dz_iinc (yii zE_cX11_deskNow 4 42 (by decide +kernel))
theorem dX11_deskNow_301 : decode cX11_deskNow 301 = .ok (.goto (-71), 3) := dz_goto (ys2 zE_cX11_deskNow 4 45 (by decide +kernel))
theorem dX11_deskNow_304 : decode cX11_deskNow 304 = .ok (.iload_n 2, 1) := dz_iload_n_2 (y0 zE_cX11_deskNow 4 48 (by decide +kernel))
theorem dX11_deskNow_305 : decode cX11_deskNow 305 = .ok (.ireturn, 1) := dz_ireturn (y0 zE_cX11_deskNow 4 49 (by decide +kernel))
theorem dX11_deskNow_306 : decode cX11_deskNow 306 = .ok (.aload_n 0, 1) := dz_aload_n_0 (y0 zE_cX11_deskNow 4 50 (by decide +kernel))
theorem dX11_deskNow_307 : decode cX11_deskNow 307 = .ok (.invokevirtual 345, 3) := dz_invokevirtual (yu2 zE_cX11_deskNow 4 51 (by decide +kernel))
theorem dX11_deskNow_310 : decode cX11_deskNow 310 = .ok (.ireturn, 1) := dz_ireturn (y0 zE_cX11_deskNow 4 54 (by decide +kernel))
theorem gd_wsX11_apart : wsX11_apart.all goodWord = true := by decide +kernel
set_option maxRecDepth 20000 in
theorem ggX11_apart_Jx4a65c_isEmpty_aae02 : GoodIn wsX11_apart wsJx4a65c_isEmpty_aae02 := gi_q gd_wsX11_apart _ [(13, 2), (60, 3)] rfl
set_option maxRecDepth 20000 in
theorem gX11_apart_Jx4a65c_isEmpty_aae02 : GoodIn wsX11_apart (wsV RX11 348 RJx4a65c yJx4a65c_isEmpty_aae02 wsJx4a65c_isEmpty_aae02) := goodIn_app (gi_q gd_wsX11_apart _ [(9, 4)] rfl) ggX11_apart_Jx4a65c_isEmpty_aae02
set_option maxRecDepth 20000 in
theorem ggX11_apart_Jx4a65c_size_8abf5 : GoodIn wsX11_apart wsJx4a65c_size_8abf5 := gi_q gd_wsX11_apart _ [(18, 1), (14, 1), (60, 3)] rfl
set_option maxRecDepth 20000 in
theorem gX11_apart_Jx4a65c_size_8abf5 : GoodIn wsX11_apart (wsV RX11 48 RJx4a65c yJx4a65c_size_8abf5 wsJx4a65c_size_8abf5) := goodIn_app (gi_q gd_wsX11_apart _ [(15, 3), (12, 1)] rfl) ggX11_apart_Jx4a65c_size_8abf5
set_option maxRecDepth 20000 in
theorem ggX11_apart_X11_weddingsOf : GoodIn wsX11_apart wsX11_weddingsOf := gi_q gd_wsX11_apart _ [(23, 4), (15, 3), (12, 1), (18, 1), (14, 1), (27, 19), (22, 1), (46, 14), (63, 12), (60, 3)] rfl
set_option maxRecDepth 20000 in
theorem gX11_apart_X11_weddingsOf : GoodIn wsX11_apart (wsV RX11 293 RX11 yX11_weddingsOf wsX11_weddingsOf) := goodIn_app (gi_q gd_wsX11_apart _ [(19, 4)] rfl) ggX11_apart_X11_weddingsOf
def zT_cX11_apart : List (List Nat) := [[3, 60, 42, 180, 0, 10, 182, 1, 92, 153, 0, 7, 3, 167, 0, 6, 17, 39, 15, 61, 3, 62, 29, 42, 180, 0, 10, 182, 0, 48, 162, 0, 32, 42, 29, 182, 1, 37, 5, 46, 54, 4, 27, 21, 4, 184, 0, 244, 60, 28, 21, 4, 184, 1, 25, 61, 132, 3, 1, 167, 255, 219, 27, 28, 100, 172], [100, 172]]
theorem zE_cX11_apart : zTab cX11_apart.data.toList zT_cX11_apart = true := by decide +kernel
theorem dX11_apart_0 : decode cX11_apart 0 = .ok (.iconst 0, 1) := dz_iconst_0 (y0 zE_cX11_apart 0 0 (by decide +kernel))
theorem dX11_apart_1 : decode cX11_apart 1 = .ok (.istore_n 1, 1) := dz_istore_n_1 (y0 zE_cX11_apart 0 1 (by decide +kernel))
theorem dX11_apart_2 : decode cX11_apart 2 = .ok (.aload_n 0, 1) := dz_aload_n_0 (y0 zE_cX11_apart 0 2 (by decide +kernel))
theorem dX11_apart_3 : decode cX11_apart 3 = .ok (.getfield 10, 3) := dz_getfield (yu2 zE_cX11_apart 0 3 (by decide +kernel))
theorem dX11_apart_6 : decode cX11_apart 6 = .ok (.invokevirtual 348, 3) := dz_invokevirtual (yu2 zE_cX11_apart 0 6 (by decide +kernel))
theorem dX11_apart_9 : decode cX11_apart 9 = .ok (.ifCond .eq 7, 3) := dz_ifCond_eq (ys2 zE_cX11_apart 0 9 (by decide +kernel))
theorem dX11_apart_12 : decode cX11_apart 12 = .ok (.iconst 0, 1) := dz_iconst_0 (y0 zE_cX11_apart 0 12 (by decide +kernel))
theorem dX11_apart_13 : decode cX11_apart 13 = .ok (.goto 6, 3) := dz_goto (ys2 zE_cX11_apart 0 13 (by decide +kernel))
theorem dX11_apart_16 : decode cX11_apart 16 = .ok (.sipush 9999, 3) := dz_sipush (ys2 zE_cX11_apart 0 16 (by decide +kernel))
theorem dX11_apart_19 : decode cX11_apart 19 = .ok (.istore_n 2, 1) := dz_istore_n_2 (y0 zE_cX11_apart 0 19 (by decide +kernel))
theorem dX11_apart_20 : decode cX11_apart 20 = .ok (.iconst 0, 1) := dz_iconst_0 (y0 zE_cX11_apart 0 20 (by decide +kernel))
theorem dX11_apart_21 : decode cX11_apart 21 = .ok (.istore_n 3, 1) := dz_istore_n_3 (y0 zE_cX11_apart 0 21 (by decide +kernel))
theorem dX11_apart_22 : decode cX11_apart 22 = .ok (.iload_n 3, 1) := dz_iload_n_3 (y0 zE_cX11_apart 0 22 (by decide +kernel))
theorem dX11_apart_23 : decode cX11_apart 23 = .ok (.aload_n 0, 1) := dz_aload_n_0 (y0 zE_cX11_apart 0 23 (by decide +kernel))
theorem dX11_apart_24 : decode cX11_apart 24 = .ok (.getfield 10, 3) := dz_getfield (yu2 zE_cX11_apart 0 24 (by decide +kernel))
theorem dX11_apart_27 : decode cX11_apart 27 = .ok (.invokevirtual 48, 3) := dz_invokevirtual (yu2 zE_cX11_apart 0 27 (by decide +kernel))
theorem dX11_apart_30 : decode cX11_apart 30 = .ok (.if_icmp .ge 32, 3) := dz_if_icmp_ge (ys2 zE_cX11_apart 0 30 (by decide +kernel))
theorem dX11_apart_33 : decode cX11_apart 33 = .ok (.aload_n 0, 1) := dz_aload_n_0 (y0 zE_cX11_apart 0 33 (by decide +kernel))
theorem dX11_apart_34 : decode cX11_apart 34 = .ok (.iload_n 3, 1) := dz_iload_n_3 (y0 zE_cX11_apart 0 34 (by decide +kernel))
theorem dX11_apart_35 : decode cX11_apart 35 = .ok (.invokevirtual 293, 3) := dz_invokevirtual (yu2 zE_cX11_apart 0 35 (by decide +kernel))
theorem dX11_apart_38 : decode cX11_apart 38 = .ok (.iconst 2, 1) := dz_iconst_2 (y0 zE_cX11_apart 0 38 (by decide +kernel))
theorem dX11_apart_39 : decode cX11_apart 39 = .ok (.iaload, 1) := dz_iaload (y0 zE_cX11_apart 0 39 (by decide +kernel))
theorem dX11_apart_40 : decode cX11_apart 40 = .ok (.istore 4, 2) := dz_istore (yu1 zE_cX11_apart 0 40 (by decide +kernel))
theorem dX11_apart_42 : decode cX11_apart 42 = .ok (.iload_n 1, 1) := dz_iload_n_1 (y0 zE_cX11_apart 0 42 (by decide +kernel))
theorem dX11_apart_43 : decode cX11_apart 43 = .ok (.iload 4, 2) := dz_iload (yu1 zE_cX11_apart 0 43 (by decide +kernel))
theorem dX11_apart_45 : decode cX11_apart 45 = .ok (.invokestatic 244, 3) := dz_invokestatic (yu2 zE_cX11_apart 0 45 (by decide +kernel))
theorem dX11_apart_48 : decode cX11_apart 48 = .ok (.istore_n 1, 1) := dz_istore_n_1 (y0 zE_cX11_apart 0 48 (by decide +kernel))
theorem dX11_apart_49 : decode cX11_apart 49 = .ok (.iload_n 2, 1) := dz_iload_n_2 (y0 zE_cX11_apart 0 49 (by decide +kernel))
theorem dX11_apart_50 : decode cX11_apart 50 = .ok (.iload 4, 2) := dz_iload (yu1 zE_cX11_apart 0 50 (by decide +kernel))
theorem dX11_apart_52 : decode cX11_apart 52 = .ok (.invokestatic 281, 3) := dz_invokestatic (yu2 zE_cX11_apart 0 52 (by decide +kernel))
theorem dX11_apart_55 : decode cX11_apart 55 = .ok (.istore_n 2, 1) := dz_istore_n_2 (y0 zE_cX11_apart 0 55 (by decide +kernel))
theorem dX11_apart_56 : decode cX11_apart 56 = .ok (.iinc 3 1, 3) := dz_iinc (yii zE_cX11_apart 0 56 (by decide +kernel))
theorem dX11_apart_59 : decode cX11_apart 59 = .ok (.goto (-37), 3) := dz_goto (ys2 zE_cX11_apart 0 59 (by decide +kernel))
theorem dX11_apart_62 : decode cX11_apart 62 = .ok (.iload_n 1, 1) := dz_iload_n_1 (y0 zE_cX11_apart 0 62 (by decide +kernel))
theorem dX11_apart_63 : decode cX11_apart 63 = .ok (.iload_n 2, 1) := dz_iload_n_2 (y0 zE_cX11_apart 0 63 (by decide +kernel))
theorem dX11_apart_64 : decode cX11_apart 64 = .ok (.isub, 1) := dz_isub (y0 zE_cX11_apart 1 0 (by decide +kernel))
theorem dX11_apart_65 : decode cX11_apart 65 = .ok (.ireturn, 1) := dz_ireturn (y0 zE_cX11_apart 1 1 (by decide +kernel))
theorem gd_wsX11_desk : wsX11_desk.all goodWord = true := by decide +kernel
set_option maxRecDepth 20000 in
theorem ggX11_desk_X11_is : GoodIn wsX11_desk wsX11_is := gi_q gd_wsX11_desk _ [(5, 1)] rfl
set_option maxRecDepth 20000 in
theorem gX11_desk_X11_is : GoodIn wsX11_desk (va_wsS RX11 52 yX11_is wsX11_is) := goodIn_app (gi_q gd_wsX11_desk _ [(2, 3)] rfl) ggX11_desk_X11_is
set_option maxRecDepth 20000 in
theorem ggX11_desk_X11_deskNow : GoodIn wsX11_desk wsX11_deskNow := gi_q gd_wsX11_desk _ [(9, 41), (4, 1), (50, 20), (74, 35)] rfl
set_option maxRecDepth 20000 in
theorem gX11_desk_X11_deskNow : GoodIn wsX11_desk (wsV RX11 351 RX11 yX11_deskNow wsX11_deskNow) := goodIn_app (gi_q gd_wsX11_desk _ [(6, 3), (4, 1)] rfl) ggX11_desk_X11_deskNow
set_option maxRecDepth 20000 in
theorem ggX11_desk_X11_refuse : GoodIn wsX11_desk wsX11_refuse := gi_q gd_wsX11_desk _ [(73, 1), (1, 1), (74, 13)] rfl
set_option maxRecDepth 20000 in
theorem gX11_desk_X11_refuse : GoodIn wsX11_desk (wsV RX11 60 RX11 yX11_refuse wsX11_refuse) := goodIn_app (gi_q gd_wsX11_desk _ [(70, 3), (4, 1)] rfl) ggX11_desk_X11_refuse
def zT_cX11_desk : List (List Nat) := [[42, 3, 181, 0, 44, 27, 3, 16, 12, 184, 0, 52, 153, 0, 11, 42, 27, 182, 1, 95, 167, 0, 8, 42, 4, 182, 0, 60, 172]]
theorem zE_cX11_desk : zTab cX11_desk.data.toList zT_cX11_desk = true := by decide +kernel
theorem dX11_desk_0 : decode cX11_desk 0 = .ok (.aload_n 0, 1) := dz_aload_n_0 (y0 zE_cX11_desk 0 0 (by decide +kernel))
theorem dX11_desk_1 : decode cX11_desk 1 = .ok (.iconst 0, 1) := dz_iconst_0 (y0 zE_cX11_desk 0 1 (by decide +kernel))
theorem dX11_desk_2 : decode cX11_desk 2 = .ok (.putfield 44, 3) := dz_putfield (yu2 zE_cX11_desk 0 2 (by decide +kernel))
theorem dX11_desk_5 : decode cX11_desk 5 = .ok (.iload_n 1, 1) := dz_iload_n_1 (y0 zE_cX11_desk 0 5 (by decide +kernel))
theorem dX11_desk_6 : decode cX11_desk 6 = .ok (.iconst 0, 1) := dz_iconst_0 (y0 zE_cX11_desk 0 6 (by decide +kernel))
theorem dX11_desk_7 : decode cX11_desk 7 = .ok (.bipush 12, 2) := dz_bipush (ys1 zE_cX11_desk 0 7 (by decide +kernel))
theorem dX11_desk_9 : decode cX11_desk 9 = .ok (.invokestatic 52, 3) := dz_invokestatic (yu2 zE_cX11_desk 0 9 (by decide +kernel))
theorem dX11_desk_12 : decode cX11_desk 12 = .ok (.ifCond .eq 11, 3) := dz_ifCond_eq (ys2 zE_cX11_desk 0 12 (by decide +kernel))
theorem dX11_desk_15 : decode cX11_desk 15 = .ok (.aload_n 0, 1) := dz_aload_n_0 (y0 zE_cX11_desk 0 15 (by decide +kernel))
theorem dX11_desk_16 : decode cX11_desk 16 = .ok (.iload_n 1, 1) := dz_iload_n_1 (y0 zE_cX11_desk 0 16 (by decide +kernel))
theorem dX11_desk_17 : decode cX11_desk 17 = .ok (.invokevirtual 351, 3) := dz_invokevirtual (yu2 zE_cX11_desk 0 17 (by decide +kernel))
theorem dX11_desk_20 : decode cX11_desk 20 = .ok (.goto 8, 3) := dz_goto (ys2 zE_cX11_desk 0 20 (by decide +kernel))
theorem dX11_desk_23 : decode cX11_desk 23 = .ok (.aload_n 0, 1) := dz_aload_n_0 (y0 zE_cX11_desk 0 23 (by decide +kernel))
theorem dX11_desk_24 : decode cX11_desk 24 = .ok (.iconst 1, 1) := dz_iconst_1 (y0 zE_cX11_desk 0 24 (by decide +kernel))
theorem dX11_desk_25 : decode cX11_desk 25 = .ok (.invokevirtual 60, 3) := dz_invokevirtual (yu2 zE_cX11_desk 0 25 (by decide +kernel))
theorem dX11_desk_28 : decode cX11_desk 28 = .ok (.ireturn, 1) := dz_ireturn (y0 zE_cX11_desk 0 28 (by decide +kernel))
theorem gd_wsX11_tell : wsX11_tell.all goodWord = true := by decide +kernel
set_option maxRecDepth 20000 in
theorem ggX11_tell_X11_isWedding : GoodIn wsX11_tell wsX11_isWedding := gi_q gd_wsX11_tell _ [(12, 1), (2, 1), (13, 8), (11, 1), (21, 1), (273, 13), (302, 3)] rfl
set_option maxRecDepth 20000 in
theorem gX11_tell_X11_isWedding : GoodIn wsX11_tell (wsV RX11 216 RX11 yX11_isWedding wsX11_isWedding) := goodIn_app (gi_q gd_wsX11_tell _ [(8, 4)] rfl) ggX11_tell_X11_isWedding
set_option maxRecDepth 20000 in
theorem ggX11_tell_Jx4a65c_get_915e3 : GoodIn wsX11_tell wsJx4a65c_get_915e3 := gi_q gd_wsX11_tell _ [(25, 1), (18, 1), (26, 11), (16, 1), (37, 2), (302, 3)] rfl
set_option maxRecDepth 20000 in
theorem gX11_tell_Jx4a65c_get_915e3 : GoodIn wsX11_tell (wsV RX11 90 RJx4a65c yJx4a65c_get_915e3 wsJx4a65c_get_915e3) := goodIn_app (gi_q gd_wsX11_tell _ [(22, 3), (16, 1)] rfl) ggX11_tell_Jx4a65c_get_915e3
set_option maxRecDepth 20000 in
theorem ggX11_tell_J4_init_da8c8 : GoodIn wsX11_tell wsJ4_init_da8c8 := gi_q gd_wsX11_tell _ [(41, 20), (298, 4)] rfl
set_option maxRecDepth 20000 in
theorem gX11_tell_J4_init_da8c8 : GoodIn wsX11_tell (wsJ4_init_da8c8) := ggX11_tell_J4_init_da8c8
set_option maxRecDepth 20000 in
theorem ggX11_tell_J4_append_bf812 : GoodIn wsX11_tell wsJ4_append_bf812 := gi_q gd_wsX11_tell _ [(64, 5), (44, 1), (69, 2), (51, 1), (71, 9), (52, 1), (80, 28), (50, 1), (108, 12), (49, 1), (120, 7), (55, 1), (127, 15), (32, 1), (142, 11), (298, 4)] rfl
set_option maxRecDepth 20000 in
theorem gX11_tell_J4_append_bf812 : GoodIn wsX11_tell (wsV RX11 336 RJ4 yJ4_append_bf812 wsJ4_append_bf812) := goodIn_app (gi_q gd_wsX11_tell _ [(61, 3), (6, 1)] rfl) ggX11_tell_J4_append_bf812
set_option maxRecDepth 20000 in
theorem ggX11_tell_J4_append_15ec4 : GoodIn wsX11_tell wsJ4_append_15ec4 := gi_q gd_wsX11_tell _ [(156, 3), (67, 1), (159, 1), (44, 1), (160, 1), (70, 1), (161, 5), (51, 1), (75, 5), (52, 1), (80, 28), (50, 1), (108, 12), (49, 1), (166, 2), (55, 1), (168, 1), (128, 14), (32, 1), (142, 1), (148, 5), (169, 27), (53, 2), (56, 5), (196, 22), (298, 4), (305, 4)] rfl
set_option maxRecDepth 20000 in
theorem gX11_tell_J4_append_15ec4 : GoodIn wsX11_tell (wsV RX11 332 RJ4 yJ4_append_15ec4 wsJ4_append_15ec4) := goodIn_app (gi_q gd_wsX11_tell _ [(153, 3), (6, 1)] rfl) ggX11_tell_J4_append_15ec4
set_option maxRecDepth 20000 in
theorem ggX11_tell_J4_toString_0e30d : GoodIn wsX11_tell wsJ4_toString_0e30d := gi_q gd_wsX11_tell _ [(221, 3), (137, 1), (224, 7), (47, 2), (179, 1), (173, 1), (178, 1), (231, 5), (44, 1), (236, 1), (51, 1), (237, 5), (6, 1), (242, 2), (67, 1), (244, 2), (70, 1), (246, 1), (116, 4), (49, 1), (52, 1), (247, 2), (100, 1), (249, 1), (102, 6), (250, 3), (50, 1), (108, 2), (92, 1), (110, 5), (253, 4), (5, 1), (257, 2), (55, 1), (259, 4), (203, 3), (132, 3), (206, 3), (139, 1), (209, 2), (32, 1), (211, 1), (263, 3), (128, 1), (151, 2), (57, 4), (266, 4), (305, 4), (298, 4)] rfl
set_option maxRecDepth 20000 in
theorem gX11_tell_J4_toString_0e30d : GoodIn wsX11_tell (wsV RX11 341 RJ4 yJ4_toString_0e30d wsJ4_toString_0e30d) := goodIn_app (gi_q gd_wsX11_tell _ [(218, 3), (6, 1)] rfl) ggX11_tell_J4_toString_0e30d
set_option maxRecDepth 20000 in
theorem ggX11_tell_Jx4a65c_size_8abf5 : GoodIn wsX11_tell wsJx4a65c_size_8abf5 := gi_q gd_wsX11_tell _ [(17, 2), (302, 3)] rfl
set_option maxRecDepth 20000 in
theorem gX11_tell_Jx4a65c_size_8abf5 : GoodIn wsX11_tell (wsV RX11 48 RJx4a65c yJx4a65c_size_8abf5 wsJx4a65c_size_8abf5) := goodIn_app (gi_q gd_wsX11_tell _ [(13, 4)] rfl) ggX11_tell_Jx4a65c_size_8abf5
set_option maxRecDepth 20000 in
theorem ggX11_tell_X11_isIn : GoodIn wsX11_tell wsX11_isIn := gi_q gd_wsX11_tell _ [(272, 1)] rfl
set_option maxRecDepth 20000 in
theorem gX11_tell_X11_isIn : GoodIn wsX11_tell (va_wsS RX11 102 yX11_isIn wsX11_isIn) := goodIn_app (gi_q gd_wsX11_tell _ [(270, 2), (11, 1)] rfl) ggX11_tell_X11_isIn
def zT_cX11_tell : List (List Nat) := [[42, 42, 27, 182, 0, 216, 153, 0, 7, 3, 167, 0, 4, 4, 181, 0, 44, 42, 180, 0, 44, 158, 0, 7, 19, 1, 67, 176, 42, 180, 0, 19, 27, 182, 0, 90, 192, 0, 122, 77, 44, 180, 0, 124, 154, 0, 9, 19, 1, 98, 167, 0, 34, 44, 180, 0, 124, 4, 160, 0, 9, 19, 1, 100, 167, 0, 20, 44], [167, 0, 20, 44, 180, 0, 124, 5, 160, 0, 9, 19, 1, 102, 167, 0, 6, 19, 1, 104, 78, 187, 1, 69, 89, 183, 1, 71, 58, 4, 25, 4, 27, 182, 1, 80, 19, 1, 106, 182, 1, 76, 44, 180, 0, 130, 182, 1, 80, 19, 1, 108, 182, 1, 76, 44, 180, 0, 143, 182, 1, 80, 19, 1, 110, 182, 1, 76], [110, 182, 1, 76, 45, 182, 1, 76, 87, 44, 180, 0, 124, 4, 159, 0, 17, 44, 180, 0, 124, 5, 159, 0, 9, 25, 4, 182, 1, 85, 176, 3, 54, 5, 3, 54, 6, 21, 6, 42, 180, 0, 10, 182, 0, 48, 162, 0, 52, 44, 180, 0, 160, 21, 6, 184, 0, 102, 154, 0, 6, 167, 0, 31, 25, 4, 21, 5], [25, 4, 21, 5, 153, 0, 9, 19, 1, 112, 167, 0, 6, 19, 1, 114, 182, 1, 76, 21, 6, 182, 1, 80, 87, 4, 54, 5, 132, 6, 1, 167, 255, 198, 25, 4, 182, 1, 85, 176]]
theorem zE_cX11_tell : zTab cX11_tell.data.toList zT_cX11_tell = true := by decide +kernel
theorem dX11_tell_0 : decode cX11_tell 0 = .ok (.aload_n 0, 1) := dz_aload_n_0 (y0 zE_cX11_tell 0 0 (by decide +kernel))
theorem dX11_tell_1 : decode cX11_tell 1 = .ok (.aload_n 0, 1) := dz_aload_n_0 (y0 zE_cX11_tell 0 1 (by decide +kernel))
theorem dX11_tell_2 : decode cX11_tell 2 = .ok (.iload_n 1, 1) := dz_iload_n_1 (y0 zE_cX11_tell 0 2 (by decide +kernel))
theorem dX11_tell_3 : decode cX11_tell 3 = .ok (.invokevirtual 216, 3) := dz_invokevirtual (yu2 zE_cX11_tell 0 3 (by decide +kernel))
theorem dX11_tell_6 : decode cX11_tell 6 = .ok (.ifCond .eq 7, 3) := dz_ifCond_eq (ys2 zE_cX11_tell 0 6 (by decide +kernel))
theorem dX11_tell_9 : decode cX11_tell 9 = .ok (.iconst 0, 1) := dz_iconst_0 (y0 zE_cX11_tell 0 9 (by decide +kernel))
theorem dX11_tell_10 : decode cX11_tell 10 = .ok (.goto 4, 3) := dz_goto (ys2 zE_cX11_tell 0 10 (by decide +kernel))
theorem dX11_tell_13 : decode cX11_tell 13 = .ok (.iconst 1, 1) := dz_iconst_1 (y0 zE_cX11_tell 0 13 (by decide +kernel))
theorem dX11_tell_14 : decode cX11_tell 14 = .ok (.putfield 44, 3) := dz_putfield (yu2 zE_cX11_tell 0 14 (by decide +kernel))
theorem dX11_tell_17 : decode cX11_tell 17 = .ok (.aload_n 0, 1) := dz_aload_n_0 (y0 zE_cX11_tell 0 17 (by decide +kernel))
theorem dX11_tell_18 : decode cX11_tell 18 = .ok (.getfield 44, 3) := dz_getfield (yu2 zE_cX11_tell 0 18 (by decide +kernel))
theorem dX11_tell_21 : decode cX11_tell 21 = .ok (.ifCond .le 7, 3) := dz_ifCond_le (ys2 zE_cX11_tell 0 21 (by decide +kernel))
theorem dX11_tell_24 : decode cX11_tell 24 = .ok (.ldc_w 323, 3) := dz_ldc_w (yu2 zE_cX11_tell 0 24 (by decide +kernel))
theorem dX11_tell_27 : decode cX11_tell 27 = .ok (.areturn, 1) := dz_areturn (y0 zE_cX11_tell 0 27 (by decide +kernel))
theorem dX11_tell_28 : decode cX11_tell 28 = .ok (.aload_n 0, 1) := dz_aload_n_0 (y0 zE_cX11_tell 0 28 (by decide +kernel))
theorem dX11_tell_29 : decode cX11_tell 29 = .ok (.getfield 19, 3) := dz_getfield (yu2 zE_cX11_tell 0 29 (by decide +kernel))
theorem dX11_tell_32 : decode cX11_tell 32 = .ok (.iload_n 1, 1) := dz_iload_n_1 (y0 zE_cX11_tell 0 32 (by decide +kernel))
theorem dX11_tell_33 : decode cX11_tell 33 = .ok (.invokevirtual 90, 3) := dz_invokevirtual (yu2 zE_cX11_tell 0 33 (by decide +kernel))
theorem dX11_tell_36 : decode cX11_tell 36 = .ok (.checkcast 122, 3) := dz_checkcast (yu2 zE_cX11_tell 0 36 (by decide +kernel))
theorem dX11_tell_39 : decode cX11_tell 39 = .ok (.astore_n 2, 1) := dz_astore_n_2 (y0 zE_cX11_tell 0 39 (by decide +kernel))
theorem dX11_tell_40 : decode cX11_tell 40 = .ok (.aload_n 2, 1) := dz_aload_n_2 (y0 zE_cX11_tell 0 40 (by decide +kernel))
theorem dX11_tell_41 : decode cX11_tell 41 = .ok (.getfield 124, 3) := dz_getfield (yu2 zE_cX11_tell 0 41 (by decide +kernel))
theorem dX11_tell_44 : decode cX11_tell 44 = .ok (.ifCond .ne 9, 3) := dz_ifCond_ne (ys2 zE_cX11_tell 0 44 (by decide +kernel))
theorem dX11_tell_47 : decode cX11_tell 47 = .ok (.ldc_w 354, 3) := dz_ldc_w (yu2 zE_cX11_tell 0 47 (by decide +kernel))
theorem dX11_tell_50 : decode cX11_tell 50 = .ok (.goto 34, 3) := dz_goto (ys2 zE_cX11_tell 0 50 (by decide +kernel))
theorem dX11_tell_53 : decode cX11_tell 53 = .ok (.aload_n 2, 1) := dz_aload_n_2 (y0 zE_cX11_tell 0 53 (by decide +kernel))
theorem dX11_tell_54 : decode cX11_tell 54 = .ok (.getfield 124, 3) := dz_getfield (yu2 zE_cX11_tell 0 54 (by decide +kernel))
theorem dX11_tell_57 : decode cX11_tell 57 = .ok (.iconst 1, 1) := dz_iconst_1 (y0 zE_cX11_tell 0 57 (by decide +kernel))
theorem dX11_tell_58 : decode cX11_tell 58 = .ok (.if_icmp .ne 9, 3) := dz_if_icmp_ne (ys2 zE_cX11_tell 0 58 (by decide +kernel))
theorem dX11_tell_61 : decode cX11_tell 61 = .ok (.ldc_w 356, 3) := dz_ldc_w (yu2 zE_cX11_tell 0 61 (by decide +kernel))
theorem dX11_tell_64 : decode cX11_tell 64 = .ok (.goto 20, 3) := dz_goto (ys2 zE_cX11_tell 1 0 (by decide +kernel))
theorem dX11_tell_67 : decode cX11_tell 67 = .ok (.aload_n 2, 1) := dz_aload_n_2 (y0 zE_cX11_tell 1 3 (by decide +kernel))
theorem dX11_tell_68 : decode cX11_tell 68 = .ok (.getfield 124, 3) := dz_getfield (yu2 zE_cX11_tell 1 4 (by decide +kernel))
theorem dX11_tell_71 : decode cX11_tell 71 = .ok (.iconst 2, 1) := dz_iconst_2 (y0 zE_cX11_tell 1 7 (by decide +kernel))
theorem dX11_tell_72 : decode cX11_tell 72 = .ok (.if_icmp .ne 9, 3) := dz_if_icmp_ne (ys2 zE_cX11_tell 1 8 (by decide +kernel))
theorem dX11_tell_75 : decode cX11_tell 75 = .ok (.ldc_w 358, 3) := dz_ldc_w (yu2 zE_cX11_tell 1 11 (by decide +kernel))
theorem dX11_tell_78 : decode cX11_tell 78 = .ok (.goto 6, 3) := dz_goto (ys2 zE_cX11_tell 1 14 (by decide +kernel))
theorem dX11_tell_81 : decode cX11_tell 81 = .ok (.ldc_w 360, 3) := dz_ldc_w (yu2 zE_cX11_tell 1 17 (by decide +kernel))
theorem dX11_tell_84 : decode cX11_tell 84 = .ok (.astore_n 3, 1) := dz_astore_n_3 (y0 zE_cX11_tell 1 20 (by decide +kernel))
theorem dX11_tell_85 : decode cX11_tell 85 = .ok (.new 325, 3) := dz_new (yu2 zE_cX11_tell 1 21 (by decide +kernel))
theorem dX11_tell_88 : decode cX11_tell 88 = .ok (.dup, 1) := dz_dup (y0 zE_cX11_tell 1 24 (by decide +kernel))
theorem dX11_tell_89 : decode cX11_tell 89 = .ok (.invokespecial 327, 3) := dz_invokespecial (yu2 zE_cX11_tell 1 25 (by decide +kernel))
theorem dX11_tell_92 : decode cX11_tell 92 = .ok (.astore 4, 2) := dz_astore (yu1 zE_cX11_tell 1 28 (by decide +kernel))
theorem dX11_tell_94 : decode cX11_tell 94 = .ok (.aload 4, 2) := dz_aload (yu1 zE_cX11_tell 1 30 (by decide +kernel))
theorem dX11_tell_96 : decode cX11_tell 96 = .ok (.iload_n 1, 1) := dz_iload_n_1 (y0 zE_cX11_tell 1 32 (by decide +kernel))
theorem dX11_tell_97 : decode cX11_tell 97 = .ok (.invokevirtual 336, 3) := dz_invokevirtual (yu2 zE_cX11_tell 1 33 (by decide +kernel))
theorem dX11_tell_100 : decode cX11_tell 100 = .ok (.ldc_w 362, 3) := dz_ldc_w (yu2 zE_cX11_tell 1 36 (by decide +kernel))
theorem dX11_tell_103 : decode cX11_tell 103 = .ok (.invokevirtual 332, 3) := dz_invokevirtual (yu2 zE_cX11_tell 1 39 (by decide +kernel))
theorem dX11_tell_106 : decode cX11_tell 106 = .ok (.aload_n 2, 1) := dz_aload_n_2 (y0 zE_cX11_tell 1 42 (by decide +kernel))
theorem dX11_tell_107 : decode cX11_tell 107 = .ok (.getfield 130, 3) := dz_getfield (yu2 zE_cX11_tell 1 43 (by decide +kernel))
theorem dX11_tell_110 : decode cX11_tell 110 = .ok (.invokevirtual 336, 3) := dz_invokevirtual (yu2 zE_cX11_tell 1 46 (by decide +kernel))
theorem dX11_tell_113 : decode cX11_tell 113 = .ok (.ldc_w 364, 3) := dz_ldc_w (yu2 zE_cX11_tell 1 49 (by decide +kernel))
theorem dX11_tell_116 : decode cX11_tell 116 = .ok (.invokevirtual 332, 3) := dz_invokevirtual (yu2 zE_cX11_tell 1 52 (by decide +kernel))
theorem dX11_tell_119 : decode cX11_tell 119 = .ok (.aload_n 2, 1) := dz_aload_n_2 (y0 zE_cX11_tell 1 55 (by decide +kernel))
theorem dX11_tell_120 : decode cX11_tell 120 = .ok (.getfield 143, 3) := dz_getfield (yu2 zE_cX11_tell 1 56 (by decide +kernel))
theorem dX11_tell_123 : decode cX11_tell 123 = .ok (.invokevirtual 336, 3) := dz_invokevirtual (yu2 zE_cX11_tell 1 59 (by decide +kernel))
theorem dX11_tell_126 : decode cX11_tell 126 = .ok (.ldc_w 366, 3) := dz_ldc_w (yu2 zE_cX11_tell 1 62 (by decide +kernel))
theorem dX11_tell_129 : decode cX11_tell 129 = .ok (.invokevirtual 332, 3) := dz_invokevirtual (yu2 zE_cX11_tell 2 1 (by decide +kernel))
theorem dX11_tell_132 : decode cX11_tell 132 = .ok (.aload_n 3, 1) := dz_aload_n_3 (y0 zE_cX11_tell 2 4 (by decide +kernel))
theorem dX11_tell_133 : decode cX11_tell 133 = .ok (.invokevirtual 332, 3) := dz_invokevirtual (yu2 zE_cX11_tell 2 5 (by decide +kernel))
theorem dX11_tell_136 : decode cX11_tell 136 = .ok (.pop, 1) := dz_pop (y0 zE_cX11_tell 2 8 (by decide +kernel))
theorem dX11_tell_137 : decode cX11_tell 137 = .ok (.aload_n 2, 1) := dz_aload_n_2 (y0 zE_cX11_tell 2 9 (by decide +kernel))
theorem dX11_tell_138 : decode cX11_tell 138 = .ok (.getfield 124, 3) := dz_getfield (yu2 zE_cX11_tell 2 10 (by decide +kernel))
theorem dX11_tell_141 : decode cX11_tell 141 = .ok (.iconst 1, 1) := dz_iconst_1 (y0 zE_cX11_tell 2 13 (by decide +kernel))
theorem dX11_tell_142 : decode cX11_tell 142 = .ok (.if_icmp .eq 17, 3) := dz_if_icmp_eq (ys2 zE_cX11_tell 2 14 (by decide +kernel))
theorem dX11_tell_145 : decode cX11_tell 145 = .ok (.aload_n 2, 1) := dz_aload_n_2 (y0 zE_cX11_tell 2 17 (by decide +kernel))
theorem dX11_tell_146 : decode cX11_tell 146 = .ok (.getfield 124, 3) := dz_getfield (yu2 zE_cX11_tell 2 18 (by decide +kernel))
theorem dX11_tell_149 : decode cX11_tell 149 = .ok (.iconst 2, 1) := dz_iconst_2 (y0 zE_cX11_tell 2 21 (by decide +kernel))
theorem dX11_tell_150 : decode cX11_tell 150 = .ok (.if_icmp .eq 9, 3) := dz_if_icmp_eq (ys2 zE_cX11_tell 2 22 (by decide +kernel))
theorem dX11_tell_153 : decode cX11_tell 153 = .ok (.aload 4, 2) := dz_aload (yu1 zE_cX11_tell 2 25 (by decide +kernel))
theorem dX11_tell_155 : decode cX11_tell 155 = .ok (.invokevirtual 341, 3) := dz_invokevirtual (yu2 zE_cX11_tell 2 27 (by decide +kernel))
theorem dX11_tell_158 : decode cX11_tell 158 = .ok (.areturn, 1) := dz_areturn (y0 zE_cX11_tell 2 30 (by decide +kernel))
theorem dX11_tell_159 : decode cX11_tell 159 = .ok (.iconst 0, 1) := dz_iconst_0 (y0 zE_cX11_tell 2 31 (by decide +kernel))
theorem dX11_tell_160 : decode cX11_tell 160 = .ok (.istore 5, 2) := dz_istore (yu1 zE_cX11_tell 2 32 (by decide +kernel))
theorem dX11_tell_162 : decode cX11_tell 162 = .ok (.iconst 0, 1) := dz_iconst_0 (y0 zE_cX11_tell 2 34 (by decide +kernel))
theorem dX11_tell_163 : decode cX11_tell 163 = .ok (.istore 6, 2) := dz_istore (yu1 zE_cX11_tell 2 35 (by decide +kernel))
theorem dX11_tell_165 : decode cX11_tell 165 = .ok (.iload 6, 2) := dz_iload (yu1 zE_cX11_tell 2 37 (by decide +kernel))
theorem dX11_tell_167 : decode cX11_tell 167 = .ok (.aload_n 0, 1) := dz_aload_n_0 (y0 zE_cX11_tell 2 39 (by decide +kernel))
theorem dX11_tell_168 : decode cX11_tell 168 = .ok (.getfield 10, 3) := dz_getfield (yu2 zE_cX11_tell 2 40 (by decide +kernel))
theorem dX11_tell_171 : decode cX11_tell 171 = .ok (.invokevirtual 48, 3) := dz_invokevirtual (yu2 zE_cX11_tell 2 43 (by decide +kernel))
theorem dX11_tell_174 : decode cX11_tell 174 = .ok (.if_icmp .ge 52, 3) := dz_if_icmp_ge (ys2 zE_cX11_tell 2 46 (by decide +kernel))
theorem dX11_tell_177 : decode cX11_tell 177 = .ok (.aload_n 2, 1) := dz_aload_n_2 (y0 zE_cX11_tell 2 49 (by decide +kernel))
theorem dX11_tell_178 : decode cX11_tell 178 = .ok (.getfield 160, 3) := dz_getfield (yu2 zE_cX11_tell 2 50 (by decide +kernel))
theorem dX11_tell_181 : decode cX11_tell 181 = .ok (.iload 6, 2) := dz_iload (yu1 zE_cX11_tell 2 53 (by decide +kernel))
theorem dX11_tell_183 : decode cX11_tell 183 = .ok (.invokestatic 102, 3) := dz_invokestatic (yu2 zE_cX11_tell 2 55 (by decide +kernel))
theorem dX11_tell_186 : decode cX11_tell 186 = .ok (.ifCond .ne 6, 3) := dz_ifCond_ne (ys2 zE_cX11_tell 2 58 (by decide +kernel))
theorem dX11_tell_189 : decode cX11_tell 189 = .ok (.goto 31, 3) := dz_goto (ys2 zE_cX11_tell 2 61 (by decide +kernel))
theorem dX11_tell_192 : decode cX11_tell 192 = .ok (.aload 4, 2) := dz_aload (yu1 zE_cX11_tell 3 0 (by decide +kernel))
theorem dX11_tell_194 : decode cX11_tell 194 = .ok (.iload 5, 2) := dz_iload (yu1 zE_cX11_tell 3 2 (by decide +kernel))
theorem dX11_tell_196 : decode cX11_tell 196 = .ok (.ifCond .eq 9, 3) := dz_ifCond_eq (ys2 zE_cX11_tell 3 4 (by decide +kernel))
theorem dX11_tell_199 : decode cX11_tell 199 = .ok (.ldc_w 368, 3) := dz_ldc_w (yu2 zE_cX11_tell 3 7 (by decide +kernel))
theorem dX11_tell_202 : decode cX11_tell 202 = .ok (.goto 6, 3) := dz_goto (ys2 zE_cX11_tell 3 10 (by decide +kernel))
theorem dX11_tell_205 : decode cX11_tell 205 = .ok (.ldc_w 370, 3) := dz_ldc_w (yu2 zE_cX11_tell 3 13 (by decide +kernel))
theorem dX11_tell_208 : decode cX11_tell 208 = .ok (.invokevirtual 332, 3) := dz_invokevirtual (yu2 zE_cX11_tell 3 16 (by decide +kernel))
theorem dX11_tell_211 : decode cX11_tell 211 = .ok (.iload 6, 2) := dz_iload (yu1 zE_cX11_tell 3 19 (by decide +kernel))
theorem dX11_tell_213 : decode cX11_tell 213 = .ok (.invokevirtual 336, 3) := dz_invokevirtual (yu2 zE_cX11_tell 3 21 (by decide +kernel))
theorem dX11_tell_216 : decode cX11_tell 216 = .ok (.pop, 1) := dz_pop (y0 zE_cX11_tell 3 24 (by decide +kernel))
theorem dX11_tell_217 : decode cX11_tell 217 = .ok (.iconst 1, 1) := dz_iconst_1 (y0 zE_cX11_tell 3 25 (by decide +kernel))
theorem dX11_tell_218 : decode cX11_tell 218 = .ok (.istore 5, 2) := dz_istore (yu1 zE_cX11_tell 3 26 (by decide +kernel))
theorem dX11_tell_220 : decode cX11_tell 220 = .ok (.iinc 6 1, 3) := dz_iinc (yii zE_cX11_tell 3 28 (by decide +kernel))
theorem dX11_tell_223 : decode cX11_tell 223 = .ok (.goto (-58), 3) := dz_goto (ys2 zE_cX11_tell 3 31 (by decide +kernel))
theorem dX11_tell_226 : decode cX11_tell 226 = .ok (.aload 4, 2) := dz_aload (yu1 zE_cX11_tell 3 34 (by decide +kernel))
theorem dX11_tell_228 : decode cX11_tell 228 = .ok (.invokevirtual 341, 3) := dz_invokevirtual (yu2 zE_cX11_tell 3 36 (by decide +kernel))
theorem dX11_tell_231 : decode cX11_tell 231 = .ok (.areturn, 1) := dz_areturn (y0 zE_cX11_tell 3 39 (by decide +kernel))
theorem gd_wsX11_wouldLose : wsX11_wouldLose.all goodWord = true := by decide +kernel
set_option maxRecDepth 20000 in
theorem ggX11_wouldLose_X11_isPlayer : GoodIn wsX11_wouldLose wsX11_isPlayer := gi_q gd_wsX11_wouldLose _ [(12, 1), (5, 1), (13, 8), (11, 1), (21, 1), (124, 13), (156, 3)] rfl
set_option maxRecDepth 20000 in
theorem gX11_wouldLose_X11_isPlayer : GoodIn wsX11_wouldLose (wsV RX11 87 RX11 yX11_isPlayer wsX11_isPlayer) := goodIn_app (gi_q gd_wsX11_wouldLose _ [(8, 4)] rfl) ggX11_wouldLose_X11_isPlayer
set_option maxRecDepth 20000 in
theorem ggX11_wouldLose_X11_refuse : GoodIn wsX11_wouldLose wsX11_refuse := gi_q gd_wsX11_wouldLose _ [(25, 1), (1, 1), (124, 13)] rfl
set_option maxRecDepth 20000 in
theorem gX11_wouldLose_X11_refuse : GoodIn wsX11_wouldLose (wsV RX11 60 RX11 yX11_refuse wsX11_refuse) := goodIn_app (gi_q gd_wsX11_wouldLose _ [(22, 3), (11, 1)] rfl) ggX11_wouldLose_X11_refuse
set_option maxRecDepth 20000 in
theorem ggX11_wouldLose_X11_isDay : GoodIn wsX11_wouldLose wsX11_isDay := gi_q gd_wsX11_wouldLose _ [(29, 2), (19, 2), (11, 1), (21, 1), (124, 13)] rfl
set_option maxRecDepth 20000 in
theorem gX11_wouldLose_X11_isDay : GoodIn wsX11_wouldLose (wsV RX11 136 RX11 yX11_isDay wsX11_isDay) := goodIn_app (gi_q gd_wsX11_wouldLose _ [(26, 3), (11, 1)] rfl) ggX11_wouldLose_X11_isDay
set_option maxRecDepth 20000 in
theorem ggX11_wouldLose_Jx4a65c_size_8abf5 : GoodIn wsX11_wouldLose wsJx4a65c_size_8abf5 := gi_q gd_wsX11_wouldLose _ [(17, 2), (156, 3)] rfl
set_option maxRecDepth 20000 in
theorem gX11_wouldLose_Jx4a65c_size_8abf5 : GoodIn wsX11_wouldLose (wsV RX11 48 RJx4a65c yJx4a65c_size_8abf5 wsJx4a65c_size_8abf5) := goodIn_app (gi_q gd_wsX11_wouldLose _ [(13, 4)] rfl) ggX11_wouldLose_Jx4a65c_size_8abf5
set_option maxRecDepth 20000 in
theorem ggX11_wouldLose_Jx4a65c_get_915e3 : GoodIn wsX11_wouldLose wsJx4a65c_get_915e3 := gi_q gd_wsX11_wouldLose _ [(34, 1), (18, 1), (35, 11), (16, 1), (46, 2), (156, 3)] rfl
set_option maxRecDepth 20000 in
theorem gX11_wouldLose_Jx4a65c_get_915e3 : GoodIn wsX11_wouldLose (wsV RX11 90 RJx4a65c yJx4a65c_get_915e3 wsJx4a65c_get_915e3) := goodIn_app (gi_q gd_wsX11_wouldLose _ [(31, 3), (16, 1)] rfl) ggX11_wouldLose_Jx4a65c_get_915e3
set_option maxRecDepth 20000 in
theorem ggX11_wouldLose_X11_illNow : GoodIn wsX11_wouldLose wsX11_illNow := gi_q gd_wsX11_wouldLose _ [(51, 1), (5, 2), (2, 1), (4, 1), (7, 1), (31, 3), (16, 1), (34, 1), (18, 1), (35, 13), (13, 3), (17, 1), (52, 2), (11, 1), (54, 83), (149, 7), (137, 12), (156, 4)] rfl
set_option maxRecDepth 20000 in
theorem gX11_wouldLose_X11_illNow : GoodIn wsX11_wouldLose (wsV RX11 249 RX11 yX11_illNow wsX11_illNow) := goodIn_app (gi_q gd_wsX11_wouldLose _ [(48, 3), (11, 1)] rfl) ggX11_wouldLose_X11_illNow
def zT_cX11_wouldLose : List (List Nat) := [[42, 3, 181, 0, 44, 42, 27, 182, 0, 87, 154, 0, 9, 42, 4, 182, 0, 60, 172, 42, 28, 182, 0, 136, 154, 0, 9, 42, 5, 182, 0, 60, 172, 42, 180, 0, 19, 182, 0, 48, 188, 10, 78, 42, 180, 0, 19, 182, 0, 48, 188, 10, 58, 4, 42, 180, 0, 19, 182, 0, 48, 188, 10, 58, 5, 3, 54, 6], [5, 3, 54, 6, 21, 6, 45, 190, 162, 0, 68, 45, 21, 6, 42, 180, 0, 19, 21, 6, 182, 0, 90, 192, 0, 122, 180, 0, 160, 79, 25, 4, 21, 6, 42, 180, 0, 19, 21, 6, 182, 0, 90, 192, 0, 122, 180, 0, 124, 79, 25, 5, 21, 6, 42, 180, 0, 19, 21, 6, 182, 0, 90, 192, 0, 122, 180, 0], [0, 122, 180, 0, 210, 79, 132, 6, 1, 167, 255, 187, 42, 180, 0, 10, 27, 182, 0, 90, 192, 0, 68, 180, 0, 156, 28, 51, 54, 6, 42, 180, 0, 213, 54, 7, 42, 27, 28, 182, 0, 249, 54, 8, 42, 180, 0, 10, 27, 182, 0, 90, 192, 0, 68, 180, 0, 156, 28, 21, 6, 84, 42, 21, 7, 181, 0, 213], [7, 181, 0, 213, 3, 54, 9, 21, 9, 45, 190, 162, 0, 68, 42, 180, 0, 19, 21, 9, 182, 0, 90, 192, 0, 122, 45, 21, 9, 46, 181, 0, 160, 42, 180, 0, 19, 21, 9, 182, 0, 90, 192, 0, 122, 25, 4, 21, 9, 46, 181, 0, 124, 42, 180, 0, 19, 21, 9, 182, 0, 90, 192, 0, 122, 25, 5, 21], [122, 25, 5, 21, 9, 46, 181, 0, 210, 132, 9, 1, 167, 255, 187, 21, 8, 172]]
theorem zE_cX11_wouldLose : zTab cX11_wouldLose.data.toList zT_cX11_wouldLose = true := by decide +kernel
theorem dX11_wouldLose_0 : decode cX11_wouldLose 0 = .ok (.aload_n 0, 1) := dz_aload_n_0 (y0 zE_cX11_wouldLose 0 0 (by decide +kernel))
theorem dX11_wouldLose_1 : decode cX11_wouldLose 1 = .ok (.iconst 0, 1) := dz_iconst_0 (y0 zE_cX11_wouldLose 0 1 (by decide +kernel))
theorem dX11_wouldLose_2 : decode cX11_wouldLose 2 = .ok (.putfield 44, 3) := dz_putfield (yu2 zE_cX11_wouldLose 0 2 (by decide +kernel))
theorem dX11_wouldLose_5 : decode cX11_wouldLose 5 = .ok (.aload_n 0, 1) := dz_aload_n_0 (y0 zE_cX11_wouldLose 0 5 (by decide +kernel))
theorem dX11_wouldLose_6 : decode cX11_wouldLose 6 = .ok (.iload_n 1, 1) := dz_iload_n_1 (y0 zE_cX11_wouldLose 0 6 (by decide +kernel))
theorem dX11_wouldLose_7 : decode cX11_wouldLose 7 = .ok (.invokevirtual 87, 3) := dz_invokevirtual (yu2 zE_cX11_wouldLose 0 7 (by decide +kernel))
theorem dX11_wouldLose_10 : decode cX11_wouldLose 10 = .ok (.ifCond .ne 9, 3) := dz_ifCond_ne (ys2 zE_cX11_wouldLose 0 10 (by decide +kernel))
theorem dX11_wouldLose_13 : decode cX11_wouldLose 13 = .ok (.aload_n 0, 1) := dz_aload_n_0 (y0 zE_cX11_wouldLose 0 13 (by decide +kernel))
theorem dX11_wouldLose_14 : decode cX11_wouldLose 14 = .ok (.iconst 1, 1) := dz_iconst_1 (y0 zE_cX11_wouldLose 0 14 (by decide +kernel))
theorem dX11_wouldLose_15 : decode cX11_wouldLose 15 = .ok (.invokevirtual 60, 3) := dz_invokevirtual (yu2 zE_cX11_wouldLose 0 15 (by decide +kernel))
theorem dX11_wouldLose_18 : decode cX11_wouldLose 18 = .ok (.ireturn, 1) := dz_ireturn (y0 zE_cX11_wouldLose 0 18 (by decide +kernel))
theorem dX11_wouldLose_19 : decode cX11_wouldLose 19 = .ok (.aload_n 0, 1) := dz_aload_n_0 (y0 zE_cX11_wouldLose 0 19 (by decide +kernel))
theorem dX11_wouldLose_20 : decode cX11_wouldLose 20 = .ok (.iload_n 2, 1) := dz_iload_n_2 (y0 zE_cX11_wouldLose 0 20 (by decide +kernel))
theorem dX11_wouldLose_21 : decode cX11_wouldLose 21 = .ok (.invokevirtual 136, 3) := dz_invokevirtual (yu2 zE_cX11_wouldLose 0 21 (by decide +kernel))
theorem dX11_wouldLose_24 : decode cX11_wouldLose 24 = .ok (.ifCond .ne 9, 3) := dz_ifCond_ne (ys2 zE_cX11_wouldLose 0 24 (by decide +kernel))
theorem dX11_wouldLose_27 : decode cX11_wouldLose 27 = .ok (.aload_n 0, 1) := dz_aload_n_0 (y0 zE_cX11_wouldLose 0 27 (by decide +kernel))
theorem dX11_wouldLose_28 : decode cX11_wouldLose 28 = .ok (.iconst 2, 1) := dz_iconst_2 (y0 zE_cX11_wouldLose 0 28 (by decide +kernel))
theorem dX11_wouldLose_29 : decode cX11_wouldLose 29 = .ok (.invokevirtual 60, 3) := dz_invokevirtual (yu2 zE_cX11_wouldLose 0 29 (by decide +kernel))
theorem dX11_wouldLose_32 : decode cX11_wouldLose 32 = .ok (.ireturn, 1) := dz_ireturn (y0 zE_cX11_wouldLose 0 32 (by decide +kernel))
theorem dX11_wouldLose_33 : decode cX11_wouldLose 33 = .ok (.aload_n 0, 1) := dz_aload_n_0 (y0 zE_cX11_wouldLose 0 33 (by decide +kernel))
theorem dX11_wouldLose_34 : decode cX11_wouldLose 34 = .ok (.getfield 19, 3) := dz_getfield (yu2 zE_cX11_wouldLose 0 34 (by decide +kernel))
theorem dX11_wouldLose_37 : decode cX11_wouldLose 37 = .ok (.invokevirtual 48, 3) := dz_invokevirtual (yu2 zE_cX11_wouldLose 0 37 (by decide +kernel))
theorem dX11_wouldLose_40 : decode cX11_wouldLose 40 = .ok (.newarray .int, 2) := dkT (by decide +kernel)
theorem dX11_wouldLose_42 : decode cX11_wouldLose 42 = .ok (.astore_n 3, 1) := dz_astore_n_3 (y0 zE_cX11_wouldLose 0 42 (by decide +kernel))
theorem dX11_wouldLose_43 : decode cX11_wouldLose 43 = .ok (.aload_n 0, 1) := dz_aload_n_0 (y0 zE_cX11_wouldLose 0 43 (by decide +kernel))
theorem dX11_wouldLose_44 : decode cX11_wouldLose 44 = .ok (.getfield 19, 3) := dz_getfield (yu2 zE_cX11_wouldLose 0 44 (by decide +kernel))
theorem dX11_wouldLose_47 : decode cX11_wouldLose 47 = .ok (.invokevirtual 48, 3) := dz_invokevirtual (yu2 zE_cX11_wouldLose 0 47 (by decide +kernel))
theorem dX11_wouldLose_50 : decode cX11_wouldLose 50 = .ok (.newarray .int, 2) := dkT (by decide +kernel)
theorem dX11_wouldLose_52 : decode cX11_wouldLose 52 = .ok (.astore 4, 2) := dz_astore (yu1 zE_cX11_wouldLose 0 52 (by decide +kernel))
theorem dX11_wouldLose_54 : decode cX11_wouldLose 54 = .ok (.aload_n 0, 1) := dz_aload_n_0 (y0 zE_cX11_wouldLose 0 54 (by decide +kernel))
theorem dX11_wouldLose_55 : decode cX11_wouldLose 55 = .ok (.getfield 19, 3) := dz_getfield (yu2 zE_cX11_wouldLose 0 55 (by decide +kernel))
theorem dX11_wouldLose_58 : decode cX11_wouldLose 58 = .ok (.invokevirtual 48, 3) := dz_invokevirtual (yu2 zE_cX11_wouldLose 0 58 (by decide +kernel))
theorem dX11_wouldLose_61 : decode cX11_wouldLose 61 = .ok (.newarray .int, 2) := dkT (by decide +kernel)
theorem dX11_wouldLose_63 : decode cX11_wouldLose 63 = .ok (.astore 5, 2) := dz_astore (yu1 zE_cX11_wouldLose 0 63 (by decide +kernel))
theorem dX11_wouldLose_65 : decode cX11_wouldLose 65 = .ok (.iconst 0, 1) := dz_iconst_0 (y0 zE_cX11_wouldLose 1 1 (by decide +kernel))
theorem dX11_wouldLose_66 : decode cX11_wouldLose 66 = .ok (.istore 6, 2) := dz_istore (yu1 zE_cX11_wouldLose 1 2 (by decide +kernel))
theorem dX11_wouldLose_68 : decode cX11_wouldLose 68 = .ok (.iload 6, 2) := dz_iload (yu1 zE_cX11_wouldLose 1 4 (by decide +kernel))
theorem dX11_wouldLose_70 : decode cX11_wouldLose 70 = .ok (.aload_n 3, 1) := dz_aload_n_3 (y0 zE_cX11_wouldLose 1 6 (by decide +kernel))
theorem dX11_wouldLose_71 : decode cX11_wouldLose 71 = .ok (.arraylength, 1) := dz_arraylength (y0 zE_cX11_wouldLose 1 7 (by decide +kernel))
theorem dX11_wouldLose_72 : decode cX11_wouldLose 72 = .ok (.if_icmp .ge 68, 3) := dz_if_icmp_ge (ys2 zE_cX11_wouldLose 1 8 (by decide +kernel))
theorem dX11_wouldLose_75 : decode cX11_wouldLose 75 = .ok (.aload_n 3, 1) := dz_aload_n_3 (y0 zE_cX11_wouldLose 1 11 (by decide +kernel))
theorem dX11_wouldLose_76 : decode cX11_wouldLose 76 = .ok (.iload 6, 2) := dz_iload (yu1 zE_cX11_wouldLose 1 12 (by decide +kernel))
theorem dX11_wouldLose_78 : decode cX11_wouldLose 78 = .ok (.aload_n 0, 1) := dz_aload_n_0 (y0 zE_cX11_wouldLose 1 14 (by decide +kernel))
theorem dX11_wouldLose_79 : decode cX11_wouldLose 79 = .ok (.getfield 19, 3) := dz_getfield (yu2 zE_cX11_wouldLose 1 15 (by decide +kernel))
theorem dX11_wouldLose_82 : decode cX11_wouldLose 82 = .ok (.iload 6, 2) := dz_iload (yu1 zE_cX11_wouldLose 1 18 (by decide +kernel))
theorem dX11_wouldLose_84 : decode cX11_wouldLose 84 = .ok (.invokevirtual 90, 3) := dz_invokevirtual (yu2 zE_cX11_wouldLose 1 20 (by decide +kernel))
theorem dX11_wouldLose_87 : decode cX11_wouldLose 87 = .ok (.checkcast 122, 3) := dz_checkcast (yu2 zE_cX11_wouldLose 1 23 (by decide +kernel))
theorem dX11_wouldLose_90 : decode cX11_wouldLose 90 = .ok (.getfield 160, 3) := dz_getfield (yu2 zE_cX11_wouldLose 1 26 (by decide +kernel))
theorem dX11_wouldLose_93 : decode cX11_wouldLose 93 = .ok (.iastore, 1) := dz_iastore (y0 zE_cX11_wouldLose 1 29 (by decide +kernel))
theorem dX11_wouldLose_94 : decode cX11_wouldLose 94 = .ok (.aload 4, 2) := dz_aload (yu1 zE_cX11_wouldLose 1 30 (by decide +kernel))
theorem dX11_wouldLose_96 : decode cX11_wouldLose 96 = .ok (.iload 6, 2) := dz_iload (yu1 zE_cX11_wouldLose 1 32 (by decide +kernel))
theorem dX11_wouldLose_98 : decode cX11_wouldLose 98 = .ok (.aload_n 0, 1) := dz_aload_n_0 (y0 zE_cX11_wouldLose 1 34 (by decide +kernel))
theorem dX11_wouldLose_99 : decode cX11_wouldLose 99 = .ok (.getfield 19, 3) := dz_getfield (yu2 zE_cX11_wouldLose 1 35 (by decide +kernel))
theorem dX11_wouldLose_102 : decode cX11_wouldLose 102 = .ok (.iload 6, 2) := dz_iload (yu1 zE_cX11_wouldLose 1 38 (by decide +kernel))
theorem dX11_wouldLose_104 : decode cX11_wouldLose 104 = .ok (.invokevirtual 90, 3) := dz_invokevirtual (yu2 zE_cX11_wouldLose 1 40 (by decide +kernel))
theorem dX11_wouldLose_107 : decode cX11_wouldLose 107 = .ok (.checkcast 122, 3) := dz_checkcast (yu2 zE_cX11_wouldLose 1 43 (by decide +kernel))
theorem dX11_wouldLose_110 : decode cX11_wouldLose 110 = .ok (.getfield 124, 3) := dz_getfield (yu2 zE_cX11_wouldLose 1 46 (by decide +kernel))
theorem dX11_wouldLose_113 : decode cX11_wouldLose 113 = .ok (.iastore, 1) := dz_iastore (y0 zE_cX11_wouldLose 1 49 (by decide +kernel))
theorem dX11_wouldLose_114 : decode cX11_wouldLose 114 = .ok (.aload 5, 2) := dz_aload (yu1 zE_cX11_wouldLose 1 50 (by decide +kernel))
theorem dX11_wouldLose_116 : decode cX11_wouldLose 116 = .ok (.iload 6, 2) := dz_iload (yu1 zE_cX11_wouldLose 1 52 (by decide +kernel))
theorem dX11_wouldLose_118 : decode cX11_wouldLose 118 = .ok (.aload_n 0, 1) := dz_aload_n_0 (y0 zE_cX11_wouldLose 1 54 (by decide +kernel))
theorem dX11_wouldLose_119 : decode cX11_wouldLose 119 = .ok (.getfield 19, 3) := dz_getfield (yu2 zE_cX11_wouldLose 1 55 (by decide +kernel))
theorem dX11_wouldLose_122 : decode cX11_wouldLose 122 = .ok (.iload 6, 2) := dz_iload (yu1 zE_cX11_wouldLose 1 58 (by decide +kernel))
theorem dX11_wouldLose_124 : decode cX11_wouldLose 124 = .ok (.invokevirtual 90, 3) := dz_invokevirtual (yu2 zE_cX11_wouldLose 1 60 (by decide +kernel))
theorem dX11_wouldLose_127 : decode cX11_wouldLose 127 = .ok (.checkcast 122, 3) := dz_checkcast (yu2 zE_cX11_wouldLose 1 63 (by decide +kernel))
theorem dX11_wouldLose_130 : decode cX11_wouldLose 130 = .ok (.getfield 210, 3) := dz_getfield (yu2 zE_cX11_wouldLose 2 2 (by decide +kernel))
theorem dX11_wouldLose_133 : decode cX11_wouldLose 133 = .ok (.iastore, 1) := dz_iastore (y0 zE_cX11_wouldLose 2 5 (by decide +kernel))
theorem dX11_wouldLose_134 : decode cX11_wouldLose 134 = .ok (.iinc 6 1, 3) := dz_iinc (yii zE_cX11_wouldLose 2 6 (by decide +kernel))
theorem dX11_wouldLose_137 : decode cX11_wouldLose 137 = .ok (.goto (-69), 3) := dz_goto (ys2 zE_cX11_wouldLose 2 9 (by decide +kernel))
theorem dX11_wouldLose_140 : decode cX11_wouldLose 140 = .ok (.aload_n 0, 1) := dz_aload_n_0 (y0 zE_cX11_wouldLose 2 12 (by decide +kernel))
theorem dX11_wouldLose_141 : decode cX11_wouldLose 141 = .ok (.getfield 10, 3) := dz_getfield (yu2 zE_cX11_wouldLose 2 13 (by decide +kernel))
theorem dX11_wouldLose_144 : decode cX11_wouldLose 144 = .ok (.iload_n 1, 1) := dz_iload_n_1 (y0 zE_cX11_wouldLose 2 16 (by decide +kernel))
theorem dX11_wouldLose_145 : decode cX11_wouldLose 145 = .ok (.invokevirtual 90, 3) := dz_invokevirtual (yu2 zE_cX11_wouldLose 2 17 (by decide +kernel))
theorem dX11_wouldLose_148 : decode cX11_wouldLose 148 = .ok (.checkcast 68, 3) := dz_checkcast (yu2 zE_cX11_wouldLose 2 20 (by decide +kernel))
theorem dX11_wouldLose_151 : decode cX11_wouldLose 151 = .ok (.getfield 156, 3) := dz_getfield (yu2 zE_cX11_wouldLose 2 23 (by decide +kernel))
theorem dX11_wouldLose_154 : decode cX11_wouldLose 154 = .ok (.iload_n 2, 1) := dz_iload_n_2 (y0 zE_cX11_wouldLose 2 26 (by decide +kernel))
theorem dX11_wouldLose_155 : decode cX11_wouldLose 155 = .ok (.baload, 1) := dz_baload (y0 zE_cX11_wouldLose 2 27 (by decide +kernel))
theorem dX11_wouldLose_156 : decode cX11_wouldLose 156 = .ok (.istore 6, 2) := dz_istore (yu1 zE_cX11_wouldLose 2 28 (by decide +kernel))
theorem dX11_wouldLose_158 : decode cX11_wouldLose 158 = .ok (.aload_n 0, 1) := dz_aload_n_0 (y0 zE_cX11_wouldLose 2 30 (by decide +kernel))
theorem dX11_wouldLose_159 : decode cX11_wouldLose 159 = .ok (.getfield 213, 3) := dz_getfield (yu2 zE_cX11_wouldLose 2 31 (by decide +kernel))
theorem dX11_wouldLose_162 : decode cX11_wouldLose 162 = .ok (.istore 7, 2) := dz_istore (yu1 zE_cX11_wouldLose 2 34 (by decide +kernel))
theorem dX11_wouldLose_164 : decode cX11_wouldLose 164 = .ok (.aload_n 0, 1) := dz_aload_n_0 (y0 zE_cX11_wouldLose 2 36 (by decide +kernel))
theorem dX11_wouldLose_165 : decode cX11_wouldLose 165 = .ok (.iload_n 1, 1) := dz_iload_n_1 (y0 zE_cX11_wouldLose 2 37 (by decide +kernel))
theorem dX11_wouldLose_166 : decode cX11_wouldLose 166 = .ok (.iload_n 2, 1) := dz_iload_n_2 (y0 zE_cX11_wouldLose 2 38 (by decide +kernel))
theorem dX11_wouldLose_167 : decode cX11_wouldLose 167 = .ok (.invokevirtual 249, 3) := dz_invokevirtual (yu2 zE_cX11_wouldLose 2 39 (by decide +kernel))
theorem dX11_wouldLose_170 : decode cX11_wouldLose 170 = .ok (.istore 8, 2) := dz_istore (yu1 zE_cX11_wouldLose 2 42 (by decide +kernel))
theorem dX11_wouldLose_172 : decode cX11_wouldLose 172 = .ok (.aload_n 0, 1) := dz_aload_n_0 (y0 zE_cX11_wouldLose 2 44 (by decide +kernel))
theorem dX11_wouldLose_173 : decode cX11_wouldLose 173 = .ok (.getfield 10, 3) := dz_getfield (yu2 zE_cX11_wouldLose 2 45 (by decide +kernel))
theorem dX11_wouldLose_176 : decode cX11_wouldLose 176 = .ok (.iload_n 1, 1) := dz_iload_n_1 (y0 zE_cX11_wouldLose 2 48 (by decide +kernel))
theorem dX11_wouldLose_177 : decode cX11_wouldLose 177 = .ok (.invokevirtual 90, 3) := dz_invokevirtual (yu2 zE_cX11_wouldLose 2 49 (by decide +kernel))
theorem dX11_wouldLose_180 : decode cX11_wouldLose 180 = .ok (.checkcast 68, 3) := dz_checkcast (yu2 zE_cX11_wouldLose 2 52 (by decide +kernel))
theorem dX11_wouldLose_183 : decode cX11_wouldLose 183 = .ok (.getfield 156, 3) := dz_getfield (yu2 zE_cX11_wouldLose 2 55 (by decide +kernel))
theorem dX11_wouldLose_186 : decode cX11_wouldLose 186 = .ok (.iload_n 2, 1) := dz_iload_n_2 (y0 zE_cX11_wouldLose 2 58 (by decide +kernel))
theorem dX11_wouldLose_187 : decode cX11_wouldLose 187 = .ok (.iload 6, 2) := dz_iload (yu1 zE_cX11_wouldLose 2 59 (by decide +kernel))
theorem dX11_wouldLose_189 : decode cX11_wouldLose 189 = .ok (.bastore, 1) := dz_bastore (y0 zE_cX11_wouldLose 2 61 (by decide +kernel))
theorem dX11_wouldLose_190 : decode cX11_wouldLose 190 = .ok (.aload_n 0, 1) := dz_aload_n_0 (y0 zE_cX11_wouldLose 2 62 (by decide +kernel))
theorem dX11_wouldLose_191 : decode cX11_wouldLose 191 = .ok (.iload 7, 2) := dz_iload (yu1 zE_cX11_wouldLose 2 63 (by decide +kernel))
theorem dX11_wouldLose_193 : decode cX11_wouldLose 193 = .ok (.putfield 213, 3) := dz_putfield (yu2 zE_cX11_wouldLose 3 1 (by decide +kernel))
theorem dX11_wouldLose_196 : decode cX11_wouldLose 196 = .ok (.iconst 0, 1) := dz_iconst_0 (y0 zE_cX11_wouldLose 3 4 (by decide +kernel))
theorem dX11_wouldLose_197 : decode cX11_wouldLose 197 = .ok (.istore 9, 2) := dz_istore (yu1 zE_cX11_wouldLose 3 5 (by decide +kernel))
theorem dX11_wouldLose_199 : decode cX11_wouldLose 199 = .ok (.iload 9, 2) := dz_iload (yu1 zE_cX11_wouldLose 3 7 (by decide +kernel))
theorem dX11_wouldLose_201 : decode cX11_wouldLose 201 = .ok (.aload_n 3, 1) := dz_aload_n_3 (y0 zE_cX11_wouldLose 3 9 (by decide +kernel))
theorem dX11_wouldLose_202 : decode cX11_wouldLose 202 = .ok (.arraylength, 1) := dz_arraylength (y0 zE_cX11_wouldLose 3 10 (by decide +kernel))
theorem dX11_wouldLose_203 : decode cX11_wouldLose 203 = .ok (.if_icmp .ge 68, 3) := dz_if_icmp_ge (ys2 zE_cX11_wouldLose 3 11 (by decide +kernel))
theorem dX11_wouldLose_206 : decode cX11_wouldLose 206 = .ok (.aload_n 0, 1) := dz_aload_n_0 (y0 zE_cX11_wouldLose 3 14 (by decide +kernel))
theorem dX11_wouldLose_207 : decode cX11_wouldLose 207 = .ok (.getfield 19, 3) := dz_getfield (yu2 zE_cX11_wouldLose 3 15 (by decide +kernel))
theorem dX11_wouldLose_210 : decode cX11_wouldLose 210 = .ok (.iload 9, 2) := dz_iload (yu1 zE_cX11_wouldLose 3 18 (by decide +kernel))
theorem dX11_wouldLose_212 : decode cX11_wouldLose 212 = .ok (.invokevirtual 90, 3) := dz_invokevirtual (yu2 zE_cX11_wouldLose 3 20 (by decide +kernel))
theorem dX11_wouldLose_215 : decode cX11_wouldLose 215 = .ok (.checkcast 122, 3) := dz_checkcast (yu2 zE_cX11_wouldLose 3 23 (by decide +kernel))
theorem dX11_wouldLose_218 : decode cX11_wouldLose 218 = .ok (.aload_n 3, 1) := dz_aload_n_3 (y0 zE_cX11_wouldLose 3 26 (by decide +kernel))
theorem dX11_wouldLose_219 : decode cX11_wouldLose 219 = .ok (.iload 9, 2) := dz_iload (yu1 zE_cX11_wouldLose 3 27 (by decide +kernel))
theorem dX11_wouldLose_221 : decode cX11_wouldLose 221 = .ok (.iaload, 1) := dz_iaload (y0 zE_cX11_wouldLose 3 29 (by decide +kernel))
theorem dX11_wouldLose_222 : decode cX11_wouldLose 222 = .ok (.putfield 160, 3) := dz_putfield (yu2 zE_cX11_wouldLose 3 30 (by decide +kernel))
theorem dX11_wouldLose_225 : decode cX11_wouldLose 225 = .ok (.aload_n 0, 1) := dz_aload_n_0 (y0 zE_cX11_wouldLose 3 33 (by decide +kernel))
theorem dX11_wouldLose_226 : decode cX11_wouldLose 226 = .ok (.getfield 19, 3) := dz_getfield (yu2 zE_cX11_wouldLose 3 34 (by decide +kernel))
theorem dX11_wouldLose_229 : decode cX11_wouldLose 229 = .ok (.iload 9, 2) := dz_iload (yu1 zE_cX11_wouldLose 3 37 (by decide +kernel))
theorem dX11_wouldLose_231 : decode cX11_wouldLose 231 = .ok (.invokevirtual 90, 3) := dz_invokevirtual (yu2 zE_cX11_wouldLose 3 39 (by decide +kernel))
theorem dX11_wouldLose_234 : decode cX11_wouldLose 234 = .ok (.checkcast 122, 3) := dz_checkcast (yu2 zE_cX11_wouldLose 3 42 (by decide +kernel))
theorem dX11_wouldLose_237 : decode cX11_wouldLose 237 = .ok (.aload 4, 2) := dz_aload (yu1 zE_cX11_wouldLose 3 45 (by decide +kernel))
theorem dX11_wouldLose_239 : decode cX11_wouldLose 239 = .ok (.iload 9, 2) := dz_iload (yu1 zE_cX11_wouldLose 3 47 (by decide +kernel))
theorem dX11_wouldLose_241 : decode cX11_wouldLose 241 = .ok (.iaload, 1) := dz_iaload (y0 zE_cX11_wouldLose 3 49 (by decide +kernel))
theorem dX11_wouldLose_242 : decode cX11_wouldLose 242 = .ok (.putfield 124, 3) := dz_putfield (yu2 zE_cX11_wouldLose 3 50 (by decide +kernel))
theorem dX11_wouldLose_245 : decode cX11_wouldLose 245 = .ok (.aload_n 0, 1) := dz_aload_n_0 (y0 zE_cX11_wouldLose 3 53 (by decide +kernel))
theorem dX11_wouldLose_246 : decode cX11_wouldLose 246 = .ok (.getfield 19, 3) := dz_getfield (yu2 zE_cX11_wouldLose 3 54 (by decide +kernel))
theorem dX11_wouldLose_249 : decode cX11_wouldLose 249 = .ok (.iload 9, 2) := dz_iload (yu1 zE_cX11_wouldLose 3 57 (by decide +kernel))
theorem dX11_wouldLose_251 : decode cX11_wouldLose 251 = .ok (.invokevirtual 90, 3) := dz_invokevirtual (yu2 zE_cX11_wouldLose 3 59 (by decide +kernel))
theorem dX11_wouldLose_254 : decode cX11_wouldLose 254 = .ok (.checkcast 122, 3) := dz_checkcast (yu2 zE_cX11_wouldLose 3 62 (by decide +kernel))
theorem dX11_wouldLose_257 : decode cX11_wouldLose 257 = .ok (.aload 5, 2) := dz_aload (yu1 zE_cX11_wouldLose 4 1 (by decide +kernel))
theorem dX11_wouldLose_259 : decode cX11_wouldLose 259 = .ok (.iload 9, 2) := dz_iload (yu1 zE_cX11_wouldLose 4 3 (by decide +kernel))
theorem dX11_wouldLose_261 : decode cX11_wouldLose 261 = .ok (.iaload, 1) := dz_iaload (y0 zE_cX11_wouldLose 4 5 (by decide +kernel))
theorem dX11_wouldLose_262 : decode cX11_wouldLose 262 = .ok (.putfield 210, 3) := dz_putfield (yu2 zE_cX11_wouldLose 4 6 (by decide +kernel))
theorem dX11_wouldLose_265 : decode cX11_wouldLose 265 = .ok (.iinc 9 1, 3) := dz_iinc (yii zE_cX11_wouldLose 4 9 (by decide +kernel))
theorem dX11_wouldLose_268 : decode cX11_wouldLose 268 = .ok (.goto (-69), 3) := dz_goto (ys2 zE_cX11_wouldLose 4 12 (by decide +kernel))
theorem dX11_wouldLose_271 : decode cX11_wouldLose 271 = .ok (.iload 8, 2) := dz_iload (yu1 zE_cX11_wouldLose 4 15 (by decide +kernel))
theorem dX11_wouldLose_273 : decode cX11_wouldLose 273 = .ok (.ireturn, 1) := dz_ireturn (y0 zE_cX11_wouldLose 4 17 (by decide +kernel))
theorem gd_wsX11_plan : wsX11_plan.all goodWord = true := by decide +kernel
set_option maxRecDepth 20000 in
theorem ggX11_plan_X11_is : GoodIn wsX11_plan wsX11_is := gi_q gd_wsX11_plan _ [(8, 1)] rfl
set_option maxRecDepth 20000 in
theorem gX11_plan_X11_is : GoodIn wsX11_plan (va_wsS RX11 52 yX11_is wsX11_is) := goodIn_app (gi_q gd_wsX11_plan _ [(5, 3)] rfl) ggX11_plan_X11_is
set_option maxRecDepth 20000 in
theorem ggX11_plan_X11_refuse : GoodIn wsX11_plan wsX11_refuse := gi_q gd_wsX11_plan _ [(12, 1), (1, 1), (127, 13)] rfl
set_option maxRecDepth 20000 in
theorem gX11_plan_X11_refuse : GoodIn wsX11_plan (wsV RX11 60 RX11 yX11_refuse wsX11_refuse) := goodIn_app (gi_q gd_wsX11_plan _ [(9, 3), (7, 1)] rfl) ggX11_plan_X11_refuse
set_option maxRecDepth 20000 in
theorem ggX11_plan_Jx4a65c_size_8abf5 : GoodIn wsX11_plan wsJx4a65c_size_8abf5 := gi_q gd_wsX11_plan _ [(17, 2), (152, 3)] rfl
set_option maxRecDepth 20000 in
theorem gX11_plan_Jx4a65c_size_8abf5 : GoodIn wsX11_plan (wsV RX11 48 RJx4a65c yJx4a65c_size_8abf5 wsJx4a65c_size_8abf5) := goodIn_app (gi_q gd_wsX11_plan _ [(13, 4)] rfl) ggX11_plan_Jx4a65c_size_8abf5
set_option maxRecDepth 20000 in
theorem ggX11_plan_Jx4a65c_get_915e3 : GoodIn wsX11_plan wsJx4a65c_get_915e3 := gi_q gd_wsX11_plan _ [(22, 1), (18, 1), (23, 11), (16, 1), (34, 2), (152, 3)] rfl
set_option maxRecDepth 20000 in
theorem gX11_plan_Jx4a65c_get_915e3 : GoodIn wsX11_plan (wsV RX11 90 RJx4a65c yJx4a65c_get_915e3 wsJx4a65c_get_915e3) := goodIn_app (gi_q gd_wsX11_plan _ [(19, 3), (16, 1)] rfl) ggX11_plan_Jx4a65c_get_915e3
set_option maxRecDepth 20000 in
theorem ggX11_plan_X11_place : GoodIn wsX11_plan wsX11_place := gi_q gd_wsX11_plan _ [(39, 1), (3, 2), (19, 3), (16, 1), (22, 1), (18, 1), (23, 13), (127, 28)] rfl
set_option maxRecDepth 20000 in
theorem gX11_plan_X11_place : GoodIn wsX11_plan (wsV RX11 219 RX11 yX11_place wsX11_place) := goodIn_app (gi_q gd_wsX11_plan _ [(36, 3), (7, 1)] rfl) ggX11_plan_X11_place
set_option maxRecDepth 20000 in
theorem ggX11_plan_X11_tried : GoodIn wsX11_plan wsX11_tried := gi_q gd_wsX11_plan _ [(43, 3), (3, 2), (46, 2), (7, 1), (48, 5), (19, 3), (16, 1), (22, 1), (18, 1), (23, 13), (53, 5), (13, 3), (17, 1), (58, 105)] rfl
set_option maxRecDepth 20000 in
theorem gX11_plan_X11_tried : GoodIn wsX11_plan (wsV RX11 372 RX11 yX11_tried wsX11_tried) := goodIn_app (gi_q gd_wsX11_plan _ [(40, 3), (7, 1)] rfl) ggX11_plan_X11_tried
set_option maxRecDepth 20000 in
theorem ggX11_plan_X11_isIn : GoodIn wsX11_plan wsX11_isIn := gi_q gd_wsX11_plan _ [(48, 1)] rfl
set_option maxRecDepth 20000 in
theorem gX11_plan_X11_isIn : GoodIn wsX11_plan (va_wsS RX11 102 yX11_isIn wsX11_isIn) := goodIn_app (gi_q gd_wsX11_plan _ [(46, 2), (7, 1)] rfl) ggX11_plan_X11_isIn
def zT_cX11_plan : List (List Nat) := [[42, 3, 181, 0, 44, 27, 3, 17, 1, 109, 184, 0, 52, 154, 0, 9, 42, 4, 182, 0, 60, 172, 6, 188, 10, 78, 3, 54, 4, 3, 54, 5, 21, 5, 42, 180, 0, 19, 182, 0, 48, 162, 0, 55, 21, 4, 6, 162, 0, 49, 42, 180, 0, 19, 21, 5, 182, 0, 90, 192, 0, 122, 180, 0, 130, 27, 160, 0], [130, 27, 160, 0, 24, 42, 21, 5, 182, 0, 219, 153, 0, 6, 167, 0, 12, 45, 21, 4, 21, 5, 79, 132, 4, 1, 132, 5, 1, 167, 255, 195, 3, 54, 5, 3, 54, 6, 4, 54, 7, 21, 7, 4, 21, 4, 120, 162, 0, 38, 42, 45, 21, 7, 21, 4, 182, 1, 116, 54, 8, 21, 8, 21, 6, 163, 0, 6], [6, 163, 0, 6, 167, 0, 11, 21, 8, 54, 6, 21, 7, 54, 5, 132, 7, 1, 167, 255, 215, 3, 54, 7, 3, 54, 8, 21, 8, 21, 4, 162, 0, 34, 21, 7, 21, 5, 21, 8, 184, 0, 102, 153, 0, 12, 4, 45, 21, 8, 46, 120, 167, 0, 4, 3, 128, 54, 7, 132, 8, 1, 167, 255, 221, 28, 153, 0], [221, 28, 153, 0, 8, 21, 7, 167, 0, 5, 21, 6, 172]]
theorem zE_cX11_plan : zTab cX11_plan.data.toList zT_cX11_plan = true := by decide +kernel
theorem dX11_plan_0 : decode cX11_plan 0 = .ok (.aload_n 0, 1) := dz_aload_n_0 (y0 zE_cX11_plan 0 0 (by decide +kernel))
theorem dX11_plan_1 : decode cX11_plan 1 = .ok (.iconst 0, 1) := dz_iconst_0 (y0 zE_cX11_plan 0 1 (by decide +kernel))
theorem dX11_plan_2 : decode cX11_plan 2 = .ok (.putfield 44, 3) := dz_putfield (yu2 zE_cX11_plan 0 2 (by decide +kernel))
theorem dX11_plan_5 : decode cX11_plan 5 = .ok (.iload_n 1, 1) := dz_iload_n_1 (y0 zE_cX11_plan 0 5 (by decide +kernel))
theorem dX11_plan_6 : decode cX11_plan 6 = .ok (.iconst 0, 1) := dz_iconst_0 (y0 zE_cX11_plan 0 6 (by decide +kernel))
theorem dX11_plan_7 : decode cX11_plan 7 = .ok (.sipush 365, 3) := dz_sipush (ys2 zE_cX11_plan 0 7 (by decide +kernel))
theorem dX11_plan_10 : decode cX11_plan 10 = .ok (.invokestatic 52, 3) := dz_invokestatic (yu2 zE_cX11_plan 0 10 (by decide +kernel))
theorem dX11_plan_13 : decode cX11_plan 13 = .ok (.ifCond .ne 9, 3) := dz_ifCond_ne (ys2 zE_cX11_plan 0 13 (by decide +kernel))
theorem dX11_plan_16 : decode cX11_plan 16 = .ok (.aload_n 0, 1) := dz_aload_n_0 (y0 zE_cX11_plan 0 16 (by decide +kernel))
theorem dX11_plan_17 : decode cX11_plan 17 = .ok (.iconst 1, 1) := dz_iconst_1 (y0 zE_cX11_plan 0 17 (by decide +kernel))
theorem dX11_plan_18 : decode cX11_plan 18 = .ok (.invokevirtual 60, 3) := dz_invokevirtual (yu2 zE_cX11_plan 0 18 (by decide +kernel))
theorem dX11_plan_21 : decode cX11_plan 21 = .ok (.ireturn, 1) := dz_ireturn (y0 zE_cX11_plan 0 21 (by decide +kernel))
theorem dX11_plan_22 : decode cX11_plan 22 = .ok (.iconst 3, 1) := dz_iconst_3 (y0 zE_cX11_plan 0 22 (by decide +kernel))
theorem dX11_plan_23 : decode cX11_plan 23 = .ok (.newarray .int, 2) := dkT (by decide +kernel)
theorem dX11_plan_25 : decode cX11_plan 25 = .ok (.astore_n 3, 1) := dz_astore_n_3 (y0 zE_cX11_plan 0 25 (by decide +kernel))
theorem dX11_plan_26 : decode cX11_plan 26 = .ok (.iconst 0, 1) := dz_iconst_0 (y0 zE_cX11_plan 0 26 (by decide +kernel))
theorem dX11_plan_27 : decode cX11_plan 27 = .ok (.istore 4, 2) := dz_istore (yu1 zE_cX11_plan 0 27 (by decide +kernel))
theorem dX11_plan_29 : decode cX11_plan 29 = .ok (.iconst 0, 1) := dz_iconst_0 (y0 zE_cX11_plan 0 29 (by decide +kernel))
theorem dX11_plan_30 : decode cX11_plan 30 = .ok (.istore 5, 2) := dz_istore (yu1 zE_cX11_plan 0 30 (by decide +kernel))
theorem dX11_plan_32 : decode cX11_plan 32 = .ok (.iload 5, 2) := dz_iload (yu1 zE_cX11_plan 0 32 (by decide +kernel))
theorem dX11_plan_34 : decode cX11_plan 34 = .ok (.aload_n 0, 1) := dz_aload_n_0 (y0 zE_cX11_plan 0 34 (by decide +kernel))
theorem dX11_plan_35 : decode cX11_plan 35 = .ok (.getfield 19, 3) := dz_getfield (yu2 zE_cX11_plan 0 35 (by decide +kernel))
theorem dX11_plan_38 : decode cX11_plan 38 = .ok (.invokevirtual 48, 3) := dz_invokevirtual (yu2 zE_cX11_plan 0 38 (by decide +kernel))
theorem dX11_plan_41 : decode cX11_plan 41 = .ok (.if_icmp .ge 55, 3) := dz_if_icmp_ge (ys2 zE_cX11_plan 0 41 (by decide +kernel))
theorem dX11_plan_44 : decode cX11_plan 44 = .ok (.iload 4, 2) := dz_iload (yu1 zE_cX11_plan 0 44 (by decide +kernel))
theorem dX11_plan_46 : decode cX11_plan 46 = .ok (.iconst 3, 1) := dz_iconst_3 (y0 zE_cX11_plan 0 46 (by decide +kernel))
theorem dX11_plan_47 : decode cX11_plan 47 = .ok (.if_icmp .ge 49, 3) := dz_if_icmp_ge (ys2 zE_cX11_plan 0 47 (by decide +kernel))
theorem dX11_plan_50 : decode cX11_plan 50 = .ok (.aload_n 0, 1) := dz_aload_n_0 (y0 zE_cX11_plan 0 50 (by decide +kernel))
theorem dX11_plan_51 : decode cX11_plan 51 = .ok (.getfield 19, 3) := dz_getfield (yu2 zE_cX11_plan 0 51 (by decide +kernel))
theorem dX11_plan_54 : decode cX11_plan 54 = .ok (.iload 5, 2) := dz_iload (yu1 zE_cX11_plan 0 54 (by decide +kernel))
theorem dX11_plan_56 : decode cX11_plan 56 = .ok (.invokevirtual 90, 3) := dz_invokevirtual (yu2 zE_cX11_plan 0 56 (by decide +kernel))
theorem dX11_plan_59 : decode cX11_plan 59 = .ok (.checkcast 122, 3) := dz_checkcast (yu2 zE_cX11_plan 0 59 (by decide +kernel))
theorem dX11_plan_62 : decode cX11_plan 62 = .ok (.getfield 130, 3) := dz_getfield (yu2 zE_cX11_plan 0 62 (by decide +kernel))
theorem dX11_plan_65 : decode cX11_plan 65 = .ok (.iload_n 1, 1) := dz_iload_n_1 (y0 zE_cX11_plan 1 1 (by decide +kernel))
theorem dX11_plan_66 : decode cX11_plan 66 = .ok (.if_icmp .ne 24, 3) := dz_if_icmp_ne (ys2 zE_cX11_plan 1 2 (by decide +kernel))
theorem dX11_plan_69 : decode cX11_plan 69 = .ok (.aload_n 0, 1) := dz_aload_n_0 (y0 zE_cX11_plan 1 5 (by decide +kernel))
theorem dX11_plan_70 : decode cX11_plan 70 = .ok (.iload 5, 2) := dz_iload (yu1 zE_cX11_plan 1 6 (by decide +kernel))
theorem dX11_plan_72 : decode cX11_plan 72 = .ok (.invokevirtual 219, 3) := dz_invokevirtual (yu2 zE_cX11_plan 1 8 (by decide +kernel))
theorem dX11_plan_75 : decode cX11_plan 75 = .ok (.ifCond .eq 6, 3) := dz_ifCond_eq (ys2 zE_cX11_plan 1 11 (by decide +kernel))
theorem dX11_plan_78 : decode cX11_plan 78 = .ok (.goto 12, 3) := dz_goto (ys2 zE_cX11_plan 1 14 (by decide +kernel))
theorem dX11_plan_81 : decode cX11_plan 81 = .ok (.aload_n 3, 1) := dz_aload_n_3 (y0 zE_cX11_plan 1 17 (by decide +kernel))
theorem dX11_plan_82 : decode cX11_plan 82 = .ok (.iload 4, 2) := dz_iload (yu1 zE_cX11_plan 1 18 (by decide +kernel))
theorem dX11_plan_84 : decode cX11_plan 84 = .ok (.iload 5, 2) := dz_iload (yu1 zE_cX11_plan 1 20 (by decide +kernel))
theorem dX11_plan_86 : decode cX11_plan 86 = .ok (.iastore, 1) := dz_iastore (y0 zE_cX11_plan 1 22 (by decide +kernel))
theorem dX11_plan_87 : decode cX11_plan 87 = .ok (.iinc 4 1, 3) := dz_iinc (yii zE_cX11_plan 1 23 (by decide +kernel))
theorem dX11_plan_90 : decode cX11_plan 90 = .ok (.iinc 5 1, 3) := dz_iinc (yii zE_cX11_plan 1 26 (by decide +kernel))
theorem dX11_plan_93 : decode cX11_plan 93 = .ok (.goto (-61), 3) := dz_goto (ys2 zE_cX11_plan 1 29 (by decide +kernel))
theorem dX11_plan_96 : decode cX11_plan 96 = .ok (.iconst 0, 1) := dz_iconst_0 (y0 zE_cX11_plan 1 32 (by decide +kernel))
theorem dX11_plan_97 : decode cX11_plan 97 = .ok (.istore 5, 2) := dz_istore (yu1 zE_cX11_plan 1 33 (by decide +kernel))
theorem dX11_plan_99 : decode cX11_plan 99 = .ok (.iconst 0, 1) := dz_iconst_0 (y0 zE_cX11_plan 1 35 (by decide +kernel))
theorem dX11_plan_100 : decode cX11_plan 100 = .ok (.istore 6, 2) := dz_istore (yu1 zE_cX11_plan 1 36 (by decide +kernel))
theorem dX11_plan_102 : decode cX11_plan 102 = .ok (.iconst 1, 1) := dz_iconst_1 (y0 zE_cX11_plan 1 38 (by decide +kernel))
theorem dX11_plan_103 : decode cX11_plan 103 = .ok (.istore 7, 2) := dz_istore (yu1 zE_cX11_plan 1 39 (by decide +kernel))
theorem dX11_plan_105 : decode cX11_plan 105 = .ok (.iload 7, 2) := dz_iload (yu1 zE_cX11_plan 1 41 (by decide +kernel))
theorem dX11_plan_107 : decode cX11_plan 107 = .ok (.iconst 1, 1) := dz_iconst_1 (y0 zE_cX11_plan 1 43 (by decide +kernel))
theorem dX11_plan_108 : decode cX11_plan 108 = .ok (.iload 4, 2) := dz_iload (yu1 zE_cX11_plan 1 44 (by decide +kernel))
theorem dX11_plan_110 : decode cX11_plan 110 = .ok (.ishl, 1) := dz_ishl (y0 zE_cX11_plan 1 46 (by decide +kernel))
theorem dX11_plan_111 : decode cX11_plan 111 = .ok (.if_icmp .ge 38, 3) := dz_if_icmp_ge (ys2 zE_cX11_plan 1 47 (by decide +kernel))
theorem dX11_plan_114 : decode cX11_plan 114 = .ok (.aload_n 0, 1) := dz_aload_n_0 (y0 zE_cX11_plan 1 50 (by decide +kernel))
theorem dX11_plan_115 : decode cX11_plan 115 = .ok (.aload_n 3, 1) := dz_aload_n_3 (y0 zE_cX11_plan 1 51 (by decide +kernel))
theorem dX11_plan_116 : decode cX11_plan 116 = .ok (.iload 7, 2) := dz_iload (yu1 zE_cX11_plan 1 52 (by decide +kernel))
theorem dX11_plan_118 : decode cX11_plan 118 = .ok (.iload 4, 2) := dz_iload (yu1 zE_cX11_plan 1 54 (by decide +kernel))
theorem dX11_plan_120 : decode cX11_plan 120 = .ok (.invokevirtual 372, 3) := dz_invokevirtual (yu2 zE_cX11_plan 1 56 (by decide +kernel))
theorem dX11_plan_123 : decode cX11_plan 123 = .ok (.istore 8, 2) := dz_istore (yu1 zE_cX11_plan 1 59 (by decide +kernel))
theorem dX11_plan_125 : decode cX11_plan 125 = .ok (.iload 8, 2) := dz_iload (yu1 zE_cX11_plan 1 61 (by decide +kernel))
theorem dX11_plan_127 : decode cX11_plan 127 = .ok (.iload 6, 2) := dz_iload (yu1 zE_cX11_plan 1 63 (by decide +kernel))
theorem dX11_plan_129 : decode cX11_plan 129 = .ok (.if_icmp .gt 6, 3) := dz_if_icmp_gt (ys2 zE_cX11_plan 2 1 (by decide +kernel))
theorem dX11_plan_132 : decode cX11_plan 132 = .ok (.goto 11, 3) := dz_goto (ys2 zE_cX11_plan 2 4 (by decide +kernel))
theorem dX11_plan_135 : decode cX11_plan 135 = .ok (.iload 8, 2) := dz_iload (yu1 zE_cX11_plan 2 7 (by decide +kernel))
theorem dX11_plan_137 : decode cX11_plan 137 = .ok (.istore 6, 2) := dz_istore (yu1 zE_cX11_plan 2 9 (by decide +kernel))
theorem dX11_plan_139 : decode cX11_plan 139 = .ok (.iload 7, 2) := dz_iload (yu1 zE_cX11_plan 2 11 (by decide +kernel))
theorem dX11_plan_141 : decode cX11_plan 141 = .ok (.istore 5, 2) := dz_istore (yu1 zE_cX11_plan 2 13 (by decide +kernel))
theorem dX11_plan_143 : decode cX11_plan 143 = .ok (.iinc 7 1, 3) := dz_iinc (yii zE_cX11_plan 2 15 (by decide +kernel))
theorem dX11_plan_146 : decode cX11_plan 146 = .ok (.goto (-41), 3) := dz_goto (ys2 zE_cX11_plan 2 18 (by decide +kernel))
theorem dX11_plan_149 : decode cX11_plan 149 = .ok (.iconst 0, 1) := dz_iconst_0 (y0 zE_cX11_plan 2 21 (by decide +kernel))
theorem dX11_plan_150 : decode cX11_plan 150 = .ok (.istore 7, 2) := dz_istore (yu1 zE_cX11_plan 2 22 (by decide +kernel))
theorem dX11_plan_152 : decode cX11_plan 152 = .ok (.iconst 0, 1) := dz_iconst_0 (y0 zE_cX11_plan 2 24 (by decide +kernel))
theorem dX11_plan_153 : decode cX11_plan 153 = .ok (.istore 8, 2) := dz_istore (yu1 zE_cX11_plan 2 25 (by decide +kernel))
theorem dX11_plan_155 : decode cX11_plan 155 = .ok (.iload 8, 2) := dz_iload (yu1 zE_cX11_plan 2 27 (by decide +kernel))
theorem dX11_plan_157 : decode cX11_plan 157 = .ok (.iload 4, 2) := dz_iload (yu1 zE_cX11_plan 2 29 (by decide +kernel))
theorem dX11_plan_159 : decode cX11_plan 159 = .ok (.if_icmp .ge 34, 3) := dz_if_icmp_ge (ys2 zE_cX11_plan 2 31 (by decide +kernel))
theorem dX11_plan_162 : decode cX11_plan 162 = .ok (.iload 7, 2) := dz_iload (yu1 zE_cX11_plan 2 34 (by decide +kernel))
theorem dX11_plan_164 : decode cX11_plan 164 = .ok (.iload 5, 2) := dz_iload (yu1 zE_cX11_plan 2 36 (by decide +kernel))
theorem dX11_plan_166 : decode cX11_plan 166 = .ok (.iload 8, 2) := dz_iload (yu1 zE_cX11_plan 2 38 (by decide +kernel))
theorem dX11_plan_168 : decode cX11_plan 168 = .ok (.invokestatic 102, 3) := dz_invokestatic (yu2 zE_cX11_plan 2 40 (by decide +kernel))
theorem dX11_plan_171 : decode cX11_plan 171 = .ok (.ifCond .eq 12, 3) := dz_ifCond_eq (ys2 zE_cX11_plan 2 43 (by decide +kernel))
theorem dX11_plan_174 : decode cX11_plan 174 = .ok (.iconst 1, 1) := dz_iconst_1 (y0 zE_cX11_plan 2 46 (by decide +kernel))
theorem dX11_plan_175 : decode cX11_plan 175 = .ok (.aload_n 3, 1) := dz_aload_n_3 (y0 zE_cX11_plan 2 47 (by decide +kernel))
theorem dX11_plan_176 : decode cX11_plan 176 = .ok (.iload 8, 2) := dz_iload (yu1 zE_cX11_plan 2 48 (by decide +kernel))
theorem dX11_plan_178 : decode cX11_plan 178 = .ok (.iaload, 1) := dz_iaload (y0 zE_cX11_plan 2 50 (by decide +kernel))
theorem dX11_plan_179 : decode cX11_plan 179 = .ok (.ishl, 1) := dz_ishl (y0 zE_cX11_plan 2 51 (by decide +kernel))
theorem dX11_plan_180 : decode cX11_plan 180 = .ok (.goto 4, 3) := dz_goto (ys2 zE_cX11_plan 2 52 (by decide +kernel))
theorem dX11_plan_183 : decode cX11_plan 183 = .ok (.iconst 0, 1) := dz_iconst_0 (y0 zE_cX11_plan 2 55 (by decide +kernel))
theorem dX11_plan_184 : decode cX11_plan 184 = .ok (.ior, 1) := dz_ior (y0 zE_cX11_plan 2 56 (by decide +kernel))
theorem dX11_plan_185 : decode cX11_plan 185 = .ok (.istore 7, 2) := dz_istore (yu1 zE_cX11_plan 2 57 (by decide +kernel))
theorem dX11_plan_187 : decode cX11_plan 187 = .ok (.iinc 8 1, 3) := dz_iinc (yii zE_cX11_plan 2 59 (by decide +kernel))
theorem dX11_plan_190 : decode cX11_plan 190 = .ok (.goto (-35), 3) := dz_goto (ys2 zE_cX11_plan 2 62 (by decide +kernel))
theorem dX11_plan_193 : decode cX11_plan 193 = .ok (.iload_n 2, 1) := dz_iload_n_2 (y0 zE_cX11_plan 3 1 (by decide +kernel))
theorem dX11_plan_194 : decode cX11_plan 194 = .ok (.ifCond .eq 8, 3) := dz_ifCond_eq (ys2 zE_cX11_plan 3 2 (by decide +kernel))
theorem dX11_plan_197 : decode cX11_plan 197 = .ok (.iload 7, 2) := dz_iload (yu1 zE_cX11_plan 3 5 (by decide +kernel))
theorem dX11_plan_199 : decode cX11_plan 199 = .ok (.goto 5, 3) := dz_goto (ys2 zE_cX11_plan 3 7 (by decide +kernel))
theorem dX11_plan_202 : decode cX11_plan 202 = .ok (.iload 6, 2) := dz_iload (yu1 zE_cX11_plan 3 10 (by decide +kernel))
theorem dX11_plan_204 : decode cX11_plan 204 = .ok (.ireturn, 1) := dz_ireturn (y0 zE_cX11_plan 3 12 (by decide +kernel))
theorem gd_wsX11_tried : wsX11_tried.all goodWord = true := by decide +kernel
set_option maxRecDepth 20000 in
theorem ggX11_tried_X11_isIn : GoodIn wsX11_tried wsX11_isIn := gi_q gd_wsX11_tried _ [(8, 1)] rfl
set_option maxRecDepth 20000 in
theorem gX11_tried_X11_isIn : GoodIn wsX11_tried (va_wsS RX11 102 yX11_isIn wsX11_isIn) := goodIn_app (gi_q gd_wsX11_tried _ [(5, 3)] rfl) ggX11_tried_X11_isIn
set_option maxRecDepth 20000 in
theorem ggX11_tried_X11_best : GoodIn wsX11_tried wsX11_best := gi_q gd_wsX11_tried _ [(12, 1), (3, 2), (13, 22), (7, 1), (35, 16), (5, 2), (8, 1), (51, 52), (110, 13), (135, 10), (123, 12), (145, 1)] rfl
set_option maxRecDepth 20000 in
theorem gX11_tried_X11_best : GoodIn wsX11_tried (wsV RX11 200 RX11 yX11_best wsX11_best) := goodIn_app (gi_q gd_wsX11_tried _ [(9, 3), (7, 1)] rfl) ggX11_tried_X11_best
set_option maxRecDepth 20000 in
theorem ggX11_tried_X11_fixNow : GoodIn wsX11_tried wsX11_fixNow := gi_q gd_wsX11_tried _ [(106, 1), (3, 2), (1, 1), (13, 19), (95, 3), (7, 1), (98, 1), (36, 5), (5, 2), (8, 1), (99, 4), (45, 6), (107, 38)] rfl
set_option maxRecDepth 20000 in
theorem gX11_tried_X11_fixNow : GoodIn wsX11_tried (wsV RX11 222 RX11 yX11_fixNow wsX11_fixNow) := goodIn_app (gi_q gd_wsX11_tried _ [(103, 3), (7, 1)] rfl) ggX11_tried_X11_fixNow
set_option maxRecDepth 20000 in
theorem ggX11_tried_Jx4a65c_get_915e3 : GoodIn wsX11_tried wsJx4a65c_get_915e3 := gi_q gd_wsX11_tried _ [(17, 13), (16, 1), (30, 2), (135, 3)] rfl
set_option maxRecDepth 20000 in
theorem gX11_tried_Jx4a65c_get_915e3 : GoodIn wsX11_tried (wsV RX11 90 RJx4a65c yJx4a65c_get_915e3 wsJx4a65c_get_915e3) := goodIn_app (gi_q gd_wsX11_tried _ [(13, 4)] rfl) ggX11_tried_Jx4a65c_get_915e3
def zT_cX11_tried : List (List Nat) := [[3, 54, 4, 3, 54, 5, 42, 180, 0, 213, 54, 6, 3, 54, 7, 21, 7, 29, 162, 0, 94, 28, 21, 7, 184, 0, 102, 154, 0, 6, 167, 0, 76, 42, 43, 21, 7, 46, 3, 3, 182, 0, 200, 54, 8, 21, 8, 2, 160, 0, 8, 19, 1, 120, 54, 4, 21, 8, 2, 160, 0, 6, 167, 0, 44, 42, 43, 21], [44, 42, 43, 21, 7, 46, 21, 8, 182, 0, 222, 21, 5, 4, 21, 7, 120, 128, 54, 5, 21, 4, 42, 180, 0, 19, 43, 21, 7, 46, 182, 0, 90, 192, 0, 122, 180, 0, 207, 96, 54, 4, 132, 7, 1, 167, 255, 162, 3, 54, 7, 21, 7, 29, 162, 0, 62, 21, 5, 21, 7, 184, 0, 102, 154, 0, 6, 167], [154, 0, 6, 167, 0, 43, 42, 180, 0, 19, 43, 21, 7, 46, 182, 0, 90, 192, 0, 122, 58, 8, 25, 8, 3, 181, 0, 124, 25, 8, 3, 181, 0, 160, 25, 8, 3, 181, 0, 207, 25, 8, 3, 181, 0, 210, 132, 7, 1, 167, 255, 194, 42, 21, 6, 181, 0, 213, 21, 4, 172]]
theorem zE_cX11_tried : zTab cX11_tried.data.toList zT_cX11_tried = true := by decide +kernel
theorem dX11_tried_0 : decode cX11_tried 0 = .ok (.iconst 0, 1) := dz_iconst_0 (y0 zE_cX11_tried 0 0 (by decide +kernel))
theorem dX11_tried_1 : decode cX11_tried 1 = .ok (.istore 4, 2) := dz_istore (yu1 zE_cX11_tried 0 1 (by decide +kernel))
theorem dX11_tried_3 : decode cX11_tried 3 = .ok (.iconst 0, 1) := dz_iconst_0 (y0 zE_cX11_tried 0 3 (by decide +kernel))
theorem dX11_tried_4 : decode cX11_tried 4 = .ok (.istore 5, 2) := dz_istore (yu1 zE_cX11_tried 0 4 (by decide +kernel))
theorem dX11_tried_6 : decode cX11_tried 6 = .ok (.aload_n 0, 1) := dz_aload_n_0 (y0 zE_cX11_tried 0 6 (by decide +kernel))
theorem dX11_tried_7 : decode cX11_tried 7 = .ok (.getfield 213, 3) := dz_getfield (yu2 zE_cX11_tried 0 7 (by decide +kernel))
theorem dX11_tried_10 : decode cX11_tried 10 = .ok (.istore 6, 2) := dz_istore (yu1 zE_cX11_tried 0 10 (by decide +kernel))
theorem dX11_tried_12 : decode cX11_tried 12 = .ok (.iconst 0, 1) := dz_iconst_0 (y0 zE_cX11_tried 0 12 (by decide +kernel))
theorem dX11_tried_13 : decode cX11_tried 13 = .ok (.istore 7, 2) := dz_istore (yu1 zE_cX11_tried 0 13 (by decide +kernel))
theorem dX11_tried_15 : decode cX11_tried 15 = .ok (.iload 7, 2) := dz_iload (yu1 zE_cX11_tried 0 15 (by decide +kernel))
theorem dX11_tried_17 : decode cX11_tried 17 = .ok (.iload_n 3, 1) := dz_iload_n_3 (y0 zE_cX11_tried 0 17 (by decide +kernel))
theorem dX11_tried_18 : decode cX11_tried 18 = .ok (.if_icmp .ge 94, 3) := dz_if_icmp_ge (ys2 zE_cX11_tried 0 18 (by decide +kernel))
theorem dX11_tried_21 : decode cX11_tried 21 = .ok (.iload_n 2, 1) := dz_iload_n_2 (y0 zE_cX11_tried 0 21 (by decide +kernel))
theorem dX11_tried_22 : decode cX11_tried 22 = .ok (.iload 7, 2) := dz_iload (yu1 zE_cX11_tried 0 22 (by decide +kernel))
theorem dX11_tried_24 : decode cX11_tried 24 = .ok (.invokestatic 102, 3) := dz_invokestatic (yu2 zE_cX11_tried 0 24 (by decide +kernel))
theorem dX11_tried_27 : decode cX11_tried 27 = .ok (.ifCond .ne 6, 3) := dz_ifCond_ne (ys2 zE_cX11_tried 0 27 (by decide +kernel))
theorem dX11_tried_30 : decode cX11_tried 30 = .ok (.goto 76, 3) := dz_goto (ys2 zE_cX11_tried 0 30 (by decide +kernel))
theorem dX11_tried_33 : decode cX11_tried 33 = .ok (.aload_n 0, 1) := dz_aload_n_0 (y0 zE_cX11_tried 0 33 (by decide +kernel))
theorem dX11_tried_34 : decode cX11_tried 34 = .ok (.aload_n 1, 1) := dz_aload_n_1 (y0 zE_cX11_tried 0 34 (by decide +kernel))
theorem dX11_tried_35 : decode cX11_tried 35 = .ok (.iload 7, 2) := dz_iload (yu1 zE_cX11_tried 0 35 (by decide +kernel))
theorem dX11_tried_37 : decode cX11_tried 37 = .ok (.iaload, 1) := dz_iaload (y0 zE_cX11_tried 0 37 (by decide +kernel))
theorem dX11_tried_38 : decode cX11_tried 38 = .ok (.iconst 0, 1) := dz_iconst_0 (y0 zE_cX11_tried 0 38 (by decide +kernel))
theorem dX11_tried_39 : decode cX11_tried 39 = .ok (.iconst 0, 1) := dz_iconst_0 (y0 zE_cX11_tried 0 39 (by decide +kernel))
theorem dX11_tried_40 : decode cX11_tried 40 = .ok (.invokevirtual 200, 3) := dz_invokevirtual (yu2 zE_cX11_tried 0 40 (by decide +kernel))
theorem dX11_tried_43 : decode cX11_tried 43 = .ok (.istore 8, 2) := dz_istore (yu1 zE_cX11_tried 0 43 (by decide +kernel))
theorem dX11_tried_45 : decode cX11_tried 45 = .ok (.iload 8, 2) := dz_iload (yu1 zE_cX11_tried 0 45 (by decide +kernel))
theorem dX11_tried_47 : decode cX11_tried 47 = .ok (.iconst (-1), 1) := dz_iconst_m1 (y0 zE_cX11_tried 0 47 (by decide +kernel))
theorem dX11_tried_48 : decode cX11_tried 48 = .ok (.if_icmp .ne 8, 3) := dz_if_icmp_ne (ys2 zE_cX11_tried 0 48 (by decide +kernel))
theorem dX11_tried_51 : decode cX11_tried 51 = .ok (.ldc_w 376, 3) := dz_ldc_w (yu2 zE_cX11_tried 0 51 (by decide +kernel))
theorem dX11_tried_54 : decode cX11_tried 54 = .ok (.istore 4, 2) := dz_istore (yu1 zE_cX11_tried 0 54 (by decide +kernel))
theorem dX11_tried_56 : decode cX11_tried 56 = .ok (.iload 8, 2) := dz_iload (yu1 zE_cX11_tried 0 56 (by decide +kernel))
theorem dX11_tried_58 : decode cX11_tried 58 = .ok (.iconst (-1), 1) := dz_iconst_m1 (y0 zE_cX11_tried 0 58 (by decide +kernel))
theorem dX11_tried_59 : decode cX11_tried 59 = .ok (.if_icmp .ne 6, 3) := dz_if_icmp_ne (ys2 zE_cX11_tried 0 59 (by decide +kernel))
theorem dX11_tried_62 : decode cX11_tried 62 = .ok (.goto 44, 3) := dz_goto (ys2 zE_cX11_tried 0 62 (by decide +kernel))
theorem dX11_tried_65 : decode cX11_tried 65 = .ok (.aload_n 0, 1) := dz_aload_n_0 (y0 zE_cX11_tried 1 1 (by decide +kernel))
theorem dX11_tried_66 : decode cX11_tried 66 = .ok (.aload_n 1, 1) := dz_aload_n_1 (y0 zE_cX11_tried 1 2 (by decide +kernel))
theorem dX11_tried_67 : decode cX11_tried 67 = .ok (.iload 7, 2) := dz_iload (yu1 zE_cX11_tried 1 3 (by decide +kernel))
theorem dX11_tried_69 : decode cX11_tried 69 = .ok (.iaload, 1) := dz_iaload (y0 zE_cX11_tried 1 5 (by decide +kernel))
theorem dX11_tried_70 : decode cX11_tried 70 = .ok (.iload 8, 2) := dz_iload (yu1 zE_cX11_tried 1 6 (by decide +kernel))
theorem dX11_tried_72 : decode cX11_tried 72 = .ok (.invokevirtual 222, 3) := dz_invokevirtual (yu2 zE_cX11_tried 1 8 (by decide +kernel))
theorem dX11_tried_75 : decode cX11_tried 75 = .ok (.iload 5, 2) := dz_iload (yu1 zE_cX11_tried 1 11 (by decide +kernel))
theorem dX11_tried_77 : decode cX11_tried 77 = .ok (.iconst 1, 1) := dz_iconst_1 (y0 zE_cX11_tried 1 13 (by decide +kernel))
theorem dX11_tried_78 : decode cX11_tried 78 = .ok (.iload 7, 2) := dz_iload (yu1 zE_cX11_tried 1 14 (by decide +kernel))
theorem dX11_tried_80 : decode cX11_tried 80 = .ok (.ishl, 1) := dz_ishl (y0 zE_cX11_tried 1 16 (by decide +kernel))
theorem dX11_tried_81 : decode cX11_tried 81 = .ok (.ior, 1) := dz_ior (y0 zE_cX11_tried 1 17 (by decide +kernel))
theorem dX11_tried_82 : decode cX11_tried 82 = .ok (.istore 5, 2) := dz_istore (yu1 zE_cX11_tried 1 18 (by decide +kernel))
theorem dX11_tried_84 : decode cX11_tried 84 = .ok (.iload 4, 2) := dz_iload (yu1 zE_cX11_tried 1 20 (by decide +kernel))
theorem dX11_tried_86 : decode cX11_tried 86 = .ok (.aload_n 0, 1) := dz_aload_n_0 (y0 zE_cX11_tried 1 22 (by decide +kernel))
theorem dX11_tried_87 : decode cX11_tried 87 = .ok (.getfield 19, 3) := dz_getfield (yu2 zE_cX11_tried 1 23 (by decide +kernel))
theorem dX11_tried_90 : decode cX11_tried 90 = .ok (.aload_n 1, 1) := dz_aload_n_1 (y0 zE_cX11_tried 1 26 (by decide +kernel))
theorem dX11_tried_91 : decode cX11_tried 91 = .ok (.iload 7, 2) := dz_iload (yu1 zE_cX11_tried 1 27 (by decide +kernel))
theorem dX11_tried_93 : decode cX11_tried 93 = .ok (.iaload, 1) := dz_iaload (y0 zE_cX11_tried 1 29 (by decide +kernel))
theorem dX11_tried_94 : decode cX11_tried 94 = .ok (.invokevirtual 90, 3) := dz_invokevirtual (yu2 zE_cX11_tried 1 30 (by decide +kernel))
theorem dX11_tried_97 : decode cX11_tried 97 = .ok (.checkcast 122, 3) := dz_checkcast (yu2 zE_cX11_tried 1 33 (by decide +kernel))
theorem dX11_tried_100 : decode cX11_tried 100 = .ok (.getfield 207, 3) := dz_getfield (yu2 zE_cX11_tried 1 36 (by decide +kernel))
theorem dX11_tried_103 : decode cX11_tried 103 = .ok (.iadd, 1) := dz_iadd (y0 zE_cX11_tried 1 39 (by decide +kernel))
theorem dX11_tried_104 : decode cX11_tried 104 = .ok (.istore 4, 2) := dz_istore (yu1 zE_cX11_tried 1 40 (by decide +kernel))
theorem dX11_tried_106 : decode cX11_tried 106 = .ok (.iinc 7 1, 3) := dz_iinc (yii zE_cX11_tried 1 42 (by decide +kernel))
theorem dX11_tried_109 : decode cX11_tried 109 = .ok (.goto (-94), 3) := dz_goto (ys2 zE_cX11_tried 1 45 (by decide +kernel))
theorem dX11_tried_112 : decode cX11_tried 112 = .ok (.iconst 0, 1) := dz_iconst_0 (y0 zE_cX11_tried 1 48 (by decide +kernel))
theorem dX11_tried_113 : decode cX11_tried 113 = .ok (.istore 7, 2) := dz_istore (yu1 zE_cX11_tried 1 49 (by decide +kernel))
theorem dX11_tried_115 : decode cX11_tried 115 = .ok (.iload 7, 2) := dz_iload (yu1 zE_cX11_tried 1 51 (by decide +kernel))
theorem dX11_tried_117 : decode cX11_tried 117 = .ok (.iload_n 3, 1) := dz_iload_n_3 (y0 zE_cX11_tried 1 53 (by decide +kernel))
theorem dX11_tried_118 : decode cX11_tried 118 = .ok (.if_icmp .ge 62, 3) := dz_if_icmp_ge (ys2 zE_cX11_tried 1 54 (by decide +kernel))
theorem dX11_tried_121 : decode cX11_tried 121 = .ok (.iload 5, 2) := dz_iload (yu1 zE_cX11_tried 1 57 (by decide +kernel))
theorem dX11_tried_123 : decode cX11_tried 123 = .ok (.iload 7, 2) := dz_iload (yu1 zE_cX11_tried 1 59 (by decide +kernel))
theorem dX11_tried_125 : decode cX11_tried 125 = .ok (.invokestatic 102, 3) := dz_invokestatic (yu2 zE_cX11_tried 1 61 (by decide +kernel))
theorem dX11_tried_128 : decode cX11_tried 128 = .ok (.ifCond .ne 6, 3) := dz_ifCond_ne (ys2 zE_cX11_tried 2 0 (by decide +kernel))
theorem dX11_tried_131 : decode cX11_tried 131 = .ok (.goto 43, 3) := dz_goto (ys2 zE_cX11_tried 2 3 (by decide +kernel))
theorem dX11_tried_134 : decode cX11_tried 134 = .ok (.aload_n 0, 1) := dz_aload_n_0 (y0 zE_cX11_tried 2 6 (by decide +kernel))
theorem dX11_tried_135 : decode cX11_tried 135 = .ok (.getfield 19, 3) := dz_getfield (yu2 zE_cX11_tried 2 7 (by decide +kernel))
theorem dX11_tried_138 : decode cX11_tried 138 = .ok (.aload_n 1, 1) := dz_aload_n_1 (y0 zE_cX11_tried 2 10 (by decide +kernel))
theorem dX11_tried_139 : decode cX11_tried 139 = .ok (.iload 7, 2) := dz_iload (yu1 zE_cX11_tried 2 11 (by decide +kernel))
theorem dX11_tried_141 : decode cX11_tried 141 = .ok (.iaload, 1) := dz_iaload (y0 zE_cX11_tried 2 13 (by decide +kernel))
theorem dX11_tried_142 : decode cX11_tried 142 = .ok (.invokevirtual 90, 3) := dz_invokevirtual (yu2 zE_cX11_tried 2 14 (by decide +kernel))
theorem dX11_tried_145 : decode cX11_tried 145 = .ok (.checkcast 122, 3) := dz_checkcast (yu2 zE_cX11_tried 2 17 (by decide +kernel))
theorem dX11_tried_148 : decode cX11_tried 148 = .ok (.astore 8, 2) := dz_astore (yu1 zE_cX11_tried 2 20 (by decide +kernel))
theorem dX11_tried_150 : decode cX11_tried 150 = .ok (.aload 8, 2) := dz_aload (yu1 zE_cX11_tried 2 22 (by decide +kernel))
theorem dX11_tried_152 : decode cX11_tried 152 = .ok (.iconst 0, 1) := dz_iconst_0 (y0 zE_cX11_tried 2 24 (by decide +kernel))
theorem dX11_tried_153 : decode cX11_tried 153 = .ok (.putfield 124, 3) := dz_putfield (yu2 zE_cX11_tried 2 25 (by decide +kernel))
theorem dX11_tried_156 : decode cX11_tried 156 = .ok (.aload 8, 2) := dz_aload (yu1 zE_cX11_tried 2 28 (by decide +kernel))
theorem dX11_tried_158 : decode cX11_tried 158 = .ok (.iconst 0, 1) := dz_iconst_0 (y0 zE_cX11_tried 2 30 (by decide +kernel))
theorem dX11_tried_159 : decode cX11_tried 159 = .ok (.putfield 160, 3) := dz_putfield (yu2 zE_cX11_tried 2 31 (by decide +kernel))
theorem dX11_tried_162 : decode cX11_tried 162 = .ok (.aload 8, 2) := dz_aload (yu1 zE_cX11_tried 2 34 (by decide +kernel))
theorem dX11_tried_164 : decode cX11_tried 164 = .ok (.iconst 0, 1) := dz_iconst_0 (y0 zE_cX11_tried 2 36 (by decide +kernel))
theorem dX11_tried_165 : decode cX11_tried 165 = .ok (.putfield 207, 3) := dz_putfield (yu2 zE_cX11_tried 2 37 (by decide +kernel))
theorem dX11_tried_168 : decode cX11_tried 168 = .ok (.aload 8, 2) := dz_aload (yu1 zE_cX11_tried 2 40 (by decide +kernel))
theorem dX11_tried_170 : decode cX11_tried 170 = .ok (.iconst 0, 1) := dz_iconst_0 (y0 zE_cX11_tried 2 42 (by decide +kernel))
theorem dX11_tried_171 : decode cX11_tried 171 = .ok (.putfield 210, 3) := dz_putfield (yu2 zE_cX11_tried 2 43 (by decide +kernel))
theorem dX11_tried_174 : decode cX11_tried 174 = .ok (.iinc 7 1, 3) := dz_iinc (yii zE_cX11_tried 2 46 (by decide +kernel))
theorem dX11_tried_177 : decode cX11_tried 177 = .ok (.goto (-62), 3) := dz_goto (ys2 zE_cX11_tried 2 49 (by decide +kernel))
theorem dX11_tried_180 : decode cX11_tried 180 = .ok (.aload_n 0, 1) := dz_aload_n_0 (y0 zE_cX11_tried 2 52 (by decide +kernel))
theorem dX11_tried_181 : decode cX11_tried 181 = .ok (.iload 6, 2) := dz_iload (yu1 zE_cX11_tried 2 53 (by decide +kernel))
theorem dX11_tried_183 : decode cX11_tried 183 = .ok (.putfield 213, 3) := dz_putfield (yu2 zE_cX11_tried 2 55 (by decide +kernel))
theorem dX11_tried_186 : decode cX11_tried 186 = .ok (.iload 4, 2) := dz_iload (yu1 zE_cX11_tried 2 58 (by decide +kernel))
theorem dX11_tried_188 : decode cX11_tried 188 = .ok (.ireturn, 1) := dz_ireturn (y0 zE_cX11_tried 2 60 (by decide +kernel))
theorem gd_wsX11_wouldCancel : wsX11_wouldCancel.all goodWord = true := by decide +kernel
set_option maxRecDepth 20000 in
theorem ggX11_wouldCancel_X11_isWedding : GoodIn wsX11_wouldCancel wsX11_isWedding := gi_q gd_wsX11_wouldCancel _ [(12, 1), (2, 1), (13, 8), (11, 1), (21, 1), (85, 13), (110, 3)] rfl
set_option maxRecDepth 20000 in
theorem gX11_wouldCancel_X11_isWedding : GoodIn wsX11_wouldCancel (wsV RX11 216 RX11 yX11_isWedding wsX11_isWedding) := goodIn_app (gi_q gd_wsX11_wouldCancel _ [(8, 4)] rfl) ggX11_wouldCancel_X11_isWedding
set_option maxRecDepth 20000 in
theorem ggX11_wouldCancel_X11_refuse : GoodIn wsX11_wouldCancel wsX11_refuse := gi_q gd_wsX11_wouldCancel _ [(25, 1), (1, 1), (85, 13)] rfl
set_option maxRecDepth 20000 in
theorem gX11_wouldCancel_X11_refuse : GoodIn wsX11_wouldCancel (wsV RX11 60 RX11 yX11_refuse wsX11_refuse) := goodIn_app (gi_q gd_wsX11_wouldCancel _ [(22, 3), (11, 1)] rfl) ggX11_wouldCancel_X11_refuse
set_option maxRecDepth 20000 in
theorem ggX11_wouldCancel_Jx4a65c_get_915e3 : GoodIn wsX11_wouldCancel wsJx4a65c_get_915e3 := gi_q gd_wsX11_wouldCancel _ [(29, 1), (18, 1), (30, 11), (16, 1), (41, 2), (110, 3)] rfl
set_option maxRecDepth 20000 in
theorem gX11_wouldCancel_Jx4a65c_get_915e3 : GoodIn wsX11_wouldCancel (wsV RX11 90 RJx4a65c yJx4a65c_get_915e3 wsJx4a65c_get_915e3) := goodIn_app (gi_q gd_wsX11_wouldCancel _ [(26, 3), (16, 1)] rfl) ggX11_wouldCancel_Jx4a65c_get_915e3
set_option maxRecDepth 20000 in
theorem ggX11_wouldCancel_X11_owed : GoodIn wsX11_wouldCancel wsX11_owed := gi_q gd_wsX11_wouldCancel _ [(46, 2), (98, 12), (85, 13)] rfl
set_option maxRecDepth 20000 in
theorem gX11_wouldCancel_X11_owed : GoodIn wsX11_wouldCancel (wsV RX11 240 RX11 yX11_owed wsX11_owed) := goodIn_app (gi_q gd_wsX11_wouldCancel _ [(43, 3), (11, 1)] rfl) ggX11_wouldCancel_X11_owed
set_option maxRecDepth 20000 in
theorem ggX11_wouldCancel_X11_gain : GoodIn wsX11_wouldCancel wsX11_gain := gi_q gd_wsX11_wouldCancel _ [(51, 12), (6, 1), (63, 4), (11, 1), (67, 2), (13, 6), (69, 3), (26, 17), (72, 13), (98, 12), (85, 13), (113, 7), (110, 3)] rfl
set_option maxRecDepth 20000 in
theorem gX11_wouldCancel_X11_gain : GoodIn wsX11_wouldCancel (wsV RX11 264 RX11 yX11_gain wsX11_gain) := goodIn_app (gi_q gd_wsX11_wouldCancel _ [(48, 3), (11, 1)] rfl) ggX11_wouldCancel_X11_gain
def zT_cX11_wouldCancel : List (List Nat) := [[42, 3, 181, 0, 44, 42, 27, 182, 0, 216, 154, 0, 9, 42, 4, 182, 0, 60, 172, 42, 180, 0, 19, 27, 182, 0, 90, 192, 0, 122, 77, 44, 180, 0, 124, 4, 160, 0, 26, 3, 42, 44, 182, 0, 240, 44, 180, 0, 210, 100, 184, 0, 244, 42, 44, 182, 1, 8, 100, 167, 0, 8, 42, 5, 182, 0, 60, 172], [182, 0, 60, 172]]
theorem zE_cX11_wouldCancel : zTab cX11_wouldCancel.data.toList zT_cX11_wouldCancel = true := by decide +kernel
theorem dX11_wouldCancel_0 : decode cX11_wouldCancel 0 = .ok (.aload_n 0, 1) := dz_aload_n_0 (y0 zE_cX11_wouldCancel 0 0 (by decide +kernel))
theorem dX11_wouldCancel_1 : decode cX11_wouldCancel 1 = .ok (.iconst 0, 1) := dz_iconst_0 (y0 zE_cX11_wouldCancel 0 1 (by decide +kernel))
theorem dX11_wouldCancel_2 : decode cX11_wouldCancel 2 = .ok (.putfield 44, 3) := dz_putfield (yu2 zE_cX11_wouldCancel 0 2 (by decide +kernel))
theorem dX11_wouldCancel_5 : decode cX11_wouldCancel 5 = .ok (.aload_n 0, 1) := dz_aload_n_0 (y0 zE_cX11_wouldCancel 0 5 (by decide +kernel))
theorem dX11_wouldCancel_6 : decode cX11_wouldCancel 6 = .ok (.iload_n 1, 1) := dz_iload_n_1 (y0 zE_cX11_wouldCancel 0 6 (by decide +kernel))
theorem dX11_wouldCancel_7 : decode cX11_wouldCancel 7 = .ok (.invokevirtual 216, 3) := dz_invokevirtual (yu2 zE_cX11_wouldCancel 0 7 (by decide +kernel))
theorem dX11_wouldCancel_10 : decode cX11_wouldCancel 10 = .ok (.ifCond .ne 9, 3) := dz_ifCond_ne (ys2 zE_cX11_wouldCancel 0 10 (by decide +kernel))
theorem dX11_wouldCancel_13 : decode cX11_wouldCancel 13 = .ok (.aload_n 0, 1) := dz_aload_n_0 (y0 zE_cX11_wouldCancel 0 13 (by decide +kernel))
theorem dX11_wouldCancel_14 : decode cX11_wouldCancel 14 = .ok (.iconst 1, 1) := dz_iconst_1 (y0 zE_cX11_wouldCancel 0 14 (by decide +kernel))
theorem dX11_wouldCancel_15 : decode cX11_wouldCancel 15 = .ok (.invokevirtual 60, 3) := dz_invokevirtual (yu2 zE_cX11_wouldCancel 0 15 (by decide +kernel))
theorem dX11_wouldCancel_18 : decode cX11_wouldCancel 18 = .ok (.ireturn, 1) := dz_ireturn (y0 zE_cX11_wouldCancel 0 18 (by decide +kernel))
theorem dX11_wouldCancel_19 : decode cX11_wouldCancel 19 = .ok (.aload_n 0, 1) := dz_aload_n_0 (y0 zE_cX11_wouldCancel 0 19 (by decide +kernel))
theorem dX11_wouldCancel_20 : decode cX11_wouldCancel 20 = .ok (.getfield 19, 3) := dz_getfield (yu2 zE_cX11_wouldCancel 0 20 (by decide +kernel))
theorem dX11_wouldCancel_23 : decode cX11_wouldCancel 23 = .ok (.iload_n 1, 1) := dz_iload_n_1 (y0 zE_cX11_wouldCancel 0 23 (by decide +kernel))
theorem dX11_wouldCancel_24 : decode cX11_wouldCancel 24 = .ok (.invokevirtual 90, 3) := dz_invokevirtual (yu2 zE_cX11_wouldCancel 0 24 (by decide +kernel))
theorem dX11_wouldCancel_27 : decode cX11_wouldCancel 27 = .ok (.checkcast 122, 3) := dz_checkcast (yu2 zE_cX11_wouldCancel 0 27 (by decide +kernel))
theorem dX11_wouldCancel_30 : decode cX11_wouldCancel 30 = .ok (.astore_n 2, 1) := dz_astore_n_2 (y0 zE_cX11_wouldCancel 0 30 (by decide +kernel))
theorem dX11_wouldCancel_31 : decode cX11_wouldCancel 31 = .ok (.aload_n 2, 1) := dz_aload_n_2 (y0 zE_cX11_wouldCancel 0 31 (by decide +kernel))
theorem dX11_wouldCancel_32 : decode cX11_wouldCancel 32 = .ok (.getfield 124, 3) := dz_getfield (yu2 zE_cX11_wouldCancel 0 32 (by decide +kernel))
theorem dX11_wouldCancel_35 : decode cX11_wouldCancel 35 = .ok (.iconst 1, 1) := dz_iconst_1 (y0 zE_cX11_wouldCancel 0 35 (by decide +kernel))
theorem dX11_wouldCancel_36 : decode cX11_wouldCancel 36 = .ok (.if_icmp .ne 26, 3) := dz_if_icmp_ne (ys2 zE_cX11_wouldCancel 0 36 (by decide +kernel))
theorem dX11_wouldCancel_39 : decode cX11_wouldCancel 39 = .ok (.iconst 0, 1) := dz_iconst_0 (y0 zE_cX11_wouldCancel 0 39 (by decide +kernel))
theorem dX11_wouldCancel_40 : decode cX11_wouldCancel 40 = .ok (.aload_n 0, 1) := dz_aload_n_0 (y0 zE_cX11_wouldCancel 0 40 (by decide +kernel))
theorem dX11_wouldCancel_41 : decode cX11_wouldCancel 41 = .ok (.aload_n 2, 1) := dz_aload_n_2 (y0 zE_cX11_wouldCancel 0 41 (by decide +kernel))
theorem dX11_wouldCancel_42 : decode cX11_wouldCancel 42 = .ok (.invokevirtual 240, 3) := dz_invokevirtual (yu2 zE_cX11_wouldCancel 0 42 (by decide +kernel))
theorem dX11_wouldCancel_45 : decode cX11_wouldCancel 45 = .ok (.aload_n 2, 1) := dz_aload_n_2 (y0 zE_cX11_wouldCancel 0 45 (by decide +kernel))
theorem dX11_wouldCancel_46 : decode cX11_wouldCancel 46 = .ok (.getfield 210, 3) := dz_getfield (yu2 zE_cX11_wouldCancel 0 46 (by decide +kernel))
theorem dX11_wouldCancel_49 : decode cX11_wouldCancel 49 = .ok (.isub, 1) := dz_isub (y0 zE_cX11_wouldCancel 0 49 (by decide +kernel))
theorem dX11_wouldCancel_50 : decode cX11_wouldCancel 50 = .ok (.invokestatic 244, 3) := dz_invokestatic (yu2 zE_cX11_wouldCancel 0 50 (by decide +kernel))
theorem dX11_wouldCancel_53 : decode cX11_wouldCancel 53 = .ok (.aload_n 0, 1) := dz_aload_n_0 (y0 zE_cX11_wouldCancel 0 53 (by decide +kernel))
theorem dX11_wouldCancel_54 : decode cX11_wouldCancel 54 = .ok (.aload_n 2, 1) := dz_aload_n_2 (y0 zE_cX11_wouldCancel 0 54 (by decide +kernel))
theorem dX11_wouldCancel_55 : decode cX11_wouldCancel 55 = .ok (.invokevirtual 264, 3) := dz_invokevirtual (yu2 zE_cX11_wouldCancel 0 55 (by decide +kernel))
theorem dX11_wouldCancel_58 : decode cX11_wouldCancel 58 = .ok (.isub, 1) := dz_isub (y0 zE_cX11_wouldCancel 0 58 (by decide +kernel))
theorem dX11_wouldCancel_59 : decode cX11_wouldCancel 59 = .ok (.goto 8, 3) := dz_goto (ys2 zE_cX11_wouldCancel 0 59 (by decide +kernel))
theorem dX11_wouldCancel_62 : decode cX11_wouldCancel 62 = .ok (.aload_n 0, 1) := dz_aload_n_0 (y0 zE_cX11_wouldCancel 0 62 (by decide +kernel))
theorem dX11_wouldCancel_63 : decode cX11_wouldCancel 63 = .ok (.iconst 2, 1) := dz_iconst_2 (y0 zE_cX11_wouldCancel 0 63 (by decide +kernel))
theorem dX11_wouldCancel_64 : decode cX11_wouldCancel 64 = .ok (.invokevirtual 60, 3) := dz_invokevirtual (yu2 zE_cX11_wouldCancel 1 0 (by decide +kernel))
theorem dX11_wouldCancel_67 : decode cX11_wouldCancel 67 = .ok (.ireturn, 1) := dz_ireturn (y0 zE_cX11_wouldCancel 1 3 (by decide +kernel))
theorem gd_wsX11_key : wsX11_key.all goodWord = true := by decide +kernel
set_option maxRecDepth 20000 in
theorem ggX11_key_X11_isWedding : GoodIn wsX11_key wsX11_isWedding := gi_q gd_wsX11_key _ [(7, 10), (6, 1), (17, 1), (113, 16)] rfl
set_option maxRecDepth 20000 in
theorem gX11_key_X11_isWedding : GoodIn wsX11_key (wsV RX11 216 RX11 yX11_isWedding wsX11_isWedding) := goodIn_app (gi_q gd_wsX11_key _ [(3, 4)] rfl) ggX11_key_X11_isWedding
set_option maxRecDepth 20000 in
theorem ggX11_key_X11_refuse : GoodIn wsX11_key wsX11_refuse := gi_q gd_wsX11_key _ [(21, 1), (1, 1), (113, 13)] rfl
set_option maxRecDepth 20000 in
theorem gX11_key_X11_refuse : GoodIn wsX11_key (wsV RX11 60 RX11 yX11_refuse wsX11_refuse) := goodIn_app (gi_q gd_wsX11_key _ [(18, 3), (6, 1)] rfl) ggX11_key_X11_refuse
set_option maxRecDepth 20000 in
theorem ggX11_key_X11_best : GoodIn wsX11_key wsX11_best := gi_q gd_wsX11_key _ [(25, 1), (8, 1), (26, 4), (12, 1), (30, 1), (14, 1), (31, 16), (6, 1), (47, 1), (2, 1), (9, 3), (13, 1), (48, 101)] rfl
set_option maxRecDepth 20000 in
theorem gX11_key_X11_best : GoodIn wsX11_key (wsV RX11 200 RX11 yX11_best wsX11_best) := goodIn_app (gi_q gd_wsX11_key _ [(22, 3), (6, 1)] rfl) ggX11_key_X11_best
set_option maxRecDepth 20000 in
theorem ggX11_key_Jx4a65c_size_8abf5 : GoodIn wsX11_key wsJx4a65c_size_8abf5 := gi_q gd_wsX11_key _ [(13, 2), (126, 3)] rfl
set_option maxRecDepth 20000 in
theorem gX11_key_Jx4a65c_size_8abf5 : GoodIn wsX11_key (wsV RX11 48 RJx4a65c yJx4a65c_size_8abf5 wsJx4a65c_size_8abf5) := goodIn_app (gi_q gd_wsX11_key _ [(9, 4)] rfl) ggX11_key_Jx4a65c_size_8abf5
def zT_cX11_key : List (List Nat) := [[42, 3, 181, 0, 44, 42, 27, 182, 0, 216, 154, 0, 9, 42, 4, 182, 0, 60, 172, 42, 27, 3, 3, 182, 0, 200, 2, 160, 0, 5, 2, 172, 3, 61, 28, 42, 180, 0, 10, 182, 0, 48, 162, 0, 24, 42, 27, 4, 28, 120, 3, 182, 0, 200, 2, 160, 0, 5, 28, 172, 132, 2, 1, 167, 255, 227, 2, 172], [255, 227, 2, 172]]
theorem zE_cX11_key : zTab cX11_key.data.toList zT_cX11_key = true := by decide +kernel
theorem dX11_key_0 : decode cX11_key 0 = .ok (.aload_n 0, 1) := dz_aload_n_0 (y0 zE_cX11_key 0 0 (by decide +kernel))
theorem dX11_key_1 : decode cX11_key 1 = .ok (.iconst 0, 1) := dz_iconst_0 (y0 zE_cX11_key 0 1 (by decide +kernel))
theorem dX11_key_2 : decode cX11_key 2 = .ok (.putfield 44, 3) := dz_putfield (yu2 zE_cX11_key 0 2 (by decide +kernel))
theorem dX11_key_5 : decode cX11_key 5 = .ok (.aload_n 0, 1) := dz_aload_n_0 (y0 zE_cX11_key 0 5 (by decide +kernel))
theorem dX11_key_6 : decode cX11_key 6 = .ok (.iload_n 1, 1) := dz_iload_n_1 (y0 zE_cX11_key 0 6 (by decide +kernel))
theorem dX11_key_7 : decode cX11_key 7 = .ok (.invokevirtual 216, 3) := dz_invokevirtual (yu2 zE_cX11_key 0 7 (by decide +kernel))
theorem dX11_key_10 : decode cX11_key 10 = .ok (.ifCond .ne 9, 3) := dz_ifCond_ne (ys2 zE_cX11_key 0 10 (by decide +kernel))
theorem dX11_key_13 : decode cX11_key 13 = .ok (.aload_n 0, 1) := dz_aload_n_0 (y0 zE_cX11_key 0 13 (by decide +kernel))
theorem dX11_key_14 : decode cX11_key 14 = .ok (.iconst 1, 1) := dz_iconst_1 (y0 zE_cX11_key 0 14 (by decide +kernel))
theorem dX11_key_15 : decode cX11_key 15 = .ok (.invokevirtual 60, 3) := dz_invokevirtual (yu2 zE_cX11_key 0 15 (by decide +kernel))
theorem dX11_key_18 : decode cX11_key 18 = .ok (.ireturn, 1) := dz_ireturn (y0 zE_cX11_key 0 18 (by decide +kernel))
theorem dX11_key_19 : decode cX11_key 19 = .ok (.aload_n 0, 1) := dz_aload_n_0 (y0 zE_cX11_key 0 19 (by decide +kernel))
theorem dX11_key_20 : decode cX11_key 20 = .ok (.iload_n 1, 1) := dz_iload_n_1 (y0 zE_cX11_key 0 20 (by decide +kernel))
theorem dX11_key_21 : decode cX11_key 21 = .ok (.iconst 0, 1) := dz_iconst_0 (y0 zE_cX11_key 0 21 (by decide +kernel))
theorem dX11_key_22 : decode cX11_key 22 = .ok (.iconst 0, 1) := dz_iconst_0 (y0 zE_cX11_key 0 22 (by decide +kernel))
theorem dX11_key_23 : decode cX11_key 23 = .ok (.invokevirtual 200, 3) := dz_invokevirtual (yu2 zE_cX11_key 0 23 (by decide +kernel))
theorem dX11_key_26 : decode cX11_key 26 = .ok (.iconst (-1), 1) := dz_iconst_m1 (y0 zE_cX11_key 0 26 (by decide +kernel))
theorem dX11_key_27 : decode cX11_key 27 = .ok (.if_icmp .ne 5, 3) := dz_if_icmp_ne (ys2 zE_cX11_key 0 27 (by decide +kernel))
theorem dX11_key_30 : decode cX11_key 30 = .ok (.iconst (-1), 1) := dz_iconst_m1 (y0 zE_cX11_key 0 30 (by decide +kernel))
theorem dX11_key_31 : decode cX11_key 31 = .ok (.ireturn, 1) := dz_ireturn (y0 zE_cX11_key 0 31 (by decide +kernel))
theorem dX11_key_32 : decode cX11_key 32 = .ok (.iconst 0, 1) := dz_iconst_0 (y0 zE_cX11_key 0 32 (by decide +kernel))
theorem dX11_key_33 : decode cX11_key 33 = .ok (.istore_n 2, 1) := dz_istore_n_2 (y0 zE_cX11_key 0 33 (by decide +kernel))
theorem dX11_key_34 : decode cX11_key 34 = .ok (.iload_n 2, 1) := dz_iload_n_2 (y0 zE_cX11_key 0 34 (by decide +kernel))
theorem dX11_key_35 : decode cX11_key 35 = .ok (.aload_n 0, 1) := dz_aload_n_0 (y0 zE_cX11_key 0 35 (by decide +kernel))
theorem dX11_key_36 : decode cX11_key 36 = .ok (.getfield 10, 3) := dz_getfield (yu2 zE_cX11_key 0 36 (by decide +kernel))
theorem dX11_key_39 : decode cX11_key 39 = .ok (.invokevirtual 48, 3) := dz_invokevirtual (yu2 zE_cX11_key 0 39 (by decide +kernel))
theorem dX11_key_42 : decode cX11_key 42 = .ok (.if_icmp .ge 24, 3) := dz_if_icmp_ge (ys2 zE_cX11_key 0 42 (by decide +kernel))
theorem dX11_key_45 : decode cX11_key 45 = .ok (.aload_n 0, 1) := dz_aload_n_0 (y0 zE_cX11_key 0 45 (by decide +kernel))
theorem dX11_key_46 : decode cX11_key 46 = .ok (.iload_n 1, 1) := dz_iload_n_1 (y0 zE_cX11_key 0 46 (by decide +kernel))
theorem dX11_key_47 : decode cX11_key 47 = .ok (.iconst 1, 1) := dz_iconst_1 (y0 zE_cX11_key 0 47 (by decide +kernel))
theorem dX11_key_48 : decode cX11_key 48 = .ok (.iload_n 2, 1) := dz_iload_n_2 (y0 zE_cX11_key 0 48 (by decide +kernel))
theorem dX11_key_49 : decode cX11_key 49 = .ok (.ishl, 1) := dz_ishl (y0 zE_cX11_key 0 49 (by decide +kernel))
theorem dX11_key_50 : decode cX11_key 50 = .ok (.iconst 0, 1) := dz_iconst_0 (y0 zE_cX11_key 0 50 (by decide +kernel))
theorem dX11_key_51 : decode cX11_key 51 = .ok (.invokevirtual 200, 3) := dz_invokevirtual (yu2 zE_cX11_key 0 51 (by decide +kernel))
theorem dX11_key_54 : decode cX11_key 54 = .ok (.iconst (-1), 1) := dz_iconst_m1 (y0 zE_cX11_key 0 54 (by decide +kernel))
theorem dX11_key_55 : decode cX11_key 55 = .ok (.if_icmp .ne 5, 3) := dz_if_icmp_ne (ys2 zE_cX11_key 0 55 (by decide +kernel))
theorem dX11_key_58 : decode cX11_key 58 = .ok (.iload_n 2, 1) := dz_iload_n_2 (y0 zE_cX11_key 0 58 (by decide +kernel))
theorem dX11_key_59 : decode cX11_key 59 = .ok (.ireturn, 1) := dz_ireturn (y0 zE_cX11_key 0 59 (by decide +kernel))
theorem dX11_key_60 : decode cX11_key 60 = .ok (.iinc 2 1, 3) := dz_iinc (yii zE_cX11_key 0 60 (by decide +kernel))
theorem dX11_key_63 : decode cX11_key 63 = .ok (.goto (-29), 3) := dz_goto (ys2 zE_cX11_key 0 63 (by decide +kernel))
theorem dX11_key_66 : decode cX11_key 66 = .ok (.iconst (-1), 1) := dz_iconst_m1 (y0 zE_cX11_key 1 2 (by decide +kernel))
theorem dX11_key_67 : decode cX11_key 67 = .ok (.ireturn, 1) := dz_ireturn (y0 zE_cX11_key 1 3 (by decide +kernel))
theorem gd_wsX11_isSoundNow : wsX11_isSoundNow.all goodWord = true := by decide +kernel
set_option maxRecDepth 20000 in
theorem ggX11_isSoundNow_Jx4a65c_size_8abf5 : GoodIn wsX11_isSoundNow wsJx4a65c_size_8abf5 := gi_q gd_wsX11_isSoundNow _ [(10, 2), (109, 3)] rfl
set_option maxRecDepth 20000 in
theorem gX11_isSoundNow_Jx4a65c_size_8abf5 : GoodIn wsX11_isSoundNow (wsV RX11 48 RJx4a65c yJx4a65c_size_8abf5 wsJx4a65c_size_8abf5) := goodIn_app (gi_q gd_wsX11_isSoundNow _ [(6, 4)] rfl) ggX11_isSoundNow_Jx4a65c_size_8abf5
set_option maxRecDepth 20000 in
theorem ggX11_isSoundNow_Jx4a65c_get_915e3 : GoodIn wsX11_isSoundNow wsJx4a65c_get_915e3 := gi_q gd_wsX11_isSoundNow _ [(15, 1), (11, 1), (16, 11), (9, 1), (27, 2), (109, 3)] rfl
set_option maxRecDepth 20000 in
theorem gX11_isSoundNow_Jx4a65c_get_915e3 : GoodIn wsX11_isSoundNow (wsV RX11 90 RJx4a65c yJx4a65c_get_915e3 wsJx4a65c_get_915e3) := goodIn_app (gi_q gd_wsX11_isSoundNow _ [(12, 3), (9, 1)] rfl) ggX11_isSoundNow_Jx4a65c_get_915e3
set_option maxRecDepth 20000 in
theorem ggX11_isSoundNow_J6_bitCount_0f7a4 : GoodIn wsX11_isSoundNow wsJ6_bitCount_0f7a4 := gi_q gd_wsX11_isSoundNow _ [(32, 4)] rfl
set_option maxRecDepth 20000 in
theorem gX11_isSoundNow_J6_bitCount_0f7a4 : GoodIn wsX11_isSoundNow (va_wsS RX11 94 yJ6_bitCount_0f7a4 wsJ6_bitCount_0f7a4) := goodIn_app (gi_q gd_wsX11_isSoundNow _ [(29, 3)] rfl) ggX11_isSoundNow_J6_bitCount_0f7a4
set_option maxRecDepth 20000 in
theorem ggX11_isSoundNow_J6_intValue_8abf5 : GoodIn wsX11_isSoundNow wsJ6_intValue_8abf5 := gi_q gd_wsX11_isSoundNow _ [(39, 2), (112, 1)] rfl
set_option maxRecDepth 20000 in
theorem gX11_isSoundNow_J6_intValue_8abf5 : GoodIn wsX11_isSoundNow (wsV RX11 177 RJ6 yJ6_intValue_8abf5 wsJ6_intValue_8abf5) := goodIn_app (gi_q gd_wsX11_isSoundNow _ [(36, 3), (31, 1)] rfl) ggX11_isSoundNow_J6_intValue_8abf5
set_option maxRecDepth 20000 in
theorem ggX11_isSoundNow_X11_needed_ : GoodIn wsX11_isSoundNow wsX11_needed_ := gi_q gd_wsX11_isSoundNow _ [(44, 3), (43, 1), (47, 1)] rfl
set_option maxRecDepth 20000 in
theorem gX11_isSoundNow_X11_needed_ : GoodIn wsX11_isSoundNow (va_wsS RX11 116 yX11_needed_ wsX11_needed_) := goodIn_app (gi_q gd_wsX11_isSoundNow _ [(41, 3)] rfl) ggX11_isSoundNow_X11_needed_
set_option maxRecDepth 20000 in
theorem ggX11_isSoundNow_X11_share : GoodIn wsX11_isSoundNow wsX11_share := gi_q gd_wsX11_isSoundNow _ [(51, 3), (84, 13)] rfl
set_option maxRecDepth 20000 in
theorem gX11_isSoundNow_X11_share : GoodIn wsX11_isSoundNow (wsV RX11 299 RX11 yX11_share wsX11_share) := goodIn_app (gi_q gd_wsX11_isSoundNow _ [(48, 3), (43, 1)] rfl) ggX11_isSoundNow_X11_share
set_option maxRecDepth 20000 in
theorem ggX11_isSoundNow_X11_deskNow : GoodIn wsX11_isSoundNow wsX11_deskNow := gi_q gd_wsX11_isSoundNow _ [(57, 3), (3, 1), (1, 2), (5, 1), (60, 1), (6, 30), (61, 3), (43, 1), (64, 45), (113, 7), (109, 3)] rfl
set_option maxRecDepth 20000 in
theorem gX11_isSoundNow_X11_deskNow : GoodIn wsX11_isSoundNow (wsV RX11 351 RX11 yX11_deskNow wsX11_deskNow) := goodIn_app (gi_q gd_wsX11_isSoundNow _ [(54, 3), (43, 1)] rfl) ggX11_isSoundNow_X11_deskNow
def zT_cX11_isSoundNow : List (List Nat) := [[3, 60, 3, 61, 3, 62, 29, 42, 180, 0, 19, 182, 0, 48, 162, 0, 142, 42, 180, 0, 19, 29, 182, 0, 90, 192, 0, 122, 58, 4, 27, 25, 4, 180, 0, 210, 96, 60, 25, 4, 180, 0, 124, 4, 159, 0, 6, 167, 0, 103, 25, 4, 180, 0, 160, 184, 0, 94, 42, 180, 0, 16, 25, 4, 180, 0, 127, 182], [180, 0, 127, 182, 0, 90, 192, 0, 95, 182, 0, 177, 184, 0, 116, 159, 0, 5, 3, 172, 3, 54, 5, 21, 5, 29, 162, 0, 60, 42, 180, 0, 19, 21, 5, 182, 0, 90, 192, 0, 122, 58, 6, 25, 6, 180, 0, 124, 4, 160, 0, 31, 25, 6, 180, 0, 127, 25, 4, 180, 0, 127, 160, 0, 18, 25, 6, 180], [18, 25, 6, 180, 0, 130, 25, 4, 180, 0, 130, 160, 0, 5, 3, 172, 132, 5, 1, 167, 255, 196, 132, 3, 1, 167, 255, 109, 3, 62, 29, 16, 16, 162, 0, 17, 28, 42, 29, 182, 1, 43, 96, 61, 132, 3, 1, 167, 255, 239, 42, 180, 0, 213, 27, 42, 16, 10, 182, 1, 95, 100, 160, 0, 14, 28, 17, 3], [14, 28, 17, 3, 232, 163, 0, 7, 4, 167, 0, 4, 3, 172]]
theorem zE_cX11_isSoundNow : zTab cX11_isSoundNow.data.toList zT_cX11_isSoundNow = true := by decide +kernel
theorem dX11_isSoundNow_0 : decode cX11_isSoundNow 0 = .ok (.iconst 0, 1) := dz_iconst_0 (y0 zE_cX11_isSoundNow 0 0 (by decide +kernel))
theorem dX11_isSoundNow_1 : decode cX11_isSoundNow 1 = .ok (.istore_n 1, 1) := dz_istore_n_1 (y0 zE_cX11_isSoundNow 0 1 (by decide +kernel))
theorem dX11_isSoundNow_2 : decode cX11_isSoundNow 2 = .ok (.iconst 0, 1) := dz_iconst_0 (y0 zE_cX11_isSoundNow 0 2 (by decide +kernel))
theorem dX11_isSoundNow_3 : decode cX11_isSoundNow 3 = .ok (.istore_n 2, 1) := dz_istore_n_2 (y0 zE_cX11_isSoundNow 0 3 (by decide +kernel))
theorem dX11_isSoundNow_4 : decode cX11_isSoundNow 4 = .ok (.iconst 0, 1) := dz_iconst_0 (y0 zE_cX11_isSoundNow 0 4 (by decide +kernel))
theorem dX11_isSoundNow_5 : decode cX11_isSoundNow 5 = .ok (.istore_n 3, 1) := dz_istore_n_3 (y0 zE_cX11_isSoundNow 0 5 (by decide +kernel))
theorem dX11_isSoundNow_6 : decode cX11_isSoundNow 6 = .ok (.iload_n 3, 1) := dz_iload_n_3 (y0 zE_cX11_isSoundNow 0 6 (by decide +kernel))
theorem dX11_isSoundNow_7 : decode cX11_isSoundNow 7 = .ok (.aload_n 0, 1) := dz_aload_n_0 (y0 zE_cX11_isSoundNow 0 7 (by decide +kernel))
theorem dX11_isSoundNow_8 : decode cX11_isSoundNow 8 = .ok (.getfield 19, 3) := dz_getfield (yu2 zE_cX11_isSoundNow 0 8 (by decide +kernel))
theorem dX11_isSoundNow_11 : decode cX11_isSoundNow 11 = .ok (.invokevirtual 48, 3) := dz_invokevirtual (yu2 zE_cX11_isSoundNow 0 11 (by decide +kernel))
theorem dX11_isSoundNow_14 : decode cX11_isSoundNow 14 = .ok (.if_icmp .ge 142, 3) := dz_if_icmp_ge (ys2 zE_cX11_isSoundNow 0 14 (by decide +kernel))
theorem dX11_isSoundNow_17 : decode cX11_isSoundNow 17 = .ok (.aload_n 0, 1) := dz_aload_n_0 (y0 zE_cX11_isSoundNow 0 17 (by decide +kernel))
theorem dX11_isSoundNow_18 : decode cX11_isSoundNow 18 = .ok (.getfield 19, 3) := dz_getfield (yu2 zE_cX11_isSoundNow 0 18 (by decide +kernel))
theorem dX11_isSoundNow_21 : decode cX11_isSoundNow 21 = .ok (.iload_n 3, 1) := dz_iload_n_3 (y0 zE_cX11_isSoundNow 0 21 (by decide +kernel))
theorem dX11_isSoundNow_22 : decode cX11_isSoundNow 22 = .ok (.invokevirtual 90, 3) := dz_invokevirtual (yu2 zE_cX11_isSoundNow 0 22 (by decide +kernel))
theorem dX11_isSoundNow_25 : decode cX11_isSoundNow 25 = .ok (.checkcast 122, 3) := dz_checkcast (yu2 zE_cX11_isSoundNow 0 25 (by decide +kernel))
theorem dX11_isSoundNow_28 : decode cX11_isSoundNow 28 = .ok (.astore 4, 2) := dz_astore (yu1 zE_cX11_isSoundNow 0 28 (by decide +kernel))
theorem dX11_isSoundNow_30 : decode cX11_isSoundNow 30 = .ok (.iload_n 1, 1) := dz_iload_n_1 (y0 zE_cX11_isSoundNow 0 30 (by decide +kernel))
theorem dX11_isSoundNow_31 : decode cX11_isSoundNow 31 = .ok (.aload 4, 2) := dz_aload (yu1 zE_cX11_isSoundNow 0 31 (by decide +kernel))
theorem dX11_isSoundNow_33 : decode cX11_isSoundNow 33 = .ok (.getfield 210, 3) := dz_getfield (yu2 zE_cX11_isSoundNow 0 33 (by decide +kernel))
theorem dX11_isSoundNow_36 : decode cX11_isSoundNow 36 = .ok (.iadd, 1) := dz_iadd (y0 zE_cX11_isSoundNow 0 36 (by decide +kernel))
theorem dX11_isSoundNow_37 : decode cX11_isSoundNow 37 = .ok (.istore_n 1, 1) := dz_istore_n_1 (y0 zE_cX11_isSoundNow 0 37 (by decide +kernel))
theorem dX11_isSoundNow_38 : decode cX11_isSoundNow 38 = .ok (.aload 4, 2) := dz_aload (yu1 zE_cX11_isSoundNow 0 38 (by decide +kernel))
theorem dX11_isSoundNow_40 : decode cX11_isSoundNow 40 = .ok (.getfield 124, 3) := dz_getfield (yu2 zE_cX11_isSoundNow 0 40 (by decide +kernel))
theorem dX11_isSoundNow_43 : decode cX11_isSoundNow 43 = .ok (.iconst 1, 1) := dz_iconst_1 (y0 zE_cX11_isSoundNow 0 43 (by decide +kernel))
theorem dX11_isSoundNow_44 : decode cX11_isSoundNow 44 = .ok (.if_icmp .eq 6, 3) := dz_if_icmp_eq (ys2 zE_cX11_isSoundNow 0 44 (by decide +kernel))
theorem dX11_isSoundNow_47 : decode cX11_isSoundNow 47 = .ok (.goto 103, 3) := dz_goto (ys2 zE_cX11_isSoundNow 0 47 (by decide +kernel))
theorem dX11_isSoundNow_50 : decode cX11_isSoundNow 50 = .ok (.aload 4, 2) := dz_aload (yu1 zE_cX11_isSoundNow 0 50 (by decide +kernel))
theorem dX11_isSoundNow_52 : decode cX11_isSoundNow 52 = .ok (.getfield 160, 3) := dz_getfield (yu2 zE_cX11_isSoundNow 0 52 (by decide +kernel))
theorem dX11_isSoundNow_55 : decode cX11_isSoundNow 55 = .ok (.invokestatic 94, 3) := dz_invokestatic (yu2 zE_cX11_isSoundNow 0 55 (by decide +kernel))
theorem dX11_isSoundNow_58 : decode cX11_isSoundNow 58 = .ok (.aload_n 0, 1) := dz_aload_n_0 (y0 zE_cX11_isSoundNow 0 58 (by decide +kernel))
theorem dX11_isSoundNow_59 : decode cX11_isSoundNow 59 = .ok (.getfield 16, 3) := dz_getfield (yu2 zE_cX11_isSoundNow 0 59 (by decide +kernel))
theorem dX11_isSoundNow_62 : decode cX11_isSoundNow 62 = .ok (.aload 4, 2) := dz_aload (yu1 zE_cX11_isSoundNow 0 62 (by decide +kernel))
theorem dX11_isSoundNow_64 : decode cX11_isSoundNow 64 = .ok (.getfield 127, 3) := dz_getfield (yu2 zE_cX11_isSoundNow 1 0 (by decide +kernel))
theorem dX11_isSoundNow_67 : decode cX11_isSoundNow 67 = .ok (.invokevirtual 90, 3) := dz_invokevirtual (yu2 zE_cX11_isSoundNow 1 3 (by decide +kernel))
theorem dX11_isSoundNow_70 : decode cX11_isSoundNow 70 = .ok (.checkcast 95, 3) := dz_checkcast (yu2 zE_cX11_isSoundNow 1 6 (by decide +kernel))
theorem dX11_isSoundNow_73 : decode cX11_isSoundNow 73 = .ok (.invokevirtual 177, 3) := dz_invokevirtual (yu2 zE_cX11_isSoundNow 1 9 (by decide +kernel))
theorem dX11_isSoundNow_76 : decode cX11_isSoundNow 76 = .ok (.invokestatic 116, 3) := dz_invokestatic (yu2 zE_cX11_isSoundNow 1 12 (by decide +kernel))
theorem dX11_isSoundNow_79 : decode cX11_isSoundNow 79 = .ok (.if_icmp .eq 5, 3) := dz_if_icmp_eq (ys2 zE_cX11_isSoundNow 1 15 (by decide +kernel))
theorem dX11_isSoundNow_82 : decode cX11_isSoundNow 82 = .ok (.iconst 0, 1) := dz_iconst_0 (y0 zE_cX11_isSoundNow 1 18 (by decide +kernel))
theorem dX11_isSoundNow_83 : decode cX11_isSoundNow 83 = .ok (.ireturn, 1) := dz_ireturn (y0 zE_cX11_isSoundNow 1 19 (by decide +kernel))
theorem dX11_isSoundNow_84 : decode cX11_isSoundNow 84 = .ok (.iconst 0, 1) := dz_iconst_0 (y0 zE_cX11_isSoundNow 1 20 (by decide +kernel))
theorem dX11_isSoundNow_85 : decode cX11_isSoundNow 85 = .ok (.istore 5, 2) := dz_istore (yu1 zE_cX11_isSoundNow 1 21 (by decide +kernel))
theorem dX11_isSoundNow_87 : decode cX11_isSoundNow 87 = .ok (.iload 5, 2) := dz_iload (yu1 zE_cX11_isSoundNow 1 23 (by decide +kernel))
theorem dX11_isSoundNow_89 : decode cX11_isSoundNow 89 = .ok (.iload_n 3, 1) := dz_iload_n_3 (y0 zE_cX11_isSoundNow 1 25 (by decide +kernel))
theorem dX11_isSoundNow_90 : decode cX11_isSoundNow 90 = .ok (.if_icmp .ge 60, 3) := dz_if_icmp_ge (ys2 zE_cX11_isSoundNow 1 26 (by decide +kernel))
theorem dX11_isSoundNow_93 : decode cX11_isSoundNow 93 = .ok (.aload_n 0, 1) := dz_aload_n_0 (y0 zE_cX11_isSoundNow 1 29 (by decide +kernel))
theorem dX11_isSoundNow_94 : decode cX11_isSoundNow 94 = .ok (.getfield 19, 3) := dz_getfield (yu2 zE_cX11_isSoundNow 1 30 (by decide +kernel))
theorem dX11_isSoundNow_97 : decode cX11_isSoundNow 97 = .ok (.iload 5, 2) := dz_iload (yu1 zE_cX11_isSoundNow 1 33 (by decide +kernel))
theorem dX11_isSoundNow_99 : decode cX11_isSoundNow 99 = .ok (.invokevirtual 90, 3) := dz_invokevirtual (yu2 zE_cX11_isSoundNow 1 35 (by decide +kernel))
theorem dX11_isSoundNow_102 : decode cX11_isSoundNow 102 = .ok (.checkcast 122, 3) := dz_checkcast (yu2 zE_cX11_isSoundNow 1 38 (by decide +kernel))
theorem dX11_isSoundNow_105 : decode cX11_isSoundNow 105 = .ok (.astore 6, 2) := dz_astore (yu1 zE_cX11_isSoundNow 1 41 (by decide +kernel))
theorem dX11_isSoundNow_107 : decode cX11_isSoundNow 107 = .ok (.aload 6, 2) := dz_aload (yu1 zE_cX11_isSoundNow 1 43 (by decide +kernel))
theorem dX11_isSoundNow_109 : decode cX11_isSoundNow 109 = .ok (.getfield 124, 3) := dz_getfield (yu2 zE_cX11_isSoundNow 1 45 (by decide +kernel))
theorem dX11_isSoundNow_112 : decode cX11_isSoundNow 112 = .ok (.iconst 1, 1) := dz_iconst_1 (y0 zE_cX11_isSoundNow 1 48 (by decide +kernel))
theorem dX11_isSoundNow_113 : decode cX11_isSoundNow 113 = .ok (.if_icmp .ne 31, 3) := dz_if_icmp_ne (ys2 zE_cX11_isSoundNow 1 49 (by decide +kernel))
theorem dX11_isSoundNow_116 : decode cX11_isSoundNow 116 = .ok (.aload 6, 2) := dz_aload (yu1 zE_cX11_isSoundNow 1 52 (by decide +kernel))
theorem dX11_isSoundNow_118 : decode cX11_isSoundNow 118 = .ok (.getfield 127, 3) := dz_getfield (yu2 zE_cX11_isSoundNow 1 54 (by decide +kernel))
theorem dX11_isSoundNow_121 : decode cX11_isSoundNow 121 = .ok (.aload 4, 2) := dz_aload (yu1 zE_cX11_isSoundNow 1 57 (by decide +kernel))
theorem dX11_isSoundNow_123 : decode cX11_isSoundNow 123 = .ok (.getfield 127, 3) := dz_getfield (yu2 zE_cX11_isSoundNow 1 59 (by decide +kernel))
theorem dX11_isSoundNow_126 : decode cX11_isSoundNow 126 = .ok (.if_icmp .ne 18, 3) := dz_if_icmp_ne (ys2 zE_cX11_isSoundNow 1 62 (by decide +kernel))
theorem dX11_isSoundNow_129 : decode cX11_isSoundNow 129 = .ok (.aload 6, 2) := dz_aload (yu1 zE_cX11_isSoundNow 2 1 (by decide +kernel))
theorem dX11_isSoundNow_131 : decode cX11_isSoundNow 131 = .ok (.getfield 130, 3) := dz_getfield (yu2 zE_cX11_isSoundNow 2 3 (by decide +kernel))
theorem dX11_isSoundNow_134 : decode cX11_isSoundNow 134 = .ok (.aload 4, 2) := dz_aload (yu1 zE_cX11_isSoundNow 2 6 (by decide +kernel))
theorem dX11_isSoundNow_136 : decode cX11_isSoundNow 136 = .ok (.getfield 130, 3) := dz_getfield (yu2 zE_cX11_isSoundNow 2 8 (by decide +kernel))
theorem dX11_isSoundNow_139 : decode cX11_isSoundNow 139 = .ok (.if_icmp .ne 5, 3) := dz_if_icmp_ne (ys2 zE_cX11_isSoundNow 2 11 (by decide +kernel))
theorem dX11_isSoundNow_142 : decode cX11_isSoundNow 142 = .ok (.iconst 0, 1) := dz_iconst_0 (y0 zE_cX11_isSoundNow 2 14 (by decide +kernel))
theorem dX11_isSoundNow_143 : decode cX11_isSoundNow 143 = .ok (.ireturn, 1) := dz_ireturn (y0 zE_cX11_isSoundNow 2 15 (by decide +kernel))
theorem dX11_isSoundNow_144 : decode cX11_isSoundNow 144 = .ok (.iinc 5 1, 3) := dz_iinc (yii zE_cX11_isSoundNow 2 16 (by decide +kernel))
theorem dX11_isSoundNow_147 : decode cX11_isSoundNow 147 = .ok (.goto (-60), 3) := dz_goto (ys2 zE_cX11_isSoundNow 2 19 (by decide +kernel))
theorem dX11_isSoundNow_150 : decode cX11_isSoundNow 150 = .ok (.iinc 3 1, 3) := dz_iinc (yii zE_cX11_isSoundNow 2 22 (by decide +kernel))
theorem dX11_isSoundNow_153 : decode cX11_isSoundNow 153 = .ok (.goto (-147), 3) := dz_goto (ys2 zE_cX11_isSoundNow 2 25 (by decide +kernel))
theorem dX11_isSoundNow_156 : decode cX11_isSoundNow 156 = .ok (.iconst 0, 1) := dz_iconst_0 (y0 zE_cX11_isSoundNow 2 28 (by decide +kernel))
theorem dX11_isSoundNow_157 : decode cX11_isSoundNow 157 = .ok (.istore_n 3, 1) := dz_istore_n_3 (y0 zE_cX11_isSoundNow 2 29 (by decide +kernel))
theorem dX11_isSoundNow_158 : decode cX11_isSoundNow 158 = .ok (.iload_n 3, 1) := dz_iload_n_3 (y0 zE_cX11_isSoundNow 2 30 (by decide +kernel))
theorem dX11_isSoundNow_159 : decode cX11_isSoundNow 159 = .ok (.bipush 16, 2) := dz_bipush (ys1 zE_cX11_isSoundNow 2 31 (by decide +kernel))
theorem dX11_isSoundNow_161 : decode cX11_isSoundNow 161 = .ok (.if_icmp .ge 17, 3) := dz_if_icmp_ge (ys2 zE_cX11_isSoundNow 2 33 (by decide +kernel))
theorem dX11_isSoundNow_164 : decode cX11_isSoundNow 164 = .ok (.iload_n 2, 1) := dz_iload_n_2 (y0 zE_cX11_isSoundNow 2 36 (by decide +kernel))
theorem dX11_isSoundNow_165 : decode cX11_isSoundNow 165 = .ok (.aload_n 0, 1) := dz_aload_n_0 (y0 zE_cX11_isSoundNow 2 37 (by decide +kernel))
theorem dX11_isSoundNow_166 : decode cX11_isSoundNow 166 = .ok (.iload_n 3, 1) := dz_iload_n_3 (y0 zE_cX11_isSoundNow 2 38 (by decide +kernel))
theorem dX11_isSoundNow_167 : decode cX11_isSoundNow 167 = .ok (.invokevirtual 299, 3) := dz_invokevirtual (yu2 zE_cX11_isSoundNow 2 39 (by decide +kernel))
theorem dX11_isSoundNow_170 : decode cX11_isSoundNow 170 = .ok (.iadd, 1) := dz_iadd (y0 zE_cX11_isSoundNow 2 42 (by decide +kernel))
theorem dX11_isSoundNow_171 : decode cX11_isSoundNow 171 = .ok (.istore_n 2, 1) := dz_istore_n_2 (y0 zE_cX11_isSoundNow 2 43 (by decide +kernel))
theorem dX11_isSoundNow_172 : decode cX11_isSoundNow 172 = .ok (.iinc 3 1, 3) := dz_iinc (yii zE_cX11_isSoundNow 2 44 (by decide +kernel))
theorem dX11_isSoundNow_175 : decode cX11_isSoundNow 175 = .ok (.goto (-17), 3) := dz_goto (ys2 zE_cX11_isSoundNow 2 47 (by decide +kernel))
theorem dX11_isSoundNow_178 : decode cX11_isSoundNow 178 = .ok (.aload_n 0, 1) := dz_aload_n_0 (y0 zE_cX11_isSoundNow 2 50 (by decide +kernel))
theorem dX11_isSoundNow_179 : decode cX11_isSoundNow 179 = .ok (.getfield 213, 3) := dz_getfield (yu2 zE_cX11_isSoundNow 2 51 (by decide +kernel))
theorem dX11_isSoundNow_182 : decode cX11_isSoundNow 182 = .ok (.iload_n 1, 1) := dz_iload_n_1 (y0 zE_cX11_isSoundNow 2 54 (by decide +kernel))
theorem dX11_isSoundNow_183 : decode cX11_isSoundNow 183 = .ok (.aload_n 0, 1) := dz_aload_n_0 (y0 zE_cX11_isSoundNow 2 55 (by decide +kernel))
theorem dX11_isSoundNow_184 : decode cX11_isSoundNow 184 = .ok (.bipush 10, 2) := dz_bipush (ys1 zE_cX11_isSoundNow 2 56 (by decide +kernel))
theorem dX11_isSoundNow_186 : decode cX11_isSoundNow 186 = .ok (.invokevirtual 351, 3) := dz_invokevirtual (yu2 zE_cX11_isSoundNow 2 58 (by decide +kernel))
theorem dX11_isSoundNow_189 : decode cX11_isSoundNow 189 = .ok (.isub, 1) := dz_isub (y0 zE_cX11_isSoundNow 2 61 (by decide +kernel))
theorem dX11_isSoundNow_190 : decode cX11_isSoundNow 190 = .ok (.if_icmp .ne 14, 3) := dz_if_icmp_ne (ys2 zE_cX11_isSoundNow 2 62 (by decide +kernel))
theorem dX11_isSoundNow_193 : decode cX11_isSoundNow 193 = .ok (.iload_n 2, 1) := dz_iload_n_2 (y0 zE_cX11_isSoundNow 3 1 (by decide +kernel))
theorem dX11_isSoundNow_194 : decode cX11_isSoundNow 194 = .ok (.sipush 1000, 3) := dz_sipush (ys2 zE_cX11_isSoundNow 3 2 (by decide +kernel))
theorem dX11_isSoundNow_197 : decode cX11_isSoundNow 197 = .ok (.if_icmp .gt 7, 3) := dz_if_icmp_gt (ys2 zE_cX11_isSoundNow 3 5 (by decide +kernel))
theorem dX11_isSoundNow_200 : decode cX11_isSoundNow 200 = .ok (.iconst 1, 1) := dz_iconst_1 (y0 zE_cX11_isSoundNow 3 8 (by decide +kernel))
theorem dX11_isSoundNow_201 : decode cX11_isSoundNow 201 = .ok (.goto 4, 3) := dz_goto (ys2 zE_cX11_isSoundNow 3 9 (by decide +kernel))
theorem dX11_isSoundNow_204 : decode cX11_isSoundNow 204 = .ok (.iconst 0, 1) := dz_iconst_0 (y0 zE_cX11_isSoundNow 3 12 (by decide +kernel))
theorem dX11_isSoundNow_205 : decode cX11_isSoundNow 205 = .ok (.ireturn, 1) := dz_ireturn (y0 zE_cX11_isSoundNow 3 13 (by decide +kernel))
theorem gd_wsX11_isSound : wsX11_isSound.all goodWord = true := by decide +kernel
set_option maxRecDepth 20000 in
theorem ggX11_isSound_X11_isSoundNow : GoodIn wsX11_isSound wsX11_isSoundNow := gi_q gd_wsX11_isSound _ [(6, 43), (5, 1), (49, 76)] rfl
set_option maxRecDepth 20000 in
theorem gX11_isSound_X11_isSoundNow : GoodIn wsX11_isSound (wsV RX11 377 RX11 yX11_isSoundNow wsX11_isSoundNow) := goodIn_app (gi_q gd_wsX11_isSound _ [(2, 4)] rfl) ggX11_isSound_X11_isSoundNow
theorem dX11_isSound_0 : decode cX11_isSound 0 = .ok (.aload_n 0, 1) := dkT (by decide +kernel)
theorem dX11_isSound_1 : decode cX11_isSound 1 = .ok (.iconst 0, 1) := dkT (by decide +kernel)
theorem dX11_isSound_2 : decode cX11_isSound 2 = .ok (.putfield 44, 3) := dkT (by decide +kernel)
theorem dX11_isSound_5 : decode cX11_isSound 5 = .ok (.aload_n 0, 1) := dkT (by decide +kernel)
theorem dX11_isSound_6 : decode cX11_isSound 6 = .ok (.invokevirtual 377, 3) := dkT (by decide +kernel)
theorem dX11_isSound_9 : decode cX11_isSound 9 = .ok (.ireturn, 1) := dkT (by decide +kernel)
theorem dX11_add_0 : decode cX11_add 0 = .ok (.aload_n 0, 1) := dkT (by decide +kernel)
theorem dX11_add_1 : decode cX11_add 1 = .ok (.aload_n 0, 1) := dkT (by decide +kernel)
theorem dX11_add_2 : decode cX11_add 2 = .ok (.getfield 380, 3) := dkT (by decide +kernel)
theorem dX11_add_5 : decode cX11_add 5 = .ok (.ldc2_w 384, 3) := dkT (by decide +kernel)
theorem dX11_add_8 : decode cX11_add 8 = .ok (.lmul, 1) := dkT (by decide +kernel)
theorem dX11_add_9 : decode cX11_add 9 = .ok (.lload_n 1, 1) := dkT (by decide +kernel)
theorem dX11_add_10 : decode cX11_add 10 = .ok (.ladd, 1) := dkT (by decide +kernel)
theorem dX11_add_11 : decode cX11_add 11 = .ok (.putfield 380, 3) := dkT (by decide +kernel)
theorem dX11_add_14 : decode cX11_add 14 = .ok (.return_, 1) := dkT (by decide +kernel)
theorem gd_wsX11_digest : wsX11_digest.all goodWord = true := by decide +kernel
set_option maxRecDepth 20000 in
theorem ggX11_digest_X11_deskNow : GoodIn wsX11_digest wsX11_deskNow := gi_q gd_wsX11_digest _ [(12, 2), (4, 4), (14, 35), (11, 1), (49, 20), (208, 35)] rfl
set_option maxRecDepth 20000 in
theorem gX11_digest_X11_deskNow : GoodIn wsX11_digest (wsV RX11 351 RX11 yX11_deskNow wsX11_deskNow) := goodIn_app (gi_q gd_wsX11_digest _ [(8, 4)] rfl) ggX11_digest_X11_deskNow
set_option maxRecDepth 20000 in
theorem ggX11_digest_X11_add : GoodIn wsX11_digest wsX11_add := gi_q gd_wsX11_digest _ [(72, 1), (3, 1), (73, 1), (208, 13)] rfl
set_option maxRecDepth 20000 in
theorem gX11_digest_X11_add : GoodIn wsX11_digest (wsV RX11 388 RX11 yX11_add wsX11_add) := goodIn_app (gi_q gd_wsX11_digest _ [(69, 3), (11, 1)] rfl) ggX11_digest_X11_add
set_option maxRecDepth 20000 in
theorem ggX11_digest_Jx4a65c_size_8abf5 : GoodIn wsX11_digest wsJx4a65c_size_8abf5 := gi_q gd_wsX11_digest _ [(20, 2), (240, 3)] rfl
set_option maxRecDepth 20000 in
theorem gX11_digest_Jx4a65c_size_8abf5 : GoodIn wsX11_digest (wsV RX11 48 RJx4a65c yJx4a65c_size_8abf5 wsJx4a65c_size_8abf5) := goodIn_app (gi_q gd_wsX11_digest _ [(16, 4)] rfl) ggX11_digest_Jx4a65c_size_8abf5
set_option maxRecDepth 20000 in
theorem ggX11_digest_X11_ofPlayerNow : GoodIn wsX11_digest wsX11_ofPlayerNow := gi_q gd_wsX11_digest _ [(77, 1), (4, 1), (15, 1), (22, 3), (19, 1), (25, 1), (21, 1), (26, 13), (61, 3), (11, 1), (64, 2), (6, 2), (16, 3), (20, 1), (66, 3), (208, 13), (233, 10), (221, 12)] rfl
set_option maxRecDepth 20000 in
theorem gX11_digest_X11_ofPlayerNow : GoodIn wsX11_digest (wsV RX11 296 RX11 yX11_ofPlayerNow wsX11_ofPlayerNow) := goodIn_app (gi_q gd_wsX11_digest _ [(74, 3), (11, 1)] rfl) ggX11_digest_X11_ofPlayerNow
set_option maxRecDepth 20000 in
theorem ggX11_digest_X11_ofSongNow : GoodIn wsX11_digest wsX11_ofSongNow := gi_q gd_wsX11_digest _ [(81, 1), (4, 1), (15, 1), (82, 4), (16, 23), (66, 2), (11, 1), (68, 1), (86, 4), (208, 13), (233, 10)] rfl
set_option maxRecDepth 20000 in
theorem gX11_digest_X11_ofSongNow : GoodIn wsX11_digest (wsV RX11 302 RX11 yX11_ofSongNow wsX11_ofSongNow) := goodIn_app (gi_q gd_wsX11_digest _ [(78, 3), (11, 1)] rfl) ggX11_digest_X11_ofSongNow
set_option maxRecDepth 20000 in
theorem ggX11_digest_X11_ofBandNow : GoodIn wsX11_digest wsX11_ofBandNow := gi_q gd_wsX11_digest _ [(93, 1), (5, 1), (94, 1), (6, 2), (22, 3), (19, 1), (25, 1), (21, 1), (26, 13), (95, 3), (41, 1), (98, 4), (11, 1), (102, 4), (16, 3), (20, 1), (208, 25), (240, 4)] rfl
set_option maxRecDepth 20000 in
theorem gX11_digest_X11_ofBandNow : GoodIn wsX11_digest (wsV RX11 305 RX11 yX11_ofBandNow wsX11_ofBandNow) := goodIn_app (gi_q gd_wsX11_digest _ [(90, 3), (11, 1)] rfl) ggX11_digest_X11_ofBandNow
set_option maxRecDepth 20000 in
theorem ggX11_digest_X11_ofWeddingNow : GoodIn wsX11_digest wsX11_ofWeddingNow := gi_q gd_wsX11_digest _ [(109, 1), (6, 2), (22, 3), (19, 1), (25, 1), (21, 1), (26, 13), (110, 3), (11, 1), (113, 10), (55, 1), (52, 1), (56, 1), (208, 25), (240, 3)] rfl
set_option maxRecDepth 20000 in
theorem gX11_digest_X11_ofWeddingNow : GoodIn wsX11_digest (wsV RX11 308 RX11 yX11_ofWeddingNow wsX11_ofWeddingNow) := goodIn_app (gi_q gd_wsX11_digest _ [(106, 3), (11, 1)] rfl) ggX11_digest_X11_ofWeddingNow
set_option maxRecDepth 20000 in
theorem ggX11_digest_Jx4a65c_get_915e3 : GoodIn wsX11_digest wsJx4a65c_get_915e3 := gi_q gd_wsX11_digest _ [(25, 1), (21, 1), (26, 11), (19, 1), (37, 2), (240, 3)] rfl
set_option maxRecDepth 20000 in
theorem gX11_digest_Jx4a65c_get_915e3 : GoodIn wsX11_digest (wsV RX11 90 RJx4a65c yJx4a65c_get_915e3 wsJx4a65c_get_915e3) := goodIn_app (gi_q gd_wsX11_digest _ [(22, 3), (19, 1)] rfl) ggX11_digest_Jx4a65c_get_915e3
set_option maxRecDepth 20000 in
theorem ggX11_digest_X11_fillingNow : GoodIn wsX11_digest wsX11_fillingNow := gi_q gd_wsX11_digest _ [(126, 1), (6, 2), (127, 3), (11, 1), (130, 1), (22, 3), (19, 1), (25, 1), (21, 1), (26, 13), (131, 4), (4, 1), (16, 3), (20, 1), (135, 4), (15, 1), (139, 5), (66, 3), (144, 4), (5, 1), (94, 4), (41, 1), (98, 2), (39, 2), (42, 4), (103, 3), (100, 3), (148, 36), (208, 13), (240, 3), (233, 7), (221, 12), (243, 1)] rfl
set_option maxRecDepth 20000 in
theorem gX11_digest_X11_fillingNow : GoodIn wsX11_digest (wsV RX11 317 RX11 yX11_fillingNow wsX11_fillingNow) := goodIn_app (gi_q gd_wsX11_digest _ [(123, 3), (11, 1)] rfl) ggX11_digest_X11_fillingNow
set_option maxRecDepth 20000 in
theorem ggX11_digest_X11_bestSet : GoodIn wsX11_digest wsX11_bestSet := gi_q gd_wsX11_digest _ [(187, 1), (65, 1), (188, 1), (83, 2), (50, 4), (189, 4), (156, 3), (11, 1), (159, 1), (4, 1), (15, 7), (66, 3), (22, 24), (193, 4), (82, 1), (197, 3), (54, 3), (208, 13), (233, 10)] rfl
set_option maxRecDepth 20000 in
theorem gX11_digest_X11_bestSet : GoodIn wsX11_digest (wsV RX11 270 RX11 yX11_bestSet wsX11_bestSet) := goodIn_app (gi_q gd_wsX11_digest _ [(184, 3), (11, 1)] rfl) ggX11_digest_X11_bestSet
set_option maxRecDepth 20000 in
theorem ggX11_digest_X11_minutesOf : GoodIn wsX11_digest wsX11_minutesOf := gi_q gd_wsX11_digest _ [(203, 1), (84, 1), (184, 3), (11, 1), (187, 1), (65, 1), (188, 1), (83, 1), (50, 4), (189, 4), (156, 4), (4, 1), (15, 7), (66, 3), (22, 24), (193, 4), (82, 1), (197, 3), (54, 3), (208, 13), (233, 10)] rfl
set_option maxRecDepth 20000 in
theorem gX11_digest_X11_minutesOf : GoodIn wsX11_digest (wsV RX11 320 RX11 yX11_minutesOf wsX11_minutesOf) := goodIn_app (gi_q gd_wsX11_digest _ [(200, 3), (11, 1)] rfl) ggX11_digest_X11_minutesOf
set_option maxRecDepth 20000 in
theorem ggX11_digest_X11_driveOf : GoodIn wsX11_digest wsX11_driveOf := gi_q gd_wsX11_digest _ [(142, 2), (208, 13)] rfl
set_option maxRecDepth 20000 in
theorem gX11_digest_X11_driveOf : GoodIn wsX11_digest (wsV RX11 109 RX11 yX11_driveOf wsX11_driveOf) := goodIn_app (gi_q gd_wsX11_digest _ [(139, 3), (11, 1)] rfl) ggX11_digest_X11_driveOf
set_option maxRecDepth 20000 in
theorem ggX11_digest_X11_isSoundNow : GoodIn wsX11_digest wsX11_isSoundNow := gi_q gd_wsX11_digest _ [(207, 1), (6, 2), (5, 1), (94, 1), (14, 1), (16, 30), (95, 5), (103, 2), (11, 1), (105, 1), (100, 3), (86, 4), (84, 2), (8, 3), (12, 2), (4, 1), (15, 1), (46, 23), (208, 25), (240, 4), (233, 7)] rfl
set_option maxRecDepth 20000 in
theorem gX11_digest_X11_isSoundNow : GoodIn wsX11_digest (wsV RX11 377 RX11 yX11_isSoundNow wsX11_isSoundNow) := goodIn_app (gi_q gd_wsX11_digest _ [(204, 3), (11, 1)] rfl) ggX11_digest_X11_isSoundNow
def zT_cX11_digest : List (List Nat) := [[42, 3, 181, 0, 44, 42, 20, 1, 130, 181, 1, 124, 3, 60, 27, 16, 13, 162, 0, 19, 42, 42, 27, 182, 1, 95, 133, 182, 1, 132, 132, 1, 1, 167, 255, 237, 3, 60, 27, 42, 180, 0, 10, 182, 0, 48, 162, 0, 34, 3, 61, 28, 16, 9, 162, 0, 20, 42, 42, 27, 28, 182, 1, 40, 133, 182, 1, 132], [133, 182, 1, 132, 132, 2, 1, 167, 255, 236, 132, 1, 1, 167, 255, 217, 3, 60, 27, 16, 16, 162, 0, 34, 3, 61, 28, 16, 6, 162, 0, 20, 42, 42, 27, 28, 182, 1, 46, 133, 182, 1, 132, 132, 2, 1, 167, 255, 236, 132, 1, 1, 167, 255, 222, 3, 60, 27, 42, 180, 0, 16, 182, 0, 48, 162, 0, 34], [48, 162, 0, 34, 3, 61, 28, 16, 9, 162, 0, 20, 42, 42, 27, 28, 182, 1, 49, 133, 182, 1, 132, 132, 2, 1, 167, 255, 236, 132, 1, 1, 167, 255, 217, 3, 60, 27, 42, 180, 0, 19, 182, 0, 48, 162, 0, 99, 3, 61, 28, 16, 13, 162, 0, 20, 42, 42, 27, 28, 182, 1, 52, 133, 182, 1, 132, 132], [182, 1, 132, 132, 2, 1, 167, 255, 236, 3, 61, 28, 7, 162, 0, 37, 42, 180, 0, 19, 27, 182, 0, 90, 192, 0, 122, 180, 0, 124, 154, 0, 20, 42, 42, 27, 28, 182, 1, 61, 133, 182, 1, 132, 132, 2, 1, 167, 255, 220, 42, 42, 42, 180, 0, 19, 27, 182, 0, 90, 192, 0, 122, 180, 0, 160, 182, 1], [0, 160, 182, 1, 14, 190, 133, 182, 1, 132, 132, 1, 1, 167, 255, 152, 42, 42, 4, 42, 180, 0, 10, 182, 0, 48, 120, 4, 100, 182, 1, 64, 133, 182, 1, 132, 42, 42, 3, 8, 182, 0, 109, 133, 182, 1, 132, 42, 42, 182, 1, 121, 153, 0, 7, 10, 167, 0, 4, 9, 182, 1, 132, 42, 180, 1, 124, 173], [180, 1, 124, 173]]
theorem zE_cX11_digest : zTab cX11_digest.data.toList zT_cX11_digest = true := by decide +kernel
theorem dX11_digest_0 : decode cX11_digest 0 = .ok (.aload_n 0, 1) := dz_aload_n_0 (y0 zE_cX11_digest 0 0 (by decide +kernel))
theorem dX11_digest_1 : decode cX11_digest 1 = .ok (.iconst 0, 1) := dz_iconst_0 (y0 zE_cX11_digest 0 1 (by decide +kernel))
theorem dX11_digest_2 : decode cX11_digest 2 = .ok (.putfield 44, 3) := dz_putfield (yu2 zE_cX11_digest 0 2 (by decide +kernel))
theorem dX11_digest_5 : decode cX11_digest 5 = .ok (.aload_n 0, 1) := dz_aload_n_0 (y0 zE_cX11_digest 0 5 (by decide +kernel))
theorem dX11_digest_6 : decode cX11_digest 6 = .ok (.ldc2_w 386, 3) := dz_ldc2_w (yu2 zE_cX11_digest 0 6 (by decide +kernel))
theorem dX11_digest_9 : decode cX11_digest 9 = .ok (.putfield 380, 3) := dz_putfield (yu2 zE_cX11_digest 0 9 (by decide +kernel))
theorem dX11_digest_12 : decode cX11_digest 12 = .ok (.iconst 0, 1) := dz_iconst_0 (y0 zE_cX11_digest 0 12 (by decide +kernel))
theorem dX11_digest_13 : decode cX11_digest 13 = .ok (.istore_n 1, 1) := dz_istore_n_1 (y0 zE_cX11_digest 0 13 (by decide +kernel))
theorem dX11_digest_14 : decode cX11_digest 14 = .ok (.iload_n 1, 1) := dz_iload_n_1 (y0 zE_cX11_digest 0 14 (by decide +kernel))
theorem dX11_digest_15 : decode cX11_digest 15 = .ok (.bipush 13, 2) := dz_bipush (ys1 zE_cX11_digest 0 15 (by decide +kernel))
theorem dX11_digest_17 : decode cX11_digest 17 = .ok (.if_icmp .ge 19, 3) := dz_if_icmp_ge (ys2 zE_cX11_digest 0 17 (by decide +kernel))
theorem dX11_digest_20 : decode cX11_digest 20 = .ok (.aload_n 0, 1) := dz_aload_n_0 (y0 zE_cX11_digest 0 20 (by decide +kernel))
theorem dX11_digest_21 : decode cX11_digest 21 = .ok (.aload_n 0, 1) := dz_aload_n_0 (y0 zE_cX11_digest 0 21 (by decide +kernel))
theorem dX11_digest_22 : decode cX11_digest 22 = .ok (.iload_n 1, 1) := dz_iload_n_1 (y0 zE_cX11_digest 0 22 (by decide +kernel))
theorem dX11_digest_23 : decode cX11_digest 23 = .ok (.invokevirtual 351, 3) := dz_invokevirtual (yu2 zE_cX11_digest 0 23 (by decide +kernel))
theorem dX11_digest_26 : decode cX11_digest 26 = .ok (.i2l, 1) := dz_i2l (y0 zE_cX11_digest 0 26 (by decide +kernel))
theorem dX11_digest_27 : decode cX11_digest 27 = .ok (.invokevirtual 388, 3) := dz_invokevirtual (yu2 zE_cX11_digest 0 27 (by decide +kernel))
theorem dX11_digest_30 : decode cX11_digest 30 = .ok (.iinc 1 1, 3) := dz_iinc (yii zE_cX11_digest 0 30 (by decide +kernel))
theorem dX11_digest_33 : decode cX11_digest 33 = .ok (.goto (-19), 3) := dz_goto (ys2 zE_cX11_digest 0 33 (by decide +kernel))
theorem dX11_digest_36 : decode cX11_digest 36 = .ok (.iconst 0, 1) := dz_iconst_0 (y0 zE_cX11_digest 0 36 (by decide +kernel))
theorem dX11_digest_37 : decode cX11_digest 37 = .ok (.istore_n 1, 1) := dz_istore_n_1 (y0 zE_cX11_digest 0 37 (by decide +kernel))
theorem dX11_digest_38 : decode cX11_digest 38 = .ok (.iload_n 1, 1) := dz_iload_n_1 (y0 zE_cX11_digest 0 38 (by decide +kernel))
theorem dX11_digest_39 : decode cX11_digest 39 = .ok (.aload_n 0, 1) := dz_aload_n_0 (y0 zE_cX11_digest 0 39 (by decide +kernel))
theorem dX11_digest_40 : decode cX11_digest 40 = .ok (.getfield 10, 3) := dz_getfield (yu2 zE_cX11_digest 0 40 (by decide +kernel))
theorem dX11_digest_43 : decode cX11_digest 43 = .ok (.invokevirtual 48, 3) := dz_invokevirtual (yu2 zE_cX11_digest 0 43 (by decide +kernel))
theorem dX11_digest_46 : decode cX11_digest 46 = .ok (.if_icmp .ge 34, 3) := dz_if_icmp_ge (ys2 zE_cX11_digest 0 46 (by decide +kernel))
theorem dX11_digest_49 : decode cX11_digest 49 = .ok (.iconst 0, 1) := dz_iconst_0 (y0 zE_cX11_digest 0 49 (by decide +kernel))
theorem dX11_digest_50 : decode cX11_digest 50 = .ok (.istore_n 2, 1) := dz_istore_n_2 (y0 zE_cX11_digest 0 50 (by decide +kernel))
theorem dX11_digest_51 : decode cX11_digest 51 = .ok (.iload_n 2, 1) := dz_iload_n_2 (y0 zE_cX11_digest 0 51 (by decide +kernel))
theorem dX11_digest_52 : decode cX11_digest 52 = .ok (.bipush 9, 2) := dz_bipush (ys1 zE_cX11_digest 0 52 (by decide +kernel))
theorem dX11_digest_54 : decode cX11_digest 54 = .ok (.if_icmp .ge 20, 3) := dz_if_icmp_ge (ys2 zE_cX11_digest 0 54 (by decide +kernel))
theorem dX11_digest_57 : decode cX11_digest 57 = .ok (.aload_n 0, 1) := dz_aload_n_0 (y0 zE_cX11_digest 0 57 (by decide +kernel))
theorem dX11_digest_58 : decode cX11_digest 58 = .ok (.aload_n 0, 1) := dz_aload_n_0 (y0 zE_cX11_digest 0 58 (by decide +kernel))
theorem dX11_digest_59 : decode cX11_digest 59 = .ok (.iload_n 1, 1) := dz_iload_n_1 (y0 zE_cX11_digest 0 59 (by decide +kernel))
theorem dX11_digest_60 : decode cX11_digest 60 = .ok (.iload_n 2, 1) := dz_iload_n_2 (y0 zE_cX11_digest 0 60 (by decide +kernel))
theorem dX11_digest_61 : decode cX11_digest 61 = .ok (.invokevirtual 296, 3) := dz_invokevirtual (yu2 zE_cX11_digest 0 61 (by decide +kernel))
theorem dX11_digest_64 : decode cX11_digest 64 = .ok (.i2l, 1) := dz_i2l (y0 zE_cX11_digest 1 0 (by decide +kernel))
theorem dX11_digest_65 : decode cX11_digest 65 = .ok (.invokevirtual 388, 3) := dz_invokevirtual (yu2 zE_cX11_digest 1 1 (by decide +kernel))
theorem dX11_digest_68 : decode cX11_digest 68 = .ok (.iinc 2 1, 3) := dz_iinc (yii zE_cX11_digest 1 4 (by decide +kernel))
theorem dX11_digest_71 : decode cX11_digest 71 = .ok (.goto (-20), 3) := dz_goto (ys2 zE_cX11_digest 1 7 (by decide +kernel))
theorem dX11_digest_74 : decode cX11_digest 74 = .ok (.iinc 1 1, 3) := dz_iinc (yii zE_cX11_digest 1 10 (by decide +kernel))
theorem dX11_digest_77 : decode cX11_digest 77 = .ok (.goto (-39), 3) := dz_goto (ys2 zE_cX11_digest 1 13 (by decide +kernel))
theorem dX11_digest_80 : decode cX11_digest 80 = .ok (.iconst 0, 1) := dz_iconst_0 (y0 zE_cX11_digest 1 16 (by decide +kernel))
theorem dX11_digest_81 : decode cX11_digest 81 = .ok (.istore_n 1, 1) := dz_istore_n_1 (y0 zE_cX11_digest 1 17 (by decide +kernel))
theorem dX11_digest_82 : decode cX11_digest 82 = .ok (.iload_n 1, 1) := dz_iload_n_1 (y0 zE_cX11_digest 1 18 (by decide +kernel))
theorem dX11_digest_83 : decode cX11_digest 83 = .ok (.bipush 16, 2) := dz_bipush (ys1 zE_cX11_digest 1 19 (by decide +kernel))
theorem dX11_digest_85 : decode cX11_digest 85 = .ok (.if_icmp .ge 34, 3) := dz_if_icmp_ge (ys2 zE_cX11_digest 1 21 (by decide +kernel))
theorem dX11_digest_88 : decode cX11_digest 88 = .ok (.iconst 0, 1) := dz_iconst_0 (y0 zE_cX11_digest 1 24 (by decide +kernel))
theorem dX11_digest_89 : decode cX11_digest 89 = .ok (.istore_n 2, 1) := dz_istore_n_2 (y0 zE_cX11_digest 1 25 (by decide +kernel))
theorem dX11_digest_90 : decode cX11_digest 90 = .ok (.iload_n 2, 1) := dz_iload_n_2 (y0 zE_cX11_digest 1 26 (by decide +kernel))
theorem dX11_digest_91 : decode cX11_digest 91 = .ok (.bipush 6, 2) := dz_bipush (ys1 zE_cX11_digest 1 27 (by decide +kernel))
theorem dX11_digest_93 : decode cX11_digest 93 = .ok (.if_icmp .ge 20, 3) := dz_if_icmp_ge (ys2 zE_cX11_digest 1 29 (by decide +kernel))
theorem dX11_digest_96 : decode cX11_digest 96 = .ok (.aload_n 0, 1) := dz_aload_n_0 (y0 zE_cX11_digest 1 32 (by decide +kernel))
theorem dX11_digest_97 : decode cX11_digest 97 = .ok (.aload_n 0, 1) := dz_aload_n_0 (y0 zE_cX11_digest 1 33 (by decide +kernel))
theorem dX11_digest_98 : decode cX11_digest 98 = .ok (.iload_n 1, 1) := dz_iload_n_1 (y0 zE_cX11_digest 1 34 (by decide +kernel))
theorem dX11_digest_99 : decode cX11_digest 99 = .ok (.iload_n 2, 1) := dz_iload_n_2 (y0 zE_cX11_digest 1 35 (by decide +kernel))
theorem dX11_digest_100 : decode cX11_digest 100 = .ok (.invokevirtual 302, 3) := dz_invokevirtual (yu2 zE_cX11_digest 1 36 (by decide +kernel))
theorem dX11_digest_103 : decode cX11_digest 103 = .ok (.i2l, 1) := dz_i2l (y0 zE_cX11_digest 1 39 (by decide +kernel))
theorem dX11_digest_104 : decode cX11_digest 104 = .ok (.invokevirtual 388, 3) := dz_invokevirtual (yu2 zE_cX11_digest 1 40 (by decide +kernel))
theorem dX11_digest_107 : decode cX11_digest 107 = .ok (.iinc 2 1, 3) := dz_iinc (yii zE_cX11_digest 1 43 (by decide +kernel))
theorem dX11_digest_110 : decode cX11_digest 110 = .ok (.goto (-20), 3) := dz_goto (ys2 zE_cX11_digest 1 46 (by decide +kernel))
theorem dX11_digest_113 : decode cX11_digest 113 = .ok (.iinc 1 1, 3) := dz_iinc (yii zE_cX11_digest 1 49 (by decide +kernel))
theorem dX11_digest_116 : decode cX11_digest 116 = .ok (.goto (-34), 3) := dz_goto (ys2 zE_cX11_digest 1 52 (by decide +kernel))
theorem dX11_digest_119 : decode cX11_digest 119 = .ok (.iconst 0, 1) := dz_iconst_0 (y0 zE_cX11_digest 1 55 (by decide +kernel))
theorem dX11_digest_120 : decode cX11_digest 120 = .ok (.istore_n 1, 1) := dz_istore_n_1 (y0 zE_cX11_digest 1 56 (by decide +kernel))
theorem dX11_digest_121 : decode cX11_digest 121 = .ok (.iload_n 1, 1) := dz_iload_n_1 (y0 zE_cX11_digest 1 57 (by decide +kernel))
theorem dX11_digest_122 : decode cX11_digest 122 = .ok (.aload_n 0, 1) := dz_aload_n_0 (y0 zE_cX11_digest 1 58 (by decide +kernel))
theorem dX11_digest_123 : decode cX11_digest 123 = .ok (.getfield 16, 3) := dz_getfield (yu2 zE_cX11_digest 1 59 (by decide +kernel))
theorem dX11_digest_126 : decode cX11_digest 126 = .ok (.invokevirtual 48, 3) := dz_invokevirtual (yu2 zE_cX11_digest 1 62 (by decide +kernel))
theorem dX11_digest_129 : decode cX11_digest 129 = .ok (.if_icmp .ge 34, 3) := dz_if_icmp_ge (ys2 zE_cX11_digest 2 1 (by decide +kernel))
theorem dX11_digest_132 : decode cX11_digest 132 = .ok (.iconst 0, 1) := dz_iconst_0 (y0 zE_cX11_digest 2 4 (by decide +kernel))
theorem dX11_digest_133 : decode cX11_digest 133 = .ok (.istore_n 2, 1) := dz_istore_n_2 (y0 zE_cX11_digest 2 5 (by decide +kernel))
theorem dX11_digest_134 : decode cX11_digest 134 = .ok (.iload_n 2, 1) := dz_iload_n_2 (y0 zE_cX11_digest 2 6 (by decide +kernel))
theorem dX11_digest_135 : decode cX11_digest 135 = .ok (.bipush 9, 2) := dz_bipush (ys1 zE_cX11_digest 2 7 (by decide +kernel))
theorem dX11_digest_137 : decode cX11_digest 137 = .ok (.if_icmp .ge 20, 3) := dz_if_icmp_ge (ys2 zE_cX11_digest 2 9 (by decide +kernel))
theorem dX11_digest_140 : decode cX11_digest 140 = .ok (.aload_n 0, 1) := dz_aload_n_0 (y0 zE_cX11_digest 2 12 (by decide +kernel))
theorem dX11_digest_141 : decode cX11_digest 141 = .ok (.aload_n 0, 1) := dz_aload_n_0 (y0 zE_cX11_digest 2 13 (by decide +kernel))
theorem dX11_digest_142 : decode cX11_digest 142 = .ok (.iload_n 1, 1) := dz_iload_n_1 (y0 zE_cX11_digest 2 14 (by decide +kernel))
theorem dX11_digest_143 : decode cX11_digest 143 = .ok (.iload_n 2, 1) := dz_iload_n_2 (y0 zE_cX11_digest 2 15 (by decide +kernel))
theorem dX11_digest_144 : decode cX11_digest 144 = .ok (.invokevirtual 305, 3) := dz_invokevirtual (yu2 zE_cX11_digest 2 16 (by decide +kernel))
theorem dX11_digest_147 : decode cX11_digest 147 = .ok (.i2l, 1) := dz_i2l (y0 zE_cX11_digest 2 19 (by decide +kernel))
theorem dX11_digest_148 : decode cX11_digest 148 = .ok (.invokevirtual 388, 3) := dz_invokevirtual (yu2 zE_cX11_digest 2 20 (by decide +kernel))
theorem dX11_digest_151 : decode cX11_digest 151 = .ok (.iinc 2 1, 3) := dz_iinc (yii zE_cX11_digest 2 23 (by decide +kernel))
theorem dX11_digest_154 : decode cX11_digest 154 = .ok (.goto (-20), 3) := dz_goto (ys2 zE_cX11_digest 2 26 (by decide +kernel))
theorem dX11_digest_157 : decode cX11_digest 157 = .ok (.iinc 1 1, 3) := dz_iinc (yii zE_cX11_digest 2 29 (by decide +kernel))
theorem dX11_digest_160 : decode cX11_digest 160 = .ok (.goto (-39), 3) := dz_goto (ys2 zE_cX11_digest 2 32 (by decide +kernel))
theorem dX11_digest_163 : decode cX11_digest 163 = .ok (.iconst 0, 1) := dz_iconst_0 (y0 zE_cX11_digest 2 35 (by decide +kernel))
theorem dX11_digest_164 : decode cX11_digest 164 = .ok (.istore_n 1, 1) := dz_istore_n_1 (y0 zE_cX11_digest 2 36 (by decide +kernel))
theorem dX11_digest_165 : decode cX11_digest 165 = .ok (.iload_n 1, 1) := dz_iload_n_1 (y0 zE_cX11_digest 2 37 (by decide +kernel))
theorem dX11_digest_166 : decode cX11_digest 166 = .ok (.aload_n 0, 1) := dz_aload_n_0 (y0 zE_cX11_digest 2 38 (by decide +kernel))
theorem dX11_digest_167 : decode cX11_digest 167 = .ok (.getfield 19, 3) := dz_getfield (yu2 zE_cX11_digest 2 39 (by decide +kernel))
theorem dX11_digest_170 : decode cX11_digest 170 = .ok (.invokevirtual 48, 3) := dz_invokevirtual (yu2 zE_cX11_digest 2 42 (by decide +kernel))
theorem dX11_digest_173 : decode cX11_digest 173 = .ok (.if_icmp .ge 99, 3) := dz_if_icmp_ge (ys2 zE_cX11_digest 2 45 (by decide +kernel))
theorem dX11_digest_176 : decode cX11_digest 176 = .ok (.iconst 0, 1) := dz_iconst_0 (y0 zE_cX11_digest 2 48 (by decide +kernel))
theorem dX11_digest_177 : decode cX11_digest 177 = .ok (.istore_n 2, 1) := dz_istore_n_2 (y0 zE_cX11_digest 2 49 (by decide +kernel))
theorem dX11_digest_178 : decode cX11_digest 178 = .ok (.iload_n 2, 1) := dz_iload_n_2 (y0 zE_cX11_digest 2 50 (by decide +kernel))
theorem dX11_digest_179 : decode cX11_digest 179 = .ok (.bipush 13, 2) := dz_bipush (ys1 zE_cX11_digest 2 51 (by decide +kernel))
theorem dX11_digest_181 : decode cX11_digest 181 = .ok (.if_icmp .ge 20, 3) := dz_if_icmp_ge (ys2 zE_cX11_digest 2 53 (by decide +kernel))
theorem dX11_digest_184 : decode cX11_digest 184 = .ok (.aload_n 0, 1) := dz_aload_n_0 (y0 zE_cX11_digest 2 56 (by decide +kernel))
theorem dX11_digest_185 : decode cX11_digest 185 = .ok (.aload_n 0, 1) := dz_aload_n_0 (y0 zE_cX11_digest 2 57 (by decide +kernel))
theorem dX11_digest_186 : decode cX11_digest 186 = .ok (.iload_n 1, 1) := dz_iload_n_1 (y0 zE_cX11_digest 2 58 (by decide +kernel))
theorem dX11_digest_187 : decode cX11_digest 187 = .ok (.iload_n 2, 1) := dz_iload_n_2 (y0 zE_cX11_digest 2 59 (by decide +kernel))
theorem dX11_digest_188 : decode cX11_digest 188 = .ok (.invokevirtual 308, 3) := dz_invokevirtual (yu2 zE_cX11_digest 2 60 (by decide +kernel))
theorem dX11_digest_191 : decode cX11_digest 191 = .ok (.i2l, 1) := dz_i2l (y0 zE_cX11_digest 2 63 (by decide +kernel))
theorem dX11_digest_192 : decode cX11_digest 192 = .ok (.invokevirtual 388, 3) := dz_invokevirtual (yu2 zE_cX11_digest 3 0 (by decide +kernel))
theorem dX11_digest_195 : decode cX11_digest 195 = .ok (.iinc 2 1, 3) := dz_iinc (yii zE_cX11_digest 3 3 (by decide +kernel))
theorem dX11_digest_198 : decode cX11_digest 198 = .ok (.goto (-20), 3) := dz_goto (ys2 zE_cX11_digest 3 6 (by decide +kernel))
theorem dX11_digest_201 : decode cX11_digest 201 = .ok (.iconst 0, 1) := dz_iconst_0 (y0 zE_cX11_digest 3 9 (by decide +kernel))
theorem dX11_digest_202 : decode cX11_digest 202 = .ok (.istore_n 2, 1) := dz_istore_n_2 (y0 zE_cX11_digest 3 10 (by decide +kernel))
theorem dX11_digest_203 : decode cX11_digest 203 = .ok (.iload_n 2, 1) := dz_iload_n_2 (y0 zE_cX11_digest 3 11 (by decide +kernel))
theorem dX11_digest_204 : decode cX11_digest 204 = .ok (.iconst 4, 1) := dz_iconst_4 (y0 zE_cX11_digest 3 12 (by decide +kernel))
theorem dX11_digest_205 : decode cX11_digest 205 = .ok (.if_icmp .ge 37, 3) := dz_if_icmp_ge (ys2 zE_cX11_digest 3 13 (by decide +kernel))
theorem dX11_digest_208 : decode cX11_digest 208 = .ok (.aload_n 0, 1) := dz_aload_n_0 (y0 zE_cX11_digest 3 16 (by decide +kernel))
theorem dX11_digest_209 : decode cX11_digest 209 = .ok (.getfield 19, 3) := dz_getfield (yu2 zE_cX11_digest 3 17 (by decide +kernel))
theorem dX11_digest_212 : decode cX11_digest 212 = .ok (.iload_n 1, 1) := dz_iload_n_1 (y0 zE_cX11_digest 3 20 (by decide +kernel))
theorem dX11_digest_213 : decode cX11_digest 213 = .ok (.invokevirtual 90, 3) := dz_invokevirtual (yu2 zE_cX11_digest 3 21 (by decide +kernel))
theorem dX11_digest_216 : decode cX11_digest 216 = .ok (.checkcast 122, 3) := dz_checkcast (yu2 zE_cX11_digest 3 24 (by decide +kernel))
theorem dX11_digest_219 : decode cX11_digest 219 = .ok (.getfield 124, 3) := dz_getfield (yu2 zE_cX11_digest 3 27 (by decide +kernel))
theorem dX11_digest_222 : decode cX11_digest 222 = .ok (.ifCond .ne 20, 3) := dz_ifCond_ne (ys2 zE_cX11_digest 3 30 (by decide +kernel))
theorem dX11_digest_225 : decode cX11_digest 225 = .ok (.aload_n 0, 1) := dz_aload_n_0 (y0 zE_cX11_digest 3 33 (by decide +kernel))
theorem dX11_digest_226 : decode cX11_digest 226 = .ok (.aload_n 0, 1) := dz_aload_n_0 (y0 zE_cX11_digest 3 34 (by decide +kernel))
theorem dX11_digest_227 : decode cX11_digest 227 = .ok (.iload_n 1, 1) := dz_iload_n_1 (y0 zE_cX11_digest 3 35 (by decide +kernel))
theorem dX11_digest_228 : decode cX11_digest 228 = .ok (.iload_n 2, 1) := dz_iload_n_2 (y0 zE_cX11_digest 3 36 (by decide +kernel))
theorem dX11_digest_229 : decode cX11_digest 229 = .ok (.invokevirtual 317, 3) := dz_invokevirtual (yu2 zE_cX11_digest 3 37 (by decide +kernel))
theorem dX11_digest_232 : decode cX11_digest 232 = .ok (.i2l, 1) := dz_i2l (y0 zE_cX11_digest 3 40 (by decide +kernel))
theorem dX11_digest_233 : decode cX11_digest 233 = .ok (.invokevirtual 388, 3) := dz_invokevirtual (yu2 zE_cX11_digest 3 41 (by decide +kernel))
theorem dX11_digest_236 : decode cX11_digest 236 = .ok (.iinc 2 1, 3) := dz_iinc (yii zE_cX11_digest 3 44 (by decide +kernel))
theorem dX11_digest_239 : decode cX11_digest 239 = .ok (.goto (-36), 3) := dz_goto (ys2 zE_cX11_digest 3 47 (by decide +kernel))
theorem dX11_digest_242 : decode cX11_digest 242 = .ok (.aload_n 0, 1) := dz_aload_n_0 (y0 zE_cX11_digest 3 50 (by decide +kernel))
theorem dX11_digest_243 : decode cX11_digest 243 = .ok (.aload_n 0, 1) := dz_aload_n_0 (y0 zE_cX11_digest 3 51 (by decide +kernel))
theorem dX11_digest_244 : decode cX11_digest 244 = .ok (.aload_n 0, 1) := dz_aload_n_0 (y0 zE_cX11_digest 3 52 (by decide +kernel))
theorem dX11_digest_245 : decode cX11_digest 245 = .ok (.getfield 19, 3) := dz_getfield (yu2 zE_cX11_digest 3 53 (by decide +kernel))
theorem dX11_digest_248 : decode cX11_digest 248 = .ok (.iload_n 1, 1) := dz_iload_n_1 (y0 zE_cX11_digest 3 56 (by decide +kernel))
theorem dX11_digest_249 : decode cX11_digest 249 = .ok (.invokevirtual 90, 3) := dz_invokevirtual (yu2 zE_cX11_digest 3 57 (by decide +kernel))
theorem dX11_digest_252 : decode cX11_digest 252 = .ok (.checkcast 122, 3) := dz_checkcast (yu2 zE_cX11_digest 3 60 (by decide +kernel))
theorem dX11_digest_255 : decode cX11_digest 255 = .ok (.getfield 160, 3) := dz_getfield (yu2 zE_cX11_digest 3 63 (by decide +kernel))
theorem dX11_digest_258 : decode cX11_digest 258 = .ok (.invokevirtual 270, 3) := dz_invokevirtual (yu2 zE_cX11_digest 4 2 (by decide +kernel))
theorem dX11_digest_261 : decode cX11_digest 261 = .ok (.arraylength, 1) := dz_arraylength (y0 zE_cX11_digest 4 5 (by decide +kernel))
theorem dX11_digest_262 : decode cX11_digest 262 = .ok (.i2l, 1) := dz_i2l (y0 zE_cX11_digest 4 6 (by decide +kernel))
theorem dX11_digest_263 : decode cX11_digest 263 = .ok (.invokevirtual 388, 3) := dz_invokevirtual (yu2 zE_cX11_digest 4 7 (by decide +kernel))
theorem dX11_digest_266 : decode cX11_digest 266 = .ok (.iinc 1 1, 3) := dz_iinc (yii zE_cX11_digest 4 10 (by decide +kernel))
theorem dX11_digest_269 : decode cX11_digest 269 = .ok (.goto (-104), 3) := dz_goto (ys2 zE_cX11_digest 4 13 (by decide +kernel))
theorem dX11_digest_272 : decode cX11_digest 272 = .ok (.aload_n 0, 1) := dz_aload_n_0 (y0 zE_cX11_digest 4 16 (by decide +kernel))
theorem dX11_digest_273 : decode cX11_digest 273 = .ok (.aload_n 0, 1) := dz_aload_n_0 (y0 zE_cX11_digest 4 17 (by decide +kernel))
theorem dX11_digest_274 : decode cX11_digest 274 = .ok (.iconst 1, 1) := dz_iconst_1 (y0 zE_cX11_digest 4 18 (by decide +kernel))
theorem dX11_digest_275 : decode cX11_digest 275 = .ok (.aload_n 0, 1) := dz_aload_n_0 (y0 zE_cX11_digest 4 19 (by decide +kernel))
theorem dX11_digest_276 : decode cX11_digest 276 = .ok (.getfield 10, 3) := dz_getfield (yu2 zE_cX11_digest 4 20 (by decide +kernel))
theorem dX11_digest_279 : decode cX11_digest 279 = .ok (.invokevirtual 48, 3) := dz_invokevirtual (yu2 zE_cX11_digest 4 23 (by decide +kernel))
theorem dX11_digest_282 : decode cX11_digest 282 = .ok (.ishl, 1) := dz_ishl (y0 zE_cX11_digest 4 26 (by decide +kernel))
theorem dX11_digest_283 : decode cX11_digest 283 = .ok (.iconst 1, 1) := dz_iconst_1 (y0 zE_cX11_digest 4 27 (by decide +kernel))
theorem dX11_digest_284 : decode cX11_digest 284 = .ok (.isub, 1) := dz_isub (y0 zE_cX11_digest 4 28 (by decide +kernel))
theorem dX11_digest_285 : decode cX11_digest 285 = .ok (.invokevirtual 320, 3) := dz_invokevirtual (yu2 zE_cX11_digest 4 29 (by decide +kernel))
theorem dX11_digest_288 : decode cX11_digest 288 = .ok (.i2l, 1) := dz_i2l (y0 zE_cX11_digest 4 32 (by decide +kernel))
theorem dX11_digest_289 : decode cX11_digest 289 = .ok (.invokevirtual 388, 3) := dz_invokevirtual (yu2 zE_cX11_digest 4 33 (by decide +kernel))
theorem dX11_digest_292 : decode cX11_digest 292 = .ok (.aload_n 0, 1) := dz_aload_n_0 (y0 zE_cX11_digest 4 36 (by decide +kernel))
theorem dX11_digest_293 : decode cX11_digest 293 = .ok (.aload_n 0, 1) := dz_aload_n_0 (y0 zE_cX11_digest 4 37 (by decide +kernel))
theorem dX11_digest_294 : decode cX11_digest 294 = .ok (.iconst 0, 1) := dz_iconst_0 (y0 zE_cX11_digest 4 38 (by decide +kernel))
theorem dX11_digest_295 : decode cX11_digest 295 = .ok (.iconst 5, 1) := dz_iconst_5 (y0 zE_cX11_digest 4 39 (by decide +kernel))
theorem dX11_digest_296 : decode cX11_digest 296 = .ok (.invokevirtual 109, 3) := dz_invokevirtual (yu2 zE_cX11_digest 4 40 (by decide +kernel))
theorem dX11_digest_299 : decode cX11_digest 299 = .ok (.i2l, 1) := dz_i2l (y0 zE_cX11_digest 4 43 (by decide +kernel))
theorem dX11_digest_300 : decode cX11_digest 300 = .ok (.invokevirtual 388, 3) := dz_invokevirtual (yu2 zE_cX11_digest 4 44 (by decide +kernel))
theorem dX11_digest_303 : decode cX11_digest 303 = .ok (.aload_n 0, 1) := dz_aload_n_0 (y0 zE_cX11_digest 4 47 (by decide +kernel))
theorem dX11_digest_304 : decode cX11_digest 304 = .ok (.aload_n 0, 1) := dz_aload_n_0 (y0 zE_cX11_digest 4 48 (by decide +kernel))
theorem dX11_digest_305 : decode cX11_digest 305 = .ok (.invokevirtual 377, 3) := dz_invokevirtual (yu2 zE_cX11_digest 4 49 (by decide +kernel))
theorem dX11_digest_308 : decode cX11_digest 308 = .ok (.ifCond .eq 7, 3) := dz_ifCond_eq (ys2 zE_cX11_digest 4 52 (by decide +kernel))
theorem dX11_digest_311 : decode cX11_digest 311 = .ok (.lconst 1, 1) := dz_lconst_1 (y0 zE_cX11_digest 4 55 (by decide +kernel))
theorem dX11_digest_312 : decode cX11_digest 312 = .ok (.goto 4, 3) := dz_goto (ys2 zE_cX11_digest 4 56 (by decide +kernel))
theorem dX11_digest_315 : decode cX11_digest 315 = .ok (.lconst 0, 1) := dz_lconst_0 (y0 zE_cX11_digest 4 59 (by decide +kernel))
theorem dX11_digest_316 : decode cX11_digest 316 = .ok (.invokevirtual 388, 3) := dz_invokevirtual (yu2 zE_cX11_digest 4 60 (by decide +kernel))
theorem dX11_digest_319 : decode cX11_digest 319 = .ok (.aload_n 0, 1) := dz_aload_n_0 (y0 zE_cX11_digest 4 63 (by decide +kernel))
theorem dX11_digest_320 : decode cX11_digest 320 = .ok (.getfield 380, 3) := dz_getfield (yu2 zE_cX11_digest 5 0 (by decide +kernel))
theorem dX11_digest_323 : decode cX11_digest 323 = .ok (.lreturn, 1) := dz_lreturn (y0 zE_cX11_digest 5 3 (by decide +kernel))
theorem gd_wsJ5_init_d00df : wsJ5_init_d00df.all goodWord = true := by decide +kernel
set_option maxRecDepth 20000 in
theorem ggJ5_init_d00df_J2_newBytesFor_77867 : GoodIn wsJ5_init_d00df wsJ2_newBytesFor_77867 := gi_q gd_wsJ5_init_d00df _ [(11, 1), (5, 1), (12, 2), (10, 1), (14, 2)] rfl
set_option maxRecDepth 20000 in
theorem gJ5_init_d00df_J2_newBytesFor_77867 : GoodIn wsJ5_init_d00df (va_wsS RJ5 26 yJ2_newBytesFor_77867 wsJ2_newBytesFor_77867) := goodIn_app (gi_q gd_wsJ5_init_d00df _ [(8, 3)] rfl) ggJ5_init_d00df_J2_newBytesFor_77867
def zT_cJ5_init_d00df : List (List Nat) := [[42, 183, 0, 3, 178, 0, 18, 153, 0, 18, 42, 27, 188, 8, 181, 0, 15, 42, 3, 181, 0, 22, 167, 0, 16, 42, 27, 184, 0, 26, 181, 0, 15, 42, 4, 181, 0, 22, 177]]
theorem zE_cJ5_init_d00df : zTab cJ5_init_d00df.data.toList zT_cJ5_init_d00df = true := by decide +kernel
theorem dJ5_init_d00df_0 : decode cJ5_init_d00df 0 = .ok (.aload_n 0, 1) := dz_aload_n_0 (y0 zE_cJ5_init_d00df 0 0 (by decide +kernel))
theorem dJ5_init_d00df_1 : decode cJ5_init_d00df 1 = .ok (.invokespecial 3, 3) := dz_invokespecial (yu2 zE_cJ5_init_d00df 0 1 (by decide +kernel))
theorem dJ5_init_d00df_4 : decode cJ5_init_d00df 4 = .ok (.getstatic 18, 3) := dz_getstatic (yu2 zE_cJ5_init_d00df 0 4 (by decide +kernel))
theorem dJ5_init_d00df_7 : decode cJ5_init_d00df 7 = .ok (.ifCond .eq 18, 3) := dz_ifCond_eq (ys2 zE_cJ5_init_d00df 0 7 (by decide +kernel))
theorem dJ5_init_d00df_10 : decode cJ5_init_d00df 10 = .ok (.aload_n 0, 1) := dz_aload_n_0 (y0 zE_cJ5_init_d00df 0 10 (by decide +kernel))
theorem dJ5_init_d00df_11 : decode cJ5_init_d00df 11 = .ok (.iload_n 1, 1) := dz_iload_n_1 (y0 zE_cJ5_init_d00df 0 11 (by decide +kernel))
theorem dJ5_init_d00df_12 : decode cJ5_init_d00df 12 = .ok (.newarray .byte, 2) := dkT (by decide +kernel)
theorem dJ5_init_d00df_14 : decode cJ5_init_d00df 14 = .ok (.putfield 15, 3) := dz_putfield (yu2 zE_cJ5_init_d00df 0 14 (by decide +kernel))
theorem dJ5_init_d00df_17 : decode cJ5_init_d00df 17 = .ok (.aload_n 0, 1) := dz_aload_n_0 (y0 zE_cJ5_init_d00df 0 17 (by decide +kernel))
theorem dJ5_init_d00df_18 : decode cJ5_init_d00df 18 = .ok (.iconst 0, 1) := dz_iconst_0 (y0 zE_cJ5_init_d00df 0 18 (by decide +kernel))
theorem dJ5_init_d00df_19 : decode cJ5_init_d00df 19 = .ok (.putfield 22, 3) := dz_putfield (yu2 zE_cJ5_init_d00df 0 19 (by decide +kernel))
theorem dJ5_init_d00df_22 : decode cJ5_init_d00df 22 = .ok (.goto 16, 3) := dz_goto (ys2 zE_cJ5_init_d00df 0 22 (by decide +kernel))
theorem dJ5_init_d00df_25 : decode cJ5_init_d00df 25 = .ok (.aload_n 0, 1) := dz_aload_n_0 (y0 zE_cJ5_init_d00df 0 25 (by decide +kernel))
theorem dJ5_init_d00df_26 : decode cJ5_init_d00df 26 = .ok (.iload_n 1, 1) := dz_iload_n_1 (y0 zE_cJ5_init_d00df 0 26 (by decide +kernel))
theorem dJ5_init_d00df_27 : decode cJ5_init_d00df 27 = .ok (.invokestatic 26, 3) := dz_invokestatic (yu2 zE_cJ5_init_d00df 0 27 (by decide +kernel))
theorem dJ5_init_d00df_30 : decode cJ5_init_d00df 30 = .ok (.putfield 15, 3) := dz_putfield (yu2 zE_cJ5_init_d00df 0 30 (by decide +kernel))
theorem dJ5_init_d00df_33 : decode cJ5_init_d00df 33 = .ok (.aload_n 0, 1) := dz_aload_n_0 (y0 zE_cJ5_init_d00df 0 33 (by decide +kernel))
theorem dJ5_init_d00df_34 : decode cJ5_init_d00df 34 = .ok (.iconst 1, 1) := dz_iconst_1 (y0 zE_cJ5_init_d00df 0 34 (by decide +kernel))
theorem dJ5_init_d00df_35 : decode cJ5_init_d00df 35 = .ok (.putfield 22, 3) := dz_putfield (yu2 zE_cJ5_init_d00df 0 35 (by decide +kernel))
theorem dJ5_init_d00df_38 : decode cJ5_init_d00df 38 = .ok (.return_, 1) := dz_return (y0 zE_cJ5_init_d00df 0 38 (by decide +kernel))
theorem dJ5_length_8abf5_0 : decode cJ5_length_8abf5 0 = .ok (.aload_n 0, 1) := dkT (by decide +kernel)
theorem dJ5_length_8abf5_1 : decode cJ5_length_8abf5 1 = .ok (.getfield 79, 3) := dkT (by decide +kernel)
theorem dJ5_length_8abf5_4 : decode cJ5_length_8abf5 4 = .ok (.ireturn, 1) := dkT (by decide +kernel)
theorem gd_wsJ5_ensureCapacityInternal_d00df : wsJ5_ensureCapacityInternal_d00df.all goodWord = true := by decide +kernel
set_option maxRecDepth 20000 in
theorem ggJ5_ensureCapacityInternal_d00df_J5_newCapacity_0f7a4 : GoodIn wsJ5_ensureCapacityInternal_d00df wsJ5_newCapacity_0f7a4 := gi_q gd_wsJ5_ensureCapacityInternal_d00df _ [(8, 1), (1, 2), (9, 13), (40, 4)] rfl
set_option maxRecDepth 20000 in
theorem gJ5_ensureCapacityInternal_d00df_J5_newCapacity_0f7a4_u104J4 : GoodIn wsJ5_ensureCapacityInternal_d00df (va_wsU RJ5 104 RJ4 "java/lang/AbstractStringBuilder" ⟨"java/lang/AbstractStringBuilder", "newCapacity", "(I)I"⟩ yJ5_newCapacity_0f7a4 wsJ5_newCapacity_0f7a4) := goodIn_app (goodIn_of _ (by decide +kernel)) ggJ5_ensureCapacityInternal_d00df_J5_newCapacity_0f7a4
set_option maxRecDepth 20000 in
theorem ggJ5_ensureCapacityInternal_d00df_J7_copyOf_9075b : GoodIn wsJ5_ensureCapacityInternal_d00df wsJ7_copyOf_9075b := gi_q gd_wsJ5_ensureCapacityInternal_d00df _ [(25, 10), (16, 1), (35, 5)] rfl
set_option maxRecDepth 20000 in
theorem gJ5_ensureCapacityInternal_d00df_J7_copyOf_9075b : GoodIn wsJ5_ensureCapacityInternal_d00df (va_wsS RJ5 108 yJ7_copyOf_9075b wsJ7_copyOf_9075b) := goodIn_app (gi_q gd_wsJ5_ensureCapacityInternal_d00df _ [(22, 3)] rfl) ggJ5_ensureCapacityInternal_d00df_J7_copyOf_9075b
def zT_cJ5_ensureCapacityInternal_d00df : List (List Nat) := [[42, 180, 0, 15, 190, 42, 180, 0, 22, 122, 61, 27, 28, 100, 158, 0, 24, 42, 42, 180, 0, 15, 42, 27, 182, 0, 104, 42, 180, 0, 22, 120, 184, 0, 108, 181, 0, 15, 177]]
theorem zE_cJ5_ensureCapacityInternal_d00df : zTab cJ5_ensureCapacityInternal_d00df.data.toList zT_cJ5_ensureCapacityInternal_d00df = true := by decide +kernel
theorem dJ5_ensureCapacityInternal_d00df_0 : decode cJ5_ensureCapacityInternal_d00df 0 = .ok (.aload_n 0, 1) := dz_aload_n_0 (y0 zE_cJ5_ensureCapacityInternal_d00df 0 0 (by decide +kernel))
theorem dJ5_ensureCapacityInternal_d00df_1 : decode cJ5_ensureCapacityInternal_d00df 1 = .ok (.getfield 15, 3) := dz_getfield (yu2 zE_cJ5_ensureCapacityInternal_d00df 0 1 (by decide +kernel))
theorem dJ5_ensureCapacityInternal_d00df_4 : decode cJ5_ensureCapacityInternal_d00df 4 = .ok (.arraylength, 1) := dz_arraylength (y0 zE_cJ5_ensureCapacityInternal_d00df 0 4 (by decide +kernel))
theorem dJ5_ensureCapacityInternal_d00df_5 : decode cJ5_ensureCapacityInternal_d00df 5 = .ok (.aload_n 0, 1) := dz_aload_n_0 (y0 zE_cJ5_ensureCapacityInternal_d00df 0 5 (by decide +kernel))
theorem dJ5_ensureCapacityInternal_d00df_6 : decode cJ5_ensureCapacityInternal_d00df 6 = .ok (.getfield 22, 3) := dz_getfield (yu2 zE_cJ5_ensureCapacityInternal_d00df 0 6 (by decide +kernel))
theorem dJ5_ensureCapacityInternal_d00df_9 : decode cJ5_ensureCapacityInternal_d00df 9 = .ok (.ishr, 1) := dz_ishr (y0 zE_cJ5_ensureCapacityInternal_d00df 0 9 (by decide +kernel))
theorem dJ5_ensureCapacityInternal_d00df_10 : decode cJ5_ensureCapacityInternal_d00df 10 = .ok (.istore_n 2, 1) := dz_istore_n_2 (y0 zE_cJ5_ensureCapacityInternal_d00df 0 10 (by decide +kernel))
theorem dJ5_ensureCapacityInternal_d00df_11 : decode cJ5_ensureCapacityInternal_d00df 11 = .ok (.iload_n 1, 1) := dz_iload_n_1 (y0 zE_cJ5_ensureCapacityInternal_d00df 0 11 (by decide +kernel))
theorem dJ5_ensureCapacityInternal_d00df_12 : decode cJ5_ensureCapacityInternal_d00df 12 = .ok (.iload_n 2, 1) := dz_iload_n_2 (y0 zE_cJ5_ensureCapacityInternal_d00df 0 12 (by decide +kernel))
theorem dJ5_ensureCapacityInternal_d00df_13 : decode cJ5_ensureCapacityInternal_d00df 13 = .ok (.isub, 1) := dz_isub (y0 zE_cJ5_ensureCapacityInternal_d00df 0 13 (by decide +kernel))
theorem dJ5_ensureCapacityInternal_d00df_14 : decode cJ5_ensureCapacityInternal_d00df 14 = .ok (.ifCond .le 24, 3) := dz_ifCond_le (ys2 zE_cJ5_ensureCapacityInternal_d00df 0 14 (by decide +kernel))
theorem dJ5_ensureCapacityInternal_d00df_17 : decode cJ5_ensureCapacityInternal_d00df 17 = .ok (.aload_n 0, 1) := dz_aload_n_0 (y0 zE_cJ5_ensureCapacityInternal_d00df 0 17 (by decide +kernel))
theorem dJ5_ensureCapacityInternal_d00df_18 : decode cJ5_ensureCapacityInternal_d00df 18 = .ok (.aload_n 0, 1) := dz_aload_n_0 (y0 zE_cJ5_ensureCapacityInternal_d00df 0 18 (by decide +kernel))
theorem dJ5_ensureCapacityInternal_d00df_19 : decode cJ5_ensureCapacityInternal_d00df 19 = .ok (.getfield 15, 3) := dz_getfield (yu2 zE_cJ5_ensureCapacityInternal_d00df 0 19 (by decide +kernel))
theorem dJ5_ensureCapacityInternal_d00df_22 : decode cJ5_ensureCapacityInternal_d00df 22 = .ok (.aload_n 0, 1) := dz_aload_n_0 (y0 zE_cJ5_ensureCapacityInternal_d00df 0 22 (by decide +kernel))
theorem dJ5_ensureCapacityInternal_d00df_23 : decode cJ5_ensureCapacityInternal_d00df 23 = .ok (.iload_n 1, 1) := dz_iload_n_1 (y0 zE_cJ5_ensureCapacityInternal_d00df 0 23 (by decide +kernel))
theorem dJ5_ensureCapacityInternal_d00df_24 : decode cJ5_ensureCapacityInternal_d00df 24 = .ok (.invokevirtual 104, 3) := dz_invokevirtual (yu2 zE_cJ5_ensureCapacityInternal_d00df 0 24 (by decide +kernel))
theorem dJ5_ensureCapacityInternal_d00df_27 : decode cJ5_ensureCapacityInternal_d00df 27 = .ok (.aload_n 0, 1) := dz_aload_n_0 (y0 zE_cJ5_ensureCapacityInternal_d00df 0 27 (by decide +kernel))
theorem dJ5_ensureCapacityInternal_d00df_28 : decode cJ5_ensureCapacityInternal_d00df 28 = .ok (.getfield 22, 3) := dz_getfield (yu2 zE_cJ5_ensureCapacityInternal_d00df 0 28 (by decide +kernel))
theorem dJ5_ensureCapacityInternal_d00df_31 : decode cJ5_ensureCapacityInternal_d00df 31 = .ok (.ishl, 1) := dz_ishl (y0 zE_cJ5_ensureCapacityInternal_d00df 0 31 (by decide +kernel))
theorem dJ5_ensureCapacityInternal_d00df_32 : decode cJ5_ensureCapacityInternal_d00df 32 = .ok (.invokestatic 108, 3) := dz_invokestatic (yu2 zE_cJ5_ensureCapacityInternal_d00df 0 32 (by decide +kernel))
theorem dJ5_ensureCapacityInternal_d00df_35 : decode cJ5_ensureCapacityInternal_d00df 35 = .ok (.putfield 15, 3) := dz_putfield (yu2 zE_cJ5_ensureCapacityInternal_d00df 0 35 (by decide +kernel))
theorem dJ5_ensureCapacityInternal_d00df_38 : decode cJ5_ensureCapacityInternal_d00df 38 = .ok (.return_, 1) := dz_return (y0 zE_cJ5_ensureCapacityInternal_d00df 0 38 (by decide +kernel))
theorem gd_wsJ5_newCapacity_0f7a4 : wsJ5_newCapacity_0f7a4.all goodWord = true := by decide +kernel
set_option maxRecDepth 20000 in
theorem ggJ5_newCapacity_0f7a4_J8_newLength_cabcc : GoodIn wsJ5_newCapacity_0f7a4 wsJ8_newLength_cabcc := gi_q gd_wsJ5_newCapacity_0f7a4 _ [(7, 8), (6, 1), (15, 1)] rfl
set_option maxRecDepth 20000 in
theorem gJ5_newCapacity_0f7a4_J8_newLength_cabcc : GoodIn wsJ5_newCapacity_0f7a4 (va_wsS RJ5 114 yJ8_newLength_cabcc wsJ8_newLength_cabcc) := goodIn_app (gi_q gd_wsJ5_newCapacity_0f7a4 _ [(4, 3)] rfl) ggJ5_newCapacity_0f7a4_J8_newLength_cabcc
def zT_cJ5_newCapacity_0f7a4 : List (List Nat) := [[42, 180, 0, 15, 190, 61, 27, 42, 180, 0, 22, 120, 62, 29, 28, 100, 54, 4, 28, 21, 4, 28, 5, 42, 180, 0, 22, 120, 96, 184, 0, 114, 54, 5, 21, 5, 18, 39, 160, 0, 13, 187, 0, 120, 89, 18, 122, 183, 0, 124, 191, 21, 5, 42, 180, 0, 22, 122, 172]]
theorem zE_cJ5_newCapacity_0f7a4 : zTab cJ5_newCapacity_0f7a4.data.toList zT_cJ5_newCapacity_0f7a4 = true := by decide +kernel
theorem dJ5_newCapacity_0f7a4_0 : decode cJ5_newCapacity_0f7a4 0 = .ok (.aload_n 0, 1) := dz_aload_n_0 (y0 zE_cJ5_newCapacity_0f7a4 0 0 (by decide +kernel))
theorem dJ5_newCapacity_0f7a4_1 : decode cJ5_newCapacity_0f7a4 1 = .ok (.getfield 15, 3) := dz_getfield (yu2 zE_cJ5_newCapacity_0f7a4 0 1 (by decide +kernel))
theorem dJ5_newCapacity_0f7a4_4 : decode cJ5_newCapacity_0f7a4 4 = .ok (.arraylength, 1) := dz_arraylength (y0 zE_cJ5_newCapacity_0f7a4 0 4 (by decide +kernel))
theorem dJ5_newCapacity_0f7a4_5 : decode cJ5_newCapacity_0f7a4 5 = .ok (.istore_n 2, 1) := dz_istore_n_2 (y0 zE_cJ5_newCapacity_0f7a4 0 5 (by decide +kernel))
theorem dJ5_newCapacity_0f7a4_6 : decode cJ5_newCapacity_0f7a4 6 = .ok (.iload_n 1, 1) := dz_iload_n_1 (y0 zE_cJ5_newCapacity_0f7a4 0 6 (by decide +kernel))
theorem dJ5_newCapacity_0f7a4_7 : decode cJ5_newCapacity_0f7a4 7 = .ok (.aload_n 0, 1) := dz_aload_n_0 (y0 zE_cJ5_newCapacity_0f7a4 0 7 (by decide +kernel))
theorem dJ5_newCapacity_0f7a4_8 : decode cJ5_newCapacity_0f7a4 8 = .ok (.getfield 22, 3) := dz_getfield (yu2 zE_cJ5_newCapacity_0f7a4 0 8 (by decide +kernel))
theorem dJ5_newCapacity_0f7a4_11 : decode cJ5_newCapacity_0f7a4 11 = .ok (.ishl, 1) := dz_ishl (y0 zE_cJ5_newCapacity_0f7a4 0 11 (by decide +kernel))
theorem dJ5_newCapacity_0f7a4_12 : decode cJ5_newCapacity_0f7a4 12 = .ok (.istore_n 3, 1) := dz_istore_n_3 (y0 zE_cJ5_newCapacity_0f7a4 0 12 (by decide +kernel))
theorem dJ5_newCapacity_0f7a4_13 : decode cJ5_newCapacity_0f7a4 13 = .ok (.iload_n 3, 1) := dz_iload_n_3 (y0 zE_cJ5_newCapacity_0f7a4 0 13 (by decide +kernel))
theorem dJ5_newCapacity_0f7a4_14 : decode cJ5_newCapacity_0f7a4 14 = .ok (.iload_n 2, 1) := dz_iload_n_2 (y0 zE_cJ5_newCapacity_0f7a4 0 14 (by decide +kernel))
theorem dJ5_newCapacity_0f7a4_15 : decode cJ5_newCapacity_0f7a4 15 = .ok (.isub, 1) := dz_isub (y0 zE_cJ5_newCapacity_0f7a4 0 15 (by decide +kernel))
theorem dJ5_newCapacity_0f7a4_16 : decode cJ5_newCapacity_0f7a4 16 = .ok (.istore 4, 2) := dz_istore (yu1 zE_cJ5_newCapacity_0f7a4 0 16 (by decide +kernel))
theorem dJ5_newCapacity_0f7a4_18 : decode cJ5_newCapacity_0f7a4 18 = .ok (.iload_n 2, 1) := dz_iload_n_2 (y0 zE_cJ5_newCapacity_0f7a4 0 18 (by decide +kernel))
theorem dJ5_newCapacity_0f7a4_19 : decode cJ5_newCapacity_0f7a4 19 = .ok (.iload 4, 2) := dz_iload (yu1 zE_cJ5_newCapacity_0f7a4 0 19 (by decide +kernel))
theorem dJ5_newCapacity_0f7a4_21 : decode cJ5_newCapacity_0f7a4 21 = .ok (.iload_n 2, 1) := dz_iload_n_2 (y0 zE_cJ5_newCapacity_0f7a4 0 21 (by decide +kernel))
theorem dJ5_newCapacity_0f7a4_22 : decode cJ5_newCapacity_0f7a4 22 = .ok (.iconst 2, 1) := dz_iconst_2 (y0 zE_cJ5_newCapacity_0f7a4 0 22 (by decide +kernel))
theorem dJ5_newCapacity_0f7a4_23 : decode cJ5_newCapacity_0f7a4 23 = .ok (.aload_n 0, 1) := dz_aload_n_0 (y0 zE_cJ5_newCapacity_0f7a4 0 23 (by decide +kernel))
theorem dJ5_newCapacity_0f7a4_24 : decode cJ5_newCapacity_0f7a4 24 = .ok (.getfield 22, 3) := dz_getfield (yu2 zE_cJ5_newCapacity_0f7a4 0 24 (by decide +kernel))
theorem dJ5_newCapacity_0f7a4_27 : decode cJ5_newCapacity_0f7a4 27 = .ok (.ishl, 1) := dz_ishl (y0 zE_cJ5_newCapacity_0f7a4 0 27 (by decide +kernel))
theorem dJ5_newCapacity_0f7a4_28 : decode cJ5_newCapacity_0f7a4 28 = .ok (.iadd, 1) := dz_iadd (y0 zE_cJ5_newCapacity_0f7a4 0 28 (by decide +kernel))
theorem dJ5_newCapacity_0f7a4_29 : decode cJ5_newCapacity_0f7a4 29 = .ok (.invokestatic 114, 3) := dz_invokestatic (yu2 zE_cJ5_newCapacity_0f7a4 0 29 (by decide +kernel))
theorem dJ5_newCapacity_0f7a4_32 : decode cJ5_newCapacity_0f7a4 32 = .ok (.istore 5, 2) := dz_istore (yu1 zE_cJ5_newCapacity_0f7a4 0 32 (by decide +kernel))
theorem dJ5_newCapacity_0f7a4_34 : decode cJ5_newCapacity_0f7a4 34 = .ok (.iload 5, 2) := dz_iload (yu1 zE_cJ5_newCapacity_0f7a4 0 34 (by decide +kernel))
theorem dJ5_newCapacity_0f7a4_36 : decode cJ5_newCapacity_0f7a4 36 = .ok (.ldc 39, 2) := dz_ldc (yu1 zE_cJ5_newCapacity_0f7a4 0 36 (by decide +kernel))
theorem dJ5_newCapacity_0f7a4_38 : decode cJ5_newCapacity_0f7a4 38 = .ok (.if_icmp .ne 13, 3) := dz_if_icmp_ne (ys2 zE_cJ5_newCapacity_0f7a4 0 38 (by decide +kernel))
theorem dJ5_newCapacity_0f7a4_41 : decode cJ5_newCapacity_0f7a4 41 = .ok (.new 120, 3) := dz_new (yu2 zE_cJ5_newCapacity_0f7a4 0 41 (by decide +kernel))
theorem dJ5_newCapacity_0f7a4_44 : decode cJ5_newCapacity_0f7a4 44 = .ok (.dup, 1) := dz_dup (y0 zE_cJ5_newCapacity_0f7a4 0 44 (by decide +kernel))
theorem dJ5_newCapacity_0f7a4_45 : decode cJ5_newCapacity_0f7a4 45 = .ok (.ldc 122, 2) := dz_ldc (yu1 zE_cJ5_newCapacity_0f7a4 0 45 (by decide +kernel))
theorem dJ5_newCapacity_0f7a4_47 : decode cJ5_newCapacity_0f7a4 47 = .ok (.invokespecial 124, 3) := dz_invokespecial (yu2 zE_cJ5_newCapacity_0f7a4 0 47 (by decide +kernel))
theorem dJ5_newCapacity_0f7a4_50 : decode cJ5_newCapacity_0f7a4 50 = .ok (.athrow, 1) := dz_athrow (y0 zE_cJ5_newCapacity_0f7a4 0 50 (by decide +kernel))
theorem dJ5_newCapacity_0f7a4_51 : decode cJ5_newCapacity_0f7a4 51 = .ok (.iload 5, 2) := dz_iload (yu1 zE_cJ5_newCapacity_0f7a4 0 51 (by decide +kernel))
theorem dJ5_newCapacity_0f7a4_53 : decode cJ5_newCapacity_0f7a4 53 = .ok (.aload_n 0, 1) := dz_aload_n_0 (y0 zE_cJ5_newCapacity_0f7a4 0 53 (by decide +kernel))
theorem dJ5_newCapacity_0f7a4_54 : decode cJ5_newCapacity_0f7a4 54 = .ok (.getfield 22, 3) := dz_getfield (yu2 zE_cJ5_newCapacity_0f7a4 0 54 (by decide +kernel))
theorem dJ5_newCapacity_0f7a4_57 : decode cJ5_newCapacity_0f7a4 57 = .ok (.ishr, 1) := dz_ishr (y0 zE_cJ5_newCapacity_0f7a4 0 57 (by decide +kernel))
theorem dJ5_newCapacity_0f7a4_58 : decode cJ5_newCapacity_0f7a4 58 = .ok (.ireturn, 1) := dz_ireturn (y0 zE_cJ5_newCapacity_0f7a4 0 58 (by decide +kernel))
theorem gd_wsJ5_inflate_da8c8 : wsJ5_inflate_da8c8.all goodWord = true := by decide +kernel
set_option maxRecDepth 20000 in
theorem ggJ5_inflate_da8c8_J5_isLatin1_aae02 : GoodIn wsJ5_inflate_da8c8 wsJ5_isLatin1_aae02 := gi_q gd_wsJ5_inflate_da8c8 _ [(9, 2), (3, 1), (48, 4)] rfl
set_option maxRecDepth 20000 in
theorem gJ5_inflate_da8c8_J5_isLatin1_aae02_u83J4 : GoodIn wsJ5_inflate_da8c8 (va_wsU RJ5 83 RJ4 "java/lang/AbstractStringBuilder" ⟨"java/lang/AbstractStringBuilder", "isLatin1", "()Z"⟩ yJ5_isLatin1_aae02 wsJ5_isLatin1_aae02) := goodIn_app (goodIn_of _ (by decide +kernel)) ggJ5_inflate_da8c8_J5_isLatin1_aae02
set_option maxRecDepth 20000 in
theorem ggJ5_inflate_da8c8_J2_newBytesFor_77867 : GoodIn wsJ5_inflate_da8c8 wsJ2_newBytesFor_77867 := gi_q gd_wsJ5_inflate_da8c8 _ [(14, 4), (13, 1), (18, 2)] rfl
set_option maxRecDepth 20000 in
theorem gJ5_inflate_da8c8_J2_newBytesFor_77867 : GoodIn wsJ5_inflate_da8c8 (va_wsS RJ5 26 yJ2_newBytesFor_77867 wsJ2_newBytesFor_77867) := goodIn_app (gi_q gd_wsJ5_inflate_da8c8 _ [(11, 3)] rfl) ggJ5_inflate_da8c8_J2_newBytesFor_77867
set_option maxRecDepth 20000 in
theorem ggJ5_inflate_da8c8_J1_inflate_0e8fd : GoodIn wsJ5_inflate_da8c8 wsJ1_inflate_0e8fd := gi_q gd_wsJ5_inflate_da8c8 _ [(23, 3), (13, 1), (26, 22)] rfl
set_option maxRecDepth 20000 in
theorem gJ5_inflate_da8c8_J1_inflate_0e8fd : GoodIn wsJ5_inflate_da8c8 (va_wsS RJ5 125 yJ1_inflate_0e8fd wsJ1_inflate_0e8fd) := goodIn_app (gi_q gd_wsJ5_inflate_da8c8 _ [(20, 3)] rfl) ggJ5_inflate_da8c8_J1_inflate_0e8fd
def zT_cJ5_inflate_da8c8 : List (List Nat) := [[42, 182, 0, 83, 154, 0, 4, 177, 42, 180, 0, 15, 190, 184, 0, 26, 76, 42, 180, 0, 15, 3, 43, 3, 42, 180, 0, 79, 184, 0, 125, 42, 43, 181, 0, 15, 42, 4, 181, 0, 22, 177]]
theorem zE_cJ5_inflate_da8c8 : zTab cJ5_inflate_da8c8.data.toList zT_cJ5_inflate_da8c8 = true := by decide +kernel
theorem dJ5_inflate_da8c8_0 : decode cJ5_inflate_da8c8 0 = .ok (.aload_n 0, 1) := dz_aload_n_0 (y0 zE_cJ5_inflate_da8c8 0 0 (by decide +kernel))
theorem dJ5_inflate_da8c8_1 : decode cJ5_inflate_da8c8 1 = .ok (.invokevirtual 83, 3) := dz_invokevirtual (yu2 zE_cJ5_inflate_da8c8 0 1 (by decide +kernel))
theorem dJ5_inflate_da8c8_4 : decode cJ5_inflate_da8c8 4 = .ok (.ifCond .ne 4, 3) := dz_ifCond_ne (ys2 zE_cJ5_inflate_da8c8 0 4 (by decide +kernel))
theorem dJ5_inflate_da8c8_7 : decode cJ5_inflate_da8c8 7 = .ok (.return_, 1) := dz_return (y0 zE_cJ5_inflate_da8c8 0 7 (by decide +kernel))
theorem dJ5_inflate_da8c8_8 : decode cJ5_inflate_da8c8 8 = .ok (.aload_n 0, 1) := dz_aload_n_0 (y0 zE_cJ5_inflate_da8c8 0 8 (by decide +kernel))
theorem dJ5_inflate_da8c8_9 : decode cJ5_inflate_da8c8 9 = .ok (.getfield 15, 3) := dz_getfield (yu2 zE_cJ5_inflate_da8c8 0 9 (by decide +kernel))
theorem dJ5_inflate_da8c8_12 : decode cJ5_inflate_da8c8 12 = .ok (.arraylength, 1) := dz_arraylength (y0 zE_cJ5_inflate_da8c8 0 12 (by decide +kernel))
theorem dJ5_inflate_da8c8_13 : decode cJ5_inflate_da8c8 13 = .ok (.invokestatic 26, 3) := dz_invokestatic (yu2 zE_cJ5_inflate_da8c8 0 13 (by decide +kernel))
theorem dJ5_inflate_da8c8_16 : decode cJ5_inflate_da8c8 16 = .ok (.astore_n 1, 1) := dz_astore_n_1 (y0 zE_cJ5_inflate_da8c8 0 16 (by decide +kernel))
theorem dJ5_inflate_da8c8_17 : decode cJ5_inflate_da8c8 17 = .ok (.aload_n 0, 1) := dz_aload_n_0 (y0 zE_cJ5_inflate_da8c8 0 17 (by decide +kernel))
theorem dJ5_inflate_da8c8_18 : decode cJ5_inflate_da8c8 18 = .ok (.getfield 15, 3) := dz_getfield (yu2 zE_cJ5_inflate_da8c8 0 18 (by decide +kernel))
theorem dJ5_inflate_da8c8_21 : decode cJ5_inflate_da8c8 21 = .ok (.iconst 0, 1) := dz_iconst_0 (y0 zE_cJ5_inflate_da8c8 0 21 (by decide +kernel))
theorem dJ5_inflate_da8c8_22 : decode cJ5_inflate_da8c8 22 = .ok (.aload_n 1, 1) := dz_aload_n_1 (y0 zE_cJ5_inflate_da8c8 0 22 (by decide +kernel))
theorem dJ5_inflate_da8c8_23 : decode cJ5_inflate_da8c8 23 = .ok (.iconst 0, 1) := dz_iconst_0 (y0 zE_cJ5_inflate_da8c8 0 23 (by decide +kernel))
theorem dJ5_inflate_da8c8_24 : decode cJ5_inflate_da8c8 24 = .ok (.aload_n 0, 1) := dz_aload_n_0 (y0 zE_cJ5_inflate_da8c8 0 24 (by decide +kernel))
theorem dJ5_inflate_da8c8_25 : decode cJ5_inflate_da8c8 25 = .ok (.getfield 79, 3) := dz_getfield (yu2 zE_cJ5_inflate_da8c8 0 25 (by decide +kernel))
theorem dJ5_inflate_da8c8_28 : decode cJ5_inflate_da8c8 28 = .ok (.invokestatic 125, 3) := dz_invokestatic (yu2 zE_cJ5_inflate_da8c8 0 28 (by decide +kernel))
theorem dJ5_inflate_da8c8_31 : decode cJ5_inflate_da8c8 31 = .ok (.aload_n 0, 1) := dz_aload_n_0 (y0 zE_cJ5_inflate_da8c8 0 31 (by decide +kernel))
theorem dJ5_inflate_da8c8_32 : decode cJ5_inflate_da8c8 32 = .ok (.aload_n 1, 1) := dz_aload_n_1 (y0 zE_cJ5_inflate_da8c8 0 32 (by decide +kernel))
theorem dJ5_inflate_da8c8_33 : decode cJ5_inflate_da8c8 33 = .ok (.putfield 15, 3) := dz_putfield (yu2 zE_cJ5_inflate_da8c8 0 33 (by decide +kernel))
theorem dJ5_inflate_da8c8_36 : decode cJ5_inflate_da8c8 36 = .ok (.aload_n 0, 1) := dz_aload_n_0 (y0 zE_cJ5_inflate_da8c8 0 36 (by decide +kernel))
theorem dJ5_inflate_da8c8_37 : decode cJ5_inflate_da8c8 37 = .ok (.iconst 1, 1) := dz_iconst_1 (y0 zE_cJ5_inflate_da8c8 0 37 (by decide +kernel))
theorem dJ5_inflate_da8c8_38 : decode cJ5_inflate_da8c8 38 = .ok (.putfield 22, 3) := dz_putfield (yu2 zE_cJ5_inflate_da8c8 0 38 (by decide +kernel))
theorem dJ5_inflate_da8c8_41 : decode cJ5_inflate_da8c8 41 = .ok (.return_, 1) := dz_return (y0 zE_cJ5_inflate_da8c8 0 41 (by decide +kernel))
theorem gd_wsJ5_append_cf1ce : wsJ5_append_cf1ce.all goodWord = true := by decide +kernel
set_option maxRecDepth 20000 in
theorem ggJ5_append_cf1ce_J5_appendNull_278bc : GoodIn wsJ5_append_cf1ce wsJ5_appendNull_278bc := gi_q gd_wsJ5_append_cf1ce _ [(7, 1), (1, 1), (8, 5), (6, 1), (13, 69), (138, 4)] rfl
set_option maxRecDepth 20000 in
theorem gJ5_append_cf1ce_J5_appendNull_278bc_u204J4 : GoodIn wsJ5_append_cf1ce (va_wsU RJ5 204 RJ4 "java/lang/AbstractStringBuilder" ⟨"java/lang/AbstractStringBuilder", "appendNull", "()Ljava/lang/AbstractStringBuilder;"⟩ yJ5_appendNull_278bc wsJ5_appendNull_278bc) := goodIn_app (goodIn_of _ (by decide +kernel)) ggJ5_append_cf1ce_J5_appendNull_278bc
set_option maxRecDepth 20000 in
theorem ggJ5_append_cf1ce_J0_length_8abf5 : GoodIn wsJ5_append_cf1ce wsJ0_length_8abf5 := gi_q gd_wsJ5_append_cf1ce _ [(85, 5), (70, 1), (90, 3), (142, 4)] rfl
set_option maxRecDepth 20000 in
theorem gJ5_append_cf1ce_J0_length_8abf5 : GoodIn wsJ5_append_cf1ce (wsV RJ5 32 RJ0 yJ0_length_8abf5 wsJ0_length_8abf5) := goodIn_app (gi_q gd_wsJ5_append_cf1ce _ [(82, 3), (70, 1)] rfl) ggJ5_append_cf1ce_J0_length_8abf5
set_option maxRecDepth 20000 in
theorem ggJ5_append_cf1ce_J5_ensureCapacityInternal_d00df : GoodIn wsJ5_append_cf1ce wsJ5_ensureCapacityInternal_d00df := gi_q gd_wsJ5_append_cf1ce _ [(13, 1), (8, 1), (14, 5), (6, 1), (19, 32), (138, 4)] rfl
set_option maxRecDepth 20000 in
theorem gJ5_append_cf1ce_J5_ensureCapacityInternal_d00df_u100J4 : GoodIn wsJ5_append_cf1ce (va_wsU RJ5 100 RJ4 "java/lang/AbstractStringBuilder" ⟨"java/lang/AbstractStringBuilder", "ensureCapacityInternal", "(I)V"⟩ yJ5_ensureCapacityInternal_d00df wsJ5_ensureCapacityInternal_d00df) := goodIn_app (goodIn_of _ (by decide +kernel)) ggJ5_append_cf1ce_J5_ensureCapacityInternal_d00df
set_option maxRecDepth 20000 in
theorem ggJ5_append_cf1ce_J5_putStringAt_47b60 : GoodIn wsJ5_append_cf1ce wsJ5_putStringAt_47b60 := gi_q gd_wsJ5_append_cf1ce _ [(97, 1), (8, 1), (14, 1), (98, 4), (6, 1), (102, 1), (56, 1), (103, 1), (88, 2), (70, 1), (90, 3), (104, 5), (1, 1), (51, 5), (109, 2), (59, 1), (111, 1), (43, 1), (112, 14), (65, 3), (126, 3), (72, 1), (129, 2), (75, 1), (131, 1), (77, 3), (61, 1), (80, 2), (132, 4), (86, 1), (136, 1), (48, 3), (87, 1), (137, 9)] rfl
set_option maxRecDepth 20000 in
theorem gJ5_append_cf1ce_J5_putStringAt_47b60_u208J4 : GoodIn wsJ5_append_cf1ce (va_wsU RJ5 208 RJ4 "java/lang/AbstractStringBuilder" ⟨"java/lang/AbstractStringBuilder", "putStringAt", "(ILjava/lang/String;)V"⟩ yJ5_putStringAt_47b60 wsJ5_putStringAt_47b60) := goodIn_app (goodIn_of _ (by decide +kernel)) ggJ5_append_cf1ce_J5_putStringAt_47b60
def zT_cJ5_append_cf1ce : List (List Nat) := [[43, 199, 0, 8, 42, 182, 0, 204, 176, 43, 182, 0, 32, 61, 42, 42, 180, 0, 79, 28, 96, 182, 0, 100, 42, 42, 180, 0, 79, 43, 182, 0, 208, 42, 89, 180, 0, 79, 28, 96, 181, 0, 79, 42, 176]]
theorem zE_cJ5_append_cf1ce : zTab cJ5_append_cf1ce.data.toList zT_cJ5_append_cf1ce = true := by decide +kernel
theorem dJ5_append_cf1ce_0 : decode cJ5_append_cf1ce 0 = .ok (.aload_n 1, 1) := dz_aload_n_1 (y0 zE_cJ5_append_cf1ce 0 0 (by decide +kernel))
theorem dJ5_append_cf1ce_1 : decode cJ5_append_cf1ce 1 = .ok (.ifnonnull 8, 3) := dz_ifnonnull (ys2 zE_cJ5_append_cf1ce 0 1 (by decide +kernel))
theorem dJ5_append_cf1ce_4 : decode cJ5_append_cf1ce 4 = .ok (.aload_n 0, 1) := dz_aload_n_0 (y0 zE_cJ5_append_cf1ce 0 4 (by decide +kernel))
theorem dJ5_append_cf1ce_5 : decode cJ5_append_cf1ce 5 = .ok (.invokevirtual 204, 3) := dz_invokevirtual (yu2 zE_cJ5_append_cf1ce 0 5 (by decide +kernel))
theorem dJ5_append_cf1ce_8 : decode cJ5_append_cf1ce 8 = .ok (.areturn, 1) := dz_areturn (y0 zE_cJ5_append_cf1ce 0 8 (by decide +kernel))
theorem dJ5_append_cf1ce_9 : decode cJ5_append_cf1ce 9 = .ok (.aload_n 1, 1) := dz_aload_n_1 (y0 zE_cJ5_append_cf1ce 0 9 (by decide +kernel))
theorem dJ5_append_cf1ce_10 : decode cJ5_append_cf1ce 10 = .ok (.invokevirtual 32, 3) := dz_invokevirtual (yu2 zE_cJ5_append_cf1ce 0 10 (by decide +kernel))
theorem dJ5_append_cf1ce_13 : decode cJ5_append_cf1ce 13 = .ok (.istore_n 2, 1) := dz_istore_n_2 (y0 zE_cJ5_append_cf1ce 0 13 (by decide +kernel))
theorem dJ5_append_cf1ce_14 : decode cJ5_append_cf1ce 14 = .ok (.aload_n 0, 1) := dz_aload_n_0 (y0 zE_cJ5_append_cf1ce 0 14 (by decide +kernel))
theorem dJ5_append_cf1ce_15 : decode cJ5_append_cf1ce 15 = .ok (.aload_n 0, 1) := dz_aload_n_0 (y0 zE_cJ5_append_cf1ce 0 15 (by decide +kernel))
theorem dJ5_append_cf1ce_16 : decode cJ5_append_cf1ce 16 = .ok (.getfield 79, 3) := dz_getfield (yu2 zE_cJ5_append_cf1ce 0 16 (by decide +kernel))
theorem dJ5_append_cf1ce_19 : decode cJ5_append_cf1ce 19 = .ok (.iload_n 2, 1) := dz_iload_n_2 (y0 zE_cJ5_append_cf1ce 0 19 (by decide +kernel))
theorem dJ5_append_cf1ce_20 : decode cJ5_append_cf1ce 20 = .ok (.iadd, 1) := dz_iadd (y0 zE_cJ5_append_cf1ce 0 20 (by decide +kernel))
theorem dJ5_append_cf1ce_21 : decode cJ5_append_cf1ce 21 = .ok (.invokevirtual 100, 3) := dz_invokevirtual (yu2 zE_cJ5_append_cf1ce 0 21 (by decide +kernel))
theorem dJ5_append_cf1ce_24 : decode cJ5_append_cf1ce 24 = .ok (.aload_n 0, 1) := dz_aload_n_0 (y0 zE_cJ5_append_cf1ce 0 24 (by decide +kernel))
theorem dJ5_append_cf1ce_25 : decode cJ5_append_cf1ce 25 = .ok (.aload_n 0, 1) := dz_aload_n_0 (y0 zE_cJ5_append_cf1ce 0 25 (by decide +kernel))
theorem dJ5_append_cf1ce_26 : decode cJ5_append_cf1ce 26 = .ok (.getfield 79, 3) := dz_getfield (yu2 zE_cJ5_append_cf1ce 0 26 (by decide +kernel))
theorem dJ5_append_cf1ce_29 : decode cJ5_append_cf1ce 29 = .ok (.aload_n 1, 1) := dz_aload_n_1 (y0 zE_cJ5_append_cf1ce 0 29 (by decide +kernel))
theorem dJ5_append_cf1ce_30 : decode cJ5_append_cf1ce 30 = .ok (.invokevirtual 208, 3) := dz_invokevirtual (yu2 zE_cJ5_append_cf1ce 0 30 (by decide +kernel))
theorem dJ5_append_cf1ce_33 : decode cJ5_append_cf1ce 33 = .ok (.aload_n 0, 1) := dz_aload_n_0 (y0 zE_cJ5_append_cf1ce 0 33 (by decide +kernel))
theorem dJ5_append_cf1ce_34 : decode cJ5_append_cf1ce 34 = .ok (.dup, 1) := dz_dup (y0 zE_cJ5_append_cf1ce 0 34 (by decide +kernel))
theorem dJ5_append_cf1ce_35 : decode cJ5_append_cf1ce 35 = .ok (.getfield 79, 3) := dz_getfield (yu2 zE_cJ5_append_cf1ce 0 35 (by decide +kernel))
theorem dJ5_append_cf1ce_38 : decode cJ5_append_cf1ce 38 = .ok (.iload_n 2, 1) := dz_iload_n_2 (y0 zE_cJ5_append_cf1ce 0 38 (by decide +kernel))
theorem dJ5_append_cf1ce_39 : decode cJ5_append_cf1ce 39 = .ok (.iadd, 1) := dz_iadd (y0 zE_cJ5_append_cf1ce 0 39 (by decide +kernel))
theorem dJ5_append_cf1ce_40 : decode cJ5_append_cf1ce 40 = .ok (.putfield 79, 3) := dz_putfield (yu2 zE_cJ5_append_cf1ce 0 40 (by decide +kernel))
theorem dJ5_append_cf1ce_43 : decode cJ5_append_cf1ce 43 = .ok (.aload_n 0, 1) := dz_aload_n_0 (y0 zE_cJ5_append_cf1ce 0 43 (by decide +kernel))
theorem dJ5_append_cf1ce_44 : decode cJ5_append_cf1ce 44 = .ok (.areturn, 1) := dz_areturn (y0 zE_cJ5_append_cf1ce 0 44 (by decide +kernel))
theorem gd_wsJ5_appendNull_278bc : wsJ5_appendNull_278bc.all goodWord = true := by decide +kernel
set_option maxRecDepth 20000 in
theorem ggJ5_appendNull_278bc_J5_ensureCapacityInternal_d00df : GoodIn wsJ5_appendNull_278bc wsJ5_ensureCapacityInternal_d00df := gi_q gd_wsJ5_appendNull_278bc _ [(8, 1), (2, 1), (9, 5), (7, 1), (14, 32), (77, 4)] rfl
set_option maxRecDepth 20000 in
theorem gJ5_appendNull_278bc_J5_ensureCapacityInternal_d00df_u100J4 : GoodIn wsJ5_appendNull_278bc (va_wsU RJ5 100 RJ4 "java/lang/AbstractStringBuilder" ⟨"java/lang/AbstractStringBuilder", "ensureCapacityInternal", "(I)V"⟩ yJ5_ensureCapacityInternal_d00df wsJ5_ensureCapacityInternal_d00df) := goodIn_app (goodIn_of _ (by decide +kernel)) ggJ5_appendNull_278bc_J5_ensureCapacityInternal_d00df
set_option maxRecDepth 20000 in
theorem ggJ5_appendNull_278bc_J5_isLatin1_aae02 : GoodIn wsJ5_appendNull_278bc wsJ5_isLatin1_aae02 := gi_q gd_wsJ5_appendNull_278bc _ [(50, 2), (9, 1), (77, 4)] rfl
set_option maxRecDepth 20000 in
theorem gJ5_appendNull_278bc_J5_isLatin1_aae02_u83J4 : GoodIn wsJ5_appendNull_278bc (va_wsU RJ5 83 RJ4 "java/lang/AbstractStringBuilder" ⟨"java/lang/AbstractStringBuilder", "isLatin1", "()Z"⟩ yJ5_isLatin1_aae02 wsJ5_isLatin1_aae02) := goodIn_app (goodIn_of _ (by decide +kernel)) ggJ5_appendNull_278bc_J5_isLatin1_aae02
set_option maxRecDepth 20000 in
theorem ggJ5_appendNull_278bc_J2_putCharsAt_cd4e5 : GoodIn wsJ5_appendNull_278bc wsJ2_putCharsAt_cd4e5 := gi_q gd_wsJ5_appendNull_278bc _ [(55, 4), (54, 1), (59, 18)] rfl
set_option maxRecDepth 20000 in
theorem gJ5_appendNull_278bc_J2_putCharsAt_cd4e5 : GoodIn wsJ5_appendNull_278bc (va_wsS RJ5 226 yJ2_putCharsAt_cd4e5 wsJ2_putCharsAt_cd4e5) := goodIn_app (gi_q gd_wsJ5_appendNull_278bc _ [(52, 3)] rfl) ggJ5_appendNull_278bc_J2_putCharsAt_cd4e5
def zT_cJ5_appendNull_278bc : List (List Nat) := [[42, 42, 180, 0, 79, 7, 96, 182, 0, 100, 42, 180, 0, 79, 60, 42, 180, 0, 15, 77, 42, 182, 0, 83, 153, 0, 38, 44, 27, 132, 1, 1, 16, 110, 84, 44, 27, 132, 1, 1, 16, 117, 84, 44, 27, 132, 1, 1, 16, 108, 84, 44, 27, 132, 1, 1, 16, 108, 84, 167, 0, 17, 44, 27, 16, 110, 16, 117], [16, 110, 16, 117, 16, 108, 16, 108, 184, 0, 226, 60, 42, 27, 181, 0, 79, 42, 176]]
theorem zE_cJ5_appendNull_278bc : zTab cJ5_appendNull_278bc.data.toList zT_cJ5_appendNull_278bc = true := by decide +kernel
theorem dJ5_appendNull_278bc_0 : decode cJ5_appendNull_278bc 0 = .ok (.aload_n 0, 1) := dz_aload_n_0 (y0 zE_cJ5_appendNull_278bc 0 0 (by decide +kernel))
theorem dJ5_appendNull_278bc_1 : decode cJ5_appendNull_278bc 1 = .ok (.aload_n 0, 1) := dz_aload_n_0 (y0 zE_cJ5_appendNull_278bc 0 1 (by decide +kernel))
theorem dJ5_appendNull_278bc_2 : decode cJ5_appendNull_278bc 2 = .ok (.getfield 79, 3) := dz_getfield (yu2 zE_cJ5_appendNull_278bc 0 2 (by decide +kernel))
theorem dJ5_appendNull_278bc_5 : decode cJ5_appendNull_278bc 5 = .ok (.iconst 4, 1) := dz_iconst_4 (y0 zE_cJ5_appendNull_278bc 0 5 (by decide +kernel))
theorem dJ5_appendNull_278bc_6 : decode cJ5_appendNull_278bc 6 = .ok (.iadd, 1) := dz_iadd (y0 zE_cJ5_appendNull_278bc 0 6 (by decide +kernel))
theorem dJ5_appendNull_278bc_7 : decode cJ5_appendNull_278bc 7 = .ok (.invokevirtual 100, 3) := dz_invokevirtual (yu2 zE_cJ5_appendNull_278bc 0 7 (by decide +kernel))
theorem dJ5_appendNull_278bc_10 : decode cJ5_appendNull_278bc 10 = .ok (.aload_n 0, 1) := dz_aload_n_0 (y0 zE_cJ5_appendNull_278bc 0 10 (by decide +kernel))
theorem dJ5_appendNull_278bc_11 : decode cJ5_appendNull_278bc 11 = .ok (.getfield 79, 3) := dz_getfield (yu2 zE_cJ5_appendNull_278bc 0 11 (by decide +kernel))
theorem dJ5_appendNull_278bc_14 : decode cJ5_appendNull_278bc 14 = .ok (.istore_n 1, 1) := dz_istore_n_1 (y0 zE_cJ5_appendNull_278bc 0 14 (by decide +kernel))
theorem dJ5_appendNull_278bc_15 : decode cJ5_appendNull_278bc 15 = .ok (.aload_n 0, 1) := dz_aload_n_0 (y0 zE_cJ5_appendNull_278bc 0 15 (by decide +kernel))
theorem dJ5_appendNull_278bc_16 : decode cJ5_appendNull_278bc 16 = .ok (.getfield 15, 3) := dz_getfield (yu2 zE_cJ5_appendNull_278bc 0 16 (by decide +kernel))
theorem dJ5_appendNull_278bc_19 : decode cJ5_appendNull_278bc 19 = .ok (.astore_n 2, 1) := dz_astore_n_2 (y0 zE_cJ5_appendNull_278bc 0 19 (by decide +kernel))
theorem dJ5_appendNull_278bc_20 : decode cJ5_appendNull_278bc 20 = .ok (.aload_n 0, 1) := dz_aload_n_0 (y0 zE_cJ5_appendNull_278bc 0 20 (by decide +kernel))
theorem dJ5_appendNull_278bc_21 : decode cJ5_appendNull_278bc 21 = .ok (.invokevirtual 83, 3) := dz_invokevirtual (yu2 zE_cJ5_appendNull_278bc 0 21 (by decide +kernel))
theorem dJ5_appendNull_278bc_24 : decode cJ5_appendNull_278bc 24 = .ok (.ifCond .eq 38, 3) := dz_ifCond_eq (ys2 zE_cJ5_appendNull_278bc 0 24 (by decide +kernel))
theorem dJ5_appendNull_278bc_27 : decode cJ5_appendNull_278bc 27 = .ok (.aload_n 2, 1) := dz_aload_n_2 (y0 zE_cJ5_appendNull_278bc 0 27 (by decide +kernel))
theorem dJ5_appendNull_278bc_28 : decode cJ5_appendNull_278bc 28 = .ok (.iload_n 1, 1) := dz_iload_n_1 (y0 zE_cJ5_appendNull_278bc 0 28 (by decide +kernel))
theorem dJ5_appendNull_278bc_29 : decode cJ5_appendNull_278bc 29 = .ok (.iinc 1 1, 3) := dz_iinc (yii zE_cJ5_appendNull_278bc 0 29 (by decide +kernel))
theorem dJ5_appendNull_278bc_32 : decode cJ5_appendNull_278bc 32 = .ok (.bipush 110, 2) := dz_bipush (ys1 zE_cJ5_appendNull_278bc 0 32 (by decide +kernel))
theorem dJ5_appendNull_278bc_34 : decode cJ5_appendNull_278bc 34 = .ok (.bastore, 1) := dz_bastore (y0 zE_cJ5_appendNull_278bc 0 34 (by decide +kernel))
theorem dJ5_appendNull_278bc_35 : decode cJ5_appendNull_278bc 35 = .ok (.aload_n 2, 1) := dz_aload_n_2 (y0 zE_cJ5_appendNull_278bc 0 35 (by decide +kernel))
theorem dJ5_appendNull_278bc_36 : decode cJ5_appendNull_278bc 36 = .ok (.iload_n 1, 1) := dz_iload_n_1 (y0 zE_cJ5_appendNull_278bc 0 36 (by decide +kernel))
theorem dJ5_appendNull_278bc_37 : decode cJ5_appendNull_278bc 37 = .ok (.iinc 1 1, 3) := dz_iinc (yii zE_cJ5_appendNull_278bc 0 37 (by decide +kernel))
theorem dJ5_appendNull_278bc_40 : decode cJ5_appendNull_278bc 40 = .ok (.bipush 117, 2) := dz_bipush (ys1 zE_cJ5_appendNull_278bc 0 40 (by decide +kernel))
theorem dJ5_appendNull_278bc_42 : decode cJ5_appendNull_278bc 42 = .ok (.bastore, 1) := dz_bastore (y0 zE_cJ5_appendNull_278bc 0 42 (by decide +kernel))
theorem dJ5_appendNull_278bc_43 : decode cJ5_appendNull_278bc 43 = .ok (.aload_n 2, 1) := dz_aload_n_2 (y0 zE_cJ5_appendNull_278bc 0 43 (by decide +kernel))
theorem dJ5_appendNull_278bc_44 : decode cJ5_appendNull_278bc 44 = .ok (.iload_n 1, 1) := dz_iload_n_1 (y0 zE_cJ5_appendNull_278bc 0 44 (by decide +kernel))
theorem dJ5_appendNull_278bc_45 : decode cJ5_appendNull_278bc 45 = .ok (.iinc 1 1, 3) := dz_iinc (yii zE_cJ5_appendNull_278bc 0 45 (by decide +kernel))
theorem dJ5_appendNull_278bc_48 : decode cJ5_appendNull_278bc 48 = .ok (.bipush 108, 2) := dz_bipush (ys1 zE_cJ5_appendNull_278bc 0 48 (by decide +kernel))
theorem dJ5_appendNull_278bc_50 : decode cJ5_appendNull_278bc 50 = .ok (.bastore, 1) := dz_bastore (y0 zE_cJ5_appendNull_278bc 0 50 (by decide +kernel))
theorem dJ5_appendNull_278bc_51 : decode cJ5_appendNull_278bc 51 = .ok (.aload_n 2, 1) := dz_aload_n_2 (y0 zE_cJ5_appendNull_278bc 0 51 (by decide +kernel))
theorem dJ5_appendNull_278bc_52 : decode cJ5_appendNull_278bc 52 = .ok (.iload_n 1, 1) := dz_iload_n_1 (y0 zE_cJ5_appendNull_278bc 0 52 (by decide +kernel))
theorem dJ5_appendNull_278bc_53 : decode cJ5_appendNull_278bc 53 = .ok (.iinc 1 1, 3) := dz_iinc (yii zE_cJ5_appendNull_278bc 0 53 (by decide +kernel))
theorem dJ5_appendNull_278bc_56 : decode cJ5_appendNull_278bc 56 = .ok (.bipush 108, 2) := dz_bipush (ys1 zE_cJ5_appendNull_278bc 0 56 (by decide +kernel))
theorem dJ5_appendNull_278bc_58 : decode cJ5_appendNull_278bc 58 = .ok (.bastore, 1) := dz_bastore (y0 zE_cJ5_appendNull_278bc 0 58 (by decide +kernel))
theorem dJ5_appendNull_278bc_59 : decode cJ5_appendNull_278bc 59 = .ok (.goto 17, 3) := dz_goto (ys2 zE_cJ5_appendNull_278bc 0 59 (by decide +kernel))
theorem dJ5_appendNull_278bc_62 : decode cJ5_appendNull_278bc 62 = .ok (.aload_n 2, 1) := dz_aload_n_2 (y0 zE_cJ5_appendNull_278bc 0 62 (by decide +kernel))
theorem dJ5_appendNull_278bc_63 : decode cJ5_appendNull_278bc 63 = .ok (.iload_n 1, 1) := dz_iload_n_1 (y0 zE_cJ5_appendNull_278bc 0 63 (by decide +kernel))
theorem dJ5_appendNull_278bc_64 : decode cJ5_appendNull_278bc 64 = .ok (.bipush 110, 2) := dz_bipush (ys1 zE_cJ5_appendNull_278bc 1 0 (by decide +kernel))
theorem dJ5_appendNull_278bc_66 : decode cJ5_appendNull_278bc 66 = .ok (.bipush 117, 2) := dz_bipush (ys1 zE_cJ5_appendNull_278bc 1 2 (by decide +kernel))
theorem dJ5_appendNull_278bc_68 : decode cJ5_appendNull_278bc 68 = .ok (.bipush 108, 2) := dz_bipush (ys1 zE_cJ5_appendNull_278bc 1 4 (by decide +kernel))
theorem dJ5_appendNull_278bc_70 : decode cJ5_appendNull_278bc 70 = .ok (.bipush 108, 2) := dz_bipush (ys1 zE_cJ5_appendNull_278bc 1 6 (by decide +kernel))
theorem dJ5_appendNull_278bc_72 : decode cJ5_appendNull_278bc 72 = .ok (.invokestatic 226, 3) := dz_invokestatic (yu2 zE_cJ5_appendNull_278bc 1 8 (by decide +kernel))
theorem dJ5_appendNull_278bc_75 : decode cJ5_appendNull_278bc 75 = .ok (.istore_n 1, 1) := dz_istore_n_1 (y0 zE_cJ5_appendNull_278bc 1 11 (by decide +kernel))
theorem dJ5_appendNull_278bc_76 : decode cJ5_appendNull_278bc 76 = .ok (.aload_n 0, 1) := dz_aload_n_0 (y0 zE_cJ5_appendNull_278bc 1 12 (by decide +kernel))
theorem dJ5_appendNull_278bc_77 : decode cJ5_appendNull_278bc 77 = .ok (.iload_n 1, 1) := dz_iload_n_1 (y0 zE_cJ5_appendNull_278bc 1 13 (by decide +kernel))
theorem dJ5_appendNull_278bc_78 : decode cJ5_appendNull_278bc 78 = .ok (.putfield 79, 3) := dz_putfield (yu2 zE_cJ5_appendNull_278bc 1 14 (by decide +kernel))
theorem dJ5_appendNull_278bc_81 : decode cJ5_appendNull_278bc 81 = .ok (.aload_n 0, 1) := dz_aload_n_0 (y0 zE_cJ5_appendNull_278bc 1 17 (by decide +kernel))
theorem dJ5_appendNull_278bc_82 : decode cJ5_appendNull_278bc 82 = .ok (.areturn, 1) := dz_areturn (y0 zE_cJ5_appendNull_278bc 1 18 (by decide +kernel))
theorem gd_wsJ5_append_3fe6f : wsJ5_append_3fe6f.all goodWord = true := by decide +kernel
set_option maxRecDepth 20000 in
theorem ggJ5_append_3fe6f_J5_ensureCapacityInternal_d00df : GoodIn wsJ5_append_3fe6f wsJ5_ensureCapacityInternal_d00df := gi_q gd_wsJ5_append_3fe6f _ [(8, 1), (2, 1), (9, 5), (7, 1), (14, 32), (108, 4)] rfl
set_option maxRecDepth 20000 in
theorem gJ5_append_3fe6f_J5_ensureCapacityInternal_d00df_u100J4 : GoodIn wsJ5_append_3fe6f (va_wsU RJ5 100 RJ4 "java/lang/AbstractStringBuilder" ⟨"java/lang/AbstractStringBuilder", "ensureCapacityInternal", "(I)V"⟩ yJ5_ensureCapacityInternal_d00df wsJ5_ensureCapacityInternal_d00df) := goodIn_app (goodIn_of _ (by decide +kernel)) ggJ5_append_3fe6f_J5_ensureCapacityInternal_d00df
set_option maxRecDepth 20000 in
theorem ggJ5_append_3fe6f_J5_isLatin1_aae02 : GoodIn wsJ5_append_3fe6f wsJ5_isLatin1_aae02 := gi_q gd_wsJ5_append_3fe6f _ [(50, 2), (9, 1), (108, 4)] rfl
set_option maxRecDepth 20000 in
theorem gJ5_append_3fe6f_J5_isLatin1_aae02_u83J4 : GoodIn wsJ5_append_3fe6f (va_wsU RJ5 83 RJ4 "java/lang/AbstractStringBuilder" ⟨"java/lang/AbstractStringBuilder", "isLatin1", "()Z"⟩ yJ5_isLatin1_aae02 wsJ5_isLatin1_aae02) := goodIn_app (goodIn_of _ (by decide +kernel)) ggJ5_append_3fe6f_J5_isLatin1_aae02
set_option maxRecDepth 20000 in
theorem ggJ5_append_3fe6f_J1_canEncode_fc78d : GoodIn wsJ5_append_3fe6f wsJ1_canEncode_fc78d := gi_q gd_wsJ5_append_3fe6f _ [(55, 1)] rfl
set_option maxRecDepth 20000 in
theorem gJ5_append_3fe6f_J1_canEncode_fc78d : GoodIn wsJ5_append_3fe6f (va_wsS RJ5 191 yJ1_canEncode_fc78d wsJ1_canEncode_fc78d) := goodIn_app (gi_q gd_wsJ5_append_3fe6f _ [(52, 3)] rfl) ggJ5_append_3fe6f_J1_canEncode_fc78d
set_option maxRecDepth 20000 in
theorem ggJ5_append_3fe6f_J5_inflate_da8c8 : GoodIn wsJ5_append_3fe6f wsJ5_inflate_da8c8 := gi_q gd_wsJ5_append_3fe6f _ [(60, 1), (2, 1), (1, 1), (9, 1), (46, 4), (7, 1), (50, 2), (61, 4), (38, 1), (65, 6), (54, 1), (71, 25), (108, 4)] rfl
set_option maxRecDepth 20000 in
theorem gJ5_append_3fe6f_J5_inflate_da8c8_u195J4 : GoodIn wsJ5_append_3fe6f (va_wsU RJ5 195 RJ4 "java/lang/AbstractStringBuilder" ⟨"java/lang/AbstractStringBuilder", "inflate", "()V"⟩ yJ5_inflate_da8c8 wsJ5_inflate_da8c8) := goodIn_app (goodIn_of _ (by decide +kernel)) ggJ5_append_3fe6f_J5_inflate_da8c8
set_option maxRecDepth 20000 in
theorem ggJ5_append_3fe6f_J2_putCharSB_b72d1 : GoodIn wsJ5_append_3fe6f wsJ2_putCharSB_b72d1 := gi_q gd_wsJ5_append_3fe6f _ [(98, 3), (63, 1), (101, 1), (78, 3), (102, 2), (83, 1), (104, 1), (85, 1), (105, 2), (88, 1), (107, 1), (90, 6)] rfl
set_option maxRecDepth 20000 in
theorem gJ5_append_3fe6f_J2_putCharSB_b72d1 : GoodIn wsJ5_append_3fe6f (va_wsS RJ5 197 yJ2_putCharSB_b72d1 wsJ2_putCharSB_b72d1) := goodIn_app (gi_q gd_wsJ5_append_3fe6f _ [(96, 2), (63, 1)] rfl) ggJ5_append_3fe6f_J2_putCharSB_b72d1
def zT_cJ5_append_3fe6f : List (List Nat) := [[42, 42, 180, 0, 79, 4, 96, 182, 0, 100, 42, 182, 0, 83, 153, 0, 31, 27, 184, 0, 191, 153, 0, 24, 42, 180, 0, 15, 42, 89, 180, 0, 79, 90, 4, 96, 181, 0, 79, 27, 145, 84, 167, 0, 33, 42, 182, 0, 83, 153, 0, 7, 42, 182, 0, 195, 42, 180, 0, 15, 42, 89, 180, 0, 79, 90, 4, 96], [79, 90, 4, 96, 181, 0, 79, 27, 184, 0, 197, 42, 176]]
theorem zE_cJ5_append_3fe6f : zTab cJ5_append_3fe6f.data.toList zT_cJ5_append_3fe6f = true := by decide +kernel
theorem dJ5_append_3fe6f_0 : decode cJ5_append_3fe6f 0 = .ok (.aload_n 0, 1) := dz_aload_n_0 (y0 zE_cJ5_append_3fe6f 0 0 (by decide +kernel))
theorem dJ5_append_3fe6f_1 : decode cJ5_append_3fe6f 1 = .ok (.aload_n 0, 1) := dz_aload_n_0 (y0 zE_cJ5_append_3fe6f 0 1 (by decide +kernel))
theorem dJ5_append_3fe6f_2 : decode cJ5_append_3fe6f 2 = .ok (.getfield 79, 3) := dz_getfield (yu2 zE_cJ5_append_3fe6f 0 2 (by decide +kernel))
theorem dJ5_append_3fe6f_5 : decode cJ5_append_3fe6f 5 = .ok (.iconst 1, 1) := dz_iconst_1 (y0 zE_cJ5_append_3fe6f 0 5 (by decide +kernel))
theorem dJ5_append_3fe6f_6 : decode cJ5_append_3fe6f 6 = .ok (.iadd, 1) := dz_iadd (y0 zE_cJ5_append_3fe6f 0 6 (by decide +kernel))
theorem dJ5_append_3fe6f_7 : decode cJ5_append_3fe6f 7 = .ok (.invokevirtual 100, 3) := dz_invokevirtual (yu2 zE_cJ5_append_3fe6f 0 7 (by decide +kernel))
theorem dJ5_append_3fe6f_10 : decode cJ5_append_3fe6f 10 = .ok (.aload_n 0, 1) := dz_aload_n_0 (y0 zE_cJ5_append_3fe6f 0 10 (by decide +kernel))
theorem dJ5_append_3fe6f_11 : decode cJ5_append_3fe6f 11 = .ok (.invokevirtual 83, 3) := dz_invokevirtual (yu2 zE_cJ5_append_3fe6f 0 11 (by decide +kernel))
theorem dJ5_append_3fe6f_14 : decode cJ5_append_3fe6f 14 = .ok (.ifCond .eq 31, 3) := dz_ifCond_eq (ys2 zE_cJ5_append_3fe6f 0 14 (by decide +kernel))
theorem dJ5_append_3fe6f_17 : decode cJ5_append_3fe6f 17 = .ok (.iload_n 1, 1) := dz_iload_n_1 (y0 zE_cJ5_append_3fe6f 0 17 (by decide +kernel))
theorem dJ5_append_3fe6f_18 : decode cJ5_append_3fe6f 18 = .ok (.invokestatic 191, 3) := dz_invokestatic (yu2 zE_cJ5_append_3fe6f 0 18 (by decide +kernel))
theorem dJ5_append_3fe6f_21 : decode cJ5_append_3fe6f 21 = .ok (.ifCond .eq 24, 3) := dz_ifCond_eq (ys2 zE_cJ5_append_3fe6f 0 21 (by decide +kernel))
theorem dJ5_append_3fe6f_24 : decode cJ5_append_3fe6f 24 = .ok (.aload_n 0, 1) := dz_aload_n_0 (y0 zE_cJ5_append_3fe6f 0 24 (by decide +kernel))
theorem dJ5_append_3fe6f_25 : decode cJ5_append_3fe6f 25 = .ok (.getfield 15, 3) := dz_getfield (yu2 zE_cJ5_append_3fe6f 0 25 (by decide +kernel))
theorem dJ5_append_3fe6f_28 : decode cJ5_append_3fe6f 28 = .ok (.aload_n 0, 1) := dz_aload_n_0 (y0 zE_cJ5_append_3fe6f 0 28 (by decide +kernel))
theorem dJ5_append_3fe6f_29 : decode cJ5_append_3fe6f 29 = .ok (.dup, 1) := dz_dup (y0 zE_cJ5_append_3fe6f 0 29 (by decide +kernel))
theorem dJ5_append_3fe6f_30 : decode cJ5_append_3fe6f 30 = .ok (.getfield 79, 3) := dz_getfield (yu2 zE_cJ5_append_3fe6f 0 30 (by decide +kernel))
theorem dJ5_append_3fe6f_33 : decode cJ5_append_3fe6f 33 = .ok (.dup_x1, 1) := dz_dup_x1 (y0 zE_cJ5_append_3fe6f 0 33 (by decide +kernel))
theorem dJ5_append_3fe6f_34 : decode cJ5_append_3fe6f 34 = .ok (.iconst 1, 1) := dz_iconst_1 (y0 zE_cJ5_append_3fe6f 0 34 (by decide +kernel))
theorem dJ5_append_3fe6f_35 : decode cJ5_append_3fe6f 35 = .ok (.iadd, 1) := dz_iadd (y0 zE_cJ5_append_3fe6f 0 35 (by decide +kernel))
theorem dJ5_append_3fe6f_36 : decode cJ5_append_3fe6f 36 = .ok (.putfield 79, 3) := dz_putfield (yu2 zE_cJ5_append_3fe6f 0 36 (by decide +kernel))
theorem dJ5_append_3fe6f_39 : decode cJ5_append_3fe6f 39 = .ok (.iload_n 1, 1) := dz_iload_n_1 (y0 zE_cJ5_append_3fe6f 0 39 (by decide +kernel))
theorem dJ5_append_3fe6f_40 : decode cJ5_append_3fe6f 40 = .ok (.i2b, 1) := dz_i2b (y0 zE_cJ5_append_3fe6f 0 40 (by decide +kernel))
theorem dJ5_append_3fe6f_41 : decode cJ5_append_3fe6f 41 = .ok (.bastore, 1) := dz_bastore (y0 zE_cJ5_append_3fe6f 0 41 (by decide +kernel))
theorem dJ5_append_3fe6f_42 : decode cJ5_append_3fe6f 42 = .ok (.goto 33, 3) := dz_goto (ys2 zE_cJ5_append_3fe6f 0 42 (by decide +kernel))
theorem dJ5_append_3fe6f_45 : decode cJ5_append_3fe6f 45 = .ok (.aload_n 0, 1) := dz_aload_n_0 (y0 zE_cJ5_append_3fe6f 0 45 (by decide +kernel))
theorem dJ5_append_3fe6f_46 : decode cJ5_append_3fe6f 46 = .ok (.invokevirtual 83, 3) := dz_invokevirtual (yu2 zE_cJ5_append_3fe6f 0 46 (by decide +kernel))
theorem dJ5_append_3fe6f_49 : decode cJ5_append_3fe6f 49 = .ok (.ifCond .eq 7, 3) := dz_ifCond_eq (ys2 zE_cJ5_append_3fe6f 0 49 (by decide +kernel))
theorem dJ5_append_3fe6f_52 : decode cJ5_append_3fe6f 52 = .ok (.aload_n 0, 1) := dz_aload_n_0 (y0 zE_cJ5_append_3fe6f 0 52 (by decide +kernel))
theorem dJ5_append_3fe6f_53 : decode cJ5_append_3fe6f 53 = .ok (.invokevirtual 195, 3) := dz_invokevirtual (yu2 zE_cJ5_append_3fe6f 0 53 (by decide +kernel))
theorem dJ5_append_3fe6f_56 : decode cJ5_append_3fe6f 56 = .ok (.aload_n 0, 1) := dz_aload_n_0 (y0 zE_cJ5_append_3fe6f 0 56 (by decide +kernel))
theorem dJ5_append_3fe6f_57 : decode cJ5_append_3fe6f 57 = .ok (.getfield 15, 3) := dz_getfield (yu2 zE_cJ5_append_3fe6f 0 57 (by decide +kernel))
theorem dJ5_append_3fe6f_60 : decode cJ5_append_3fe6f 60 = .ok (.aload_n 0, 1) := dz_aload_n_0 (y0 zE_cJ5_append_3fe6f 0 60 (by decide +kernel))
theorem dJ5_append_3fe6f_61 : decode cJ5_append_3fe6f 61 = .ok (.dup, 1) := dz_dup (y0 zE_cJ5_append_3fe6f 0 61 (by decide +kernel))
theorem dJ5_append_3fe6f_62 : decode cJ5_append_3fe6f 62 = .ok (.getfield 79, 3) := dz_getfield (yu2 zE_cJ5_append_3fe6f 0 62 (by decide +kernel))
theorem dJ5_append_3fe6f_65 : decode cJ5_append_3fe6f 65 = .ok (.dup_x1, 1) := dz_dup_x1 (y0 zE_cJ5_append_3fe6f 1 1 (by decide +kernel))
theorem dJ5_append_3fe6f_66 : decode cJ5_append_3fe6f 66 = .ok (.iconst 1, 1) := dz_iconst_1 (y0 zE_cJ5_append_3fe6f 1 2 (by decide +kernel))
theorem dJ5_append_3fe6f_67 : decode cJ5_append_3fe6f 67 = .ok (.iadd, 1) := dz_iadd (y0 zE_cJ5_append_3fe6f 1 3 (by decide +kernel))
theorem dJ5_append_3fe6f_68 : decode cJ5_append_3fe6f 68 = .ok (.putfield 79, 3) := dz_putfield (yu2 zE_cJ5_append_3fe6f 1 4 (by decide +kernel))
theorem dJ5_append_3fe6f_71 : decode cJ5_append_3fe6f 71 = .ok (.iload_n 1, 1) := dz_iload_n_1 (y0 zE_cJ5_append_3fe6f 1 7 (by decide +kernel))
theorem dJ5_append_3fe6f_72 : decode cJ5_append_3fe6f 72 = .ok (.invokestatic 197, 3) := dz_invokestatic (yu2 zE_cJ5_append_3fe6f 1 8 (by decide +kernel))
theorem dJ5_append_3fe6f_75 : decode cJ5_append_3fe6f 75 = .ok (.aload_n 0, 1) := dz_aload_n_0 (y0 zE_cJ5_append_3fe6f 1 11 (by decide +kernel))
theorem dJ5_append_3fe6f_76 : decode cJ5_append_3fe6f 76 = .ok (.areturn, 1) := dz_areturn (y0 zE_cJ5_append_3fe6f 1 12 (by decide +kernel))
theorem gd_wsJ5_append_c97b9 : wsJ5_append_c97b9.all goodWord = true := by decide +kernel
set_option maxRecDepth 20000 in
theorem ggJ5_append_c97b9_J6_stringSize_0f7a4 : GoodIn wsJ5_append_c97b9 wsJ6_stringSize_0f7a4 := gi_q gd_wsJ5_append_c97b9 _ [(6, 1)] rfl
set_option maxRecDepth 20000 in
theorem gJ5_append_c97b9_J6_stringSize_0f7a4 : GoodIn wsJ5_append_c97b9 (va_wsS RJ5 245 yJ6_stringSize_0f7a4 wsJ6_stringSize_0f7a4) := goodIn_app (gi_q gd_wsJ5_append_c97b9 _ [(3, 3)] rfl) ggJ5_append_c97b9_J6_stringSize_0f7a4
set_option maxRecDepth 20000 in
theorem ggJ5_append_c97b9_J5_ensureCapacityInternal_d00df : GoodIn wsJ5_append_c97b9 wsJ5_ensureCapacityInternal_d00df := gi_q gd_wsJ5_append_c97b9 _ [(12, 1), (2, 1), (13, 5), (11, 1), (18, 32), (91, 4)] rfl
set_option maxRecDepth 20000 in
theorem gJ5_append_c97b9_J5_ensureCapacityInternal_d00df_u100J4 : GoodIn wsJ5_append_c97b9 (va_wsU RJ5 100 RJ4 "java/lang/AbstractStringBuilder" ⟨"java/lang/AbstractStringBuilder", "ensureCapacityInternal", "(I)V"⟩ yJ5_ensureCapacityInternal_d00df wsJ5_ensureCapacityInternal_d00df) := goodIn_app (goodIn_of _ (by decide +kernel)) ggJ5_append_c97b9_J5_ensureCapacityInternal_d00df
set_option maxRecDepth 20000 in
theorem ggJ5_append_c97b9_J5_isLatin1_aae02 : GoodIn wsJ5_append_c97b9 wsJ5_isLatin1_aae02 := gi_q gd_wsJ5_append_c97b9 _ [(54, 2), (13, 1), (91, 4)] rfl
set_option maxRecDepth 20000 in
theorem gJ5_append_c97b9_J5_isLatin1_aae02_u83J4 : GoodIn wsJ5_append_c97b9 (va_wsU RJ5 83 RJ4 "java/lang/AbstractStringBuilder" ⟨"java/lang/AbstractStringBuilder", "isLatin1", "()Z"⟩ yJ5_isLatin1_aae02 wsJ5_isLatin1_aae02) := goodIn_app (goodIn_of _ (by decide +kernel)) ggJ5_append_c97b9_J5_isLatin1_aae02
set_option maxRecDepth 20000 in
theorem ggJ5_append_c97b9_J6_getChars_ba4f3 : GoodIn wsJ5_append_c97b9 wsJ6_getChars_ba4f3 := gi_q gd_wsJ5_append_c97b9 _ [(58, 3)] rfl
set_option maxRecDepth 20000 in
theorem gJ5_append_c97b9_J6_getChars_ba4f3 : GoodIn wsJ5_append_c97b9 (va_wsS RJ5 248 yJ6_getChars_ba4f3 wsJ6_getChars_ba4f3) := goodIn_app (gi_q gd_wsJ5_append_c97b9 _ [(56, 2), (5, 1)] rfl) ggJ5_append_c97b9_J6_getChars_ba4f3
set_option maxRecDepth 20000 in
theorem ggJ5_append_c97b9_J2_getChars_46870 : GoodIn wsJ5_append_c97b9 wsJ2_getChars_46870 := gi_q gd_wsJ5_append_c97b9 _ [(64, 4), (63, 1), (68, 23)] rfl
set_option maxRecDepth 20000 in
theorem gJ5_append_c97b9_J2_getChars_46870 : GoodIn wsJ5_append_c97b9 (va_wsS RJ5 251 yJ2_getChars_46870 wsJ2_getChars_46870) := goodIn_app (gi_q gd_wsJ5_append_c97b9 _ [(61, 3)] rfl) ggJ5_append_c97b9_J2_getChars_46870
def zT_cJ5_append_c97b9 : List (List Nat) := [[42, 180, 0, 79, 61, 28, 27, 184, 0, 245, 96, 62, 42, 29, 182, 0, 100, 42, 182, 0, 83, 153, 0, 16, 27, 29, 42, 180, 0, 15, 184, 0, 248, 87, 167, 0, 14, 27, 28, 29, 42, 180, 0, 15, 184, 0, 251, 87, 42, 29, 181, 0, 79, 42, 176]]
theorem zE_cJ5_append_c97b9 : zTab cJ5_append_c97b9.data.toList zT_cJ5_append_c97b9 = true := by decide +kernel
theorem dJ5_append_c97b9_0 : decode cJ5_append_c97b9 0 = .ok (.aload_n 0, 1) := dz_aload_n_0 (y0 zE_cJ5_append_c97b9 0 0 (by decide +kernel))
theorem dJ5_append_c97b9_1 : decode cJ5_append_c97b9 1 = .ok (.getfield 79, 3) := dz_getfield (yu2 zE_cJ5_append_c97b9 0 1 (by decide +kernel))
theorem dJ5_append_c97b9_4 : decode cJ5_append_c97b9 4 = .ok (.istore_n 2, 1) := dz_istore_n_2 (y0 zE_cJ5_append_c97b9 0 4 (by decide +kernel))
theorem dJ5_append_c97b9_5 : decode cJ5_append_c97b9 5 = .ok (.iload_n 2, 1) := dz_iload_n_2 (y0 zE_cJ5_append_c97b9 0 5 (by decide +kernel))
theorem dJ5_append_c97b9_6 : decode cJ5_append_c97b9 6 = .ok (.iload_n 1, 1) := dz_iload_n_1 (y0 zE_cJ5_append_c97b9 0 6 (by decide +kernel))
theorem dJ5_append_c97b9_7 : decode cJ5_append_c97b9 7 = .ok (.invokestatic 245, 3) := dz_invokestatic (yu2 zE_cJ5_append_c97b9 0 7 (by decide +kernel))
theorem dJ5_append_c97b9_10 : decode cJ5_append_c97b9 10 = .ok (.iadd, 1) := dz_iadd (y0 zE_cJ5_append_c97b9 0 10 (by decide +kernel))
theorem dJ5_append_c97b9_11 : decode cJ5_append_c97b9 11 = .ok (.istore_n 3, 1) := dz_istore_n_3 (y0 zE_cJ5_append_c97b9 0 11 (by decide +kernel))
theorem dJ5_append_c97b9_12 : decode cJ5_append_c97b9 12 = .ok (.aload_n 0, 1) := dz_aload_n_0 (y0 zE_cJ5_append_c97b9 0 12 (by decide +kernel))
theorem dJ5_append_c97b9_13 : decode cJ5_append_c97b9 13 = .ok (.iload_n 3, 1) := dz_iload_n_3 (y0 zE_cJ5_append_c97b9 0 13 (by decide +kernel))
theorem dJ5_append_c97b9_14 : decode cJ5_append_c97b9 14 = .ok (.invokevirtual 100, 3) := dz_invokevirtual (yu2 zE_cJ5_append_c97b9 0 14 (by decide +kernel))
theorem dJ5_append_c97b9_17 : decode cJ5_append_c97b9 17 = .ok (.aload_n 0, 1) := dz_aload_n_0 (y0 zE_cJ5_append_c97b9 0 17 (by decide +kernel))
theorem dJ5_append_c97b9_18 : decode cJ5_append_c97b9 18 = .ok (.invokevirtual 83, 3) := dz_invokevirtual (yu2 zE_cJ5_append_c97b9 0 18 (by decide +kernel))
theorem dJ5_append_c97b9_21 : decode cJ5_append_c97b9 21 = .ok (.ifCond .eq 16, 3) := dz_ifCond_eq (ys2 zE_cJ5_append_c97b9 0 21 (by decide +kernel))
theorem dJ5_append_c97b9_24 : decode cJ5_append_c97b9 24 = .ok (.iload_n 1, 1) := dz_iload_n_1 (y0 zE_cJ5_append_c97b9 0 24 (by decide +kernel))
theorem dJ5_append_c97b9_25 : decode cJ5_append_c97b9 25 = .ok (.iload_n 3, 1) := dz_iload_n_3 (y0 zE_cJ5_append_c97b9 0 25 (by decide +kernel))
theorem dJ5_append_c97b9_26 : decode cJ5_append_c97b9 26 = .ok (.aload_n 0, 1) := dz_aload_n_0 (y0 zE_cJ5_append_c97b9 0 26 (by decide +kernel))
theorem dJ5_append_c97b9_27 : decode cJ5_append_c97b9 27 = .ok (.getfield 15, 3) := dz_getfield (yu2 zE_cJ5_append_c97b9 0 27 (by decide +kernel))
theorem dJ5_append_c97b9_30 : decode cJ5_append_c97b9 30 = .ok (.invokestatic 248, 3) := dz_invokestatic (yu2 zE_cJ5_append_c97b9 0 30 (by decide +kernel))
theorem dJ5_append_c97b9_33 : decode cJ5_append_c97b9 33 = .ok (.pop, 1) := dz_pop (y0 zE_cJ5_append_c97b9 0 33 (by decide +kernel))
theorem dJ5_append_c97b9_34 : decode cJ5_append_c97b9 34 = .ok (.goto 14, 3) := dz_goto (ys2 zE_cJ5_append_c97b9 0 34 (by decide +kernel))
theorem dJ5_append_c97b9_37 : decode cJ5_append_c97b9 37 = .ok (.iload_n 1, 1) := dz_iload_n_1 (y0 zE_cJ5_append_c97b9 0 37 (by decide +kernel))
theorem dJ5_append_c97b9_38 : decode cJ5_append_c97b9 38 = .ok (.iload_n 2, 1) := dz_iload_n_2 (y0 zE_cJ5_append_c97b9 0 38 (by decide +kernel))
theorem dJ5_append_c97b9_39 : decode cJ5_append_c97b9 39 = .ok (.iload_n 3, 1) := dz_iload_n_3 (y0 zE_cJ5_append_c97b9 0 39 (by decide +kernel))
theorem dJ5_append_c97b9_40 : decode cJ5_append_c97b9 40 = .ok (.aload_n 0, 1) := dz_aload_n_0 (y0 zE_cJ5_append_c97b9 0 40 (by decide +kernel))
theorem dJ5_append_c97b9_41 : decode cJ5_append_c97b9 41 = .ok (.getfield 15, 3) := dz_getfield (yu2 zE_cJ5_append_c97b9 0 41 (by decide +kernel))
theorem dJ5_append_c97b9_44 : decode cJ5_append_c97b9 44 = .ok (.invokestatic 251, 3) := dz_invokestatic (yu2 zE_cJ5_append_c97b9 0 44 (by decide +kernel))
theorem dJ5_append_c97b9_47 : decode cJ5_append_c97b9 47 = .ok (.pop, 1) := dz_pop (y0 zE_cJ5_append_c97b9 0 47 (by decide +kernel))
theorem dJ5_append_c97b9_48 : decode cJ5_append_c97b9 48 = .ok (.aload_n 0, 1) := dz_aload_n_0 (y0 zE_cJ5_append_c97b9 0 48 (by decide +kernel))
theorem dJ5_append_c97b9_49 : decode cJ5_append_c97b9 49 = .ok (.iload_n 3, 1) := dz_iload_n_3 (y0 zE_cJ5_append_c97b9 0 49 (by decide +kernel))
theorem dJ5_append_c97b9_50 : decode cJ5_append_c97b9 50 = .ok (.putfield 79, 3) := dz_putfield (yu2 zE_cJ5_append_c97b9 0 50 (by decide +kernel))
theorem dJ5_append_c97b9_53 : decode cJ5_append_c97b9 53 = .ok (.aload_n 0, 1) := dz_aload_n_0 (y0 zE_cJ5_append_c97b9 0 53 (by decide +kernel))
theorem dJ5_append_c97b9_54 : decode cJ5_append_c97b9 54 = .ok (.areturn, 1) := dz_areturn (y0 zE_cJ5_append_c97b9 0 54 (by decide +kernel))
theorem dJ5_getValue_6d5f1_0 : decode cJ5_getValue_6d5f1 0 = .ok (.aload_n 0, 1) := dkT (by decide +kernel)
theorem dJ5_getValue_6d5f1_1 : decode cJ5_getValue_6d5f1 1 = .ok (.getfield 15, 3) := dkT (by decide +kernel)
theorem dJ5_getValue_6d5f1_4 : decode cJ5_getValue_6d5f1 4 = .ok (.areturn, 1) := dkT (by decide +kernel)
theorem dJ5_isLatin1_aae02_0 : decode cJ5_isLatin1_aae02 0 = .ok (.getstatic 18, 3) := dkT (by decide +kernel)
theorem dJ5_isLatin1_aae02_3 : decode cJ5_isLatin1_aae02 3 = .ok (.ifCond .eq 14, 3) := dkT (by decide +kernel)
theorem dJ5_isLatin1_aae02_6 : decode cJ5_isLatin1_aae02 6 = .ok (.aload_n 0, 1) := dkT (by decide +kernel)
theorem dJ5_isLatin1_aae02_7 : decode cJ5_isLatin1_aae02 7 = .ok (.getfield 22, 3) := dkT (by decide +kernel)
theorem dJ5_isLatin1_aae02_10 : decode cJ5_isLatin1_aae02 10 = .ok (.ifCond .ne 7, 3) := dkT (by decide +kernel)
theorem dJ5_isLatin1_aae02_13 : decode cJ5_isLatin1_aae02 13 = .ok (.iconst 1, 1) := dkT (by decide +kernel)
theorem dJ5_isLatin1_aae02_14 : decode cJ5_isLatin1_aae02 14 = .ok (.goto 4, 3) := dkT (by decide +kernel)
theorem dJ5_isLatin1_aae02_17 : decode cJ5_isLatin1_aae02 17 = .ok (.iconst 0, 1) := dkT (by decide +kernel)
theorem dJ5_isLatin1_aae02_18 : decode cJ5_isLatin1_aae02 18 = .ok (.ireturn, 1) := dkT (by decide +kernel)
theorem gd_wsJ5_inflateIfNeededFor_a7421 : wsJ5_inflateIfNeededFor_a7421.all goodWord = true := by decide +kernel
set_option maxRecDepth 20000 in
theorem ggJ5_inflateIfNeededFor_a7421_J0_coder_7d493 : GoodIn wsJ5_inflateIfNeededFor_a7421 wsJ0_coder_7d493 := gi_q gd_wsJ5_inflateIfNeededFor_a7421 _ [(7, 3), (63, 4)] rfl
set_option maxRecDepth 20000 in
theorem gJ5_inflateIfNeededFor_a7421_J0_coder_7d493 : GoodIn wsJ5_inflateIfNeededFor_a7421 (wsV RJ5 40 RJ0 yJ0_coder_7d493 wsJ0_coder_7d493) := goodIn_app (gi_q gd_wsJ5_inflateIfNeededFor_a7421 _ [(3, 4)] rfl) ggJ5_inflateIfNeededFor_a7421_J0_coder_7d493
set_option maxRecDepth 20000 in
theorem ggJ5_inflateIfNeededFor_a7421_J5_inflate_da8c8 : GoodIn wsJ5_inflateIfNeededFor_a7421 wsJ5_inflate_da8c8 := gi_q gd_wsJ5_inflateIfNeededFor_a7421 _ [(15, 3), (2, 1), (18, 4), (14, 1), (22, 1), (1, 1), (23, 24), (6, 1), (47, 16)] rfl
set_option maxRecDepth 20000 in
theorem gJ5_inflateIfNeededFor_a7421_J5_inflate_da8c8_u195J4 : GoodIn wsJ5_inflateIfNeededFor_a7421 (va_wsU RJ5 195 RJ4 "java/lang/AbstractStringBuilder" ⟨"java/lang/AbstractStringBuilder", "inflate", "()V"⟩ yJ5_inflate_da8c8 wsJ5_inflate_da8c8) := goodIn_app (goodIn_of _ (by decide +kernel)) ggJ5_inflateIfNeededFor_a7421_J5_inflate_da8c8
theorem dJ5_inflateIfNeededFor_a7421_0 : decode cJ5_inflateIfNeededFor_a7421 0 = .ok (.getstatic 18, 3) := dkT (by decide +kernel)
theorem dJ5_inflateIfNeededFor_a7421_3 : decode cJ5_inflateIfNeededFor_a7421 3 = .ok (.ifCond .eq 18, 3) := dkT (by decide +kernel)
theorem dJ5_inflateIfNeededFor_a7421_6 : decode cJ5_inflateIfNeededFor_a7421 6 = .ok (.aload_n 0, 1) := dkT (by decide +kernel)
theorem dJ5_inflateIfNeededFor_a7421_7 : decode cJ5_inflateIfNeededFor_a7421 7 = .ok (.getfield 22, 3) := dkT (by decide +kernel)
theorem dJ5_inflateIfNeededFor_a7421_10 : decode cJ5_inflateIfNeededFor_a7421 10 = .ok (.aload_n 1, 1) := dkT (by decide +kernel)
theorem dJ5_inflateIfNeededFor_a7421_11 : decode cJ5_inflateIfNeededFor_a7421 11 = .ok (.invokevirtual 40, 3) := dkT (by decide +kernel)
theorem dJ5_inflateIfNeededFor_a7421_14 : decode cJ5_inflateIfNeededFor_a7421 14 = .ok (.if_icmp .eq 7, 3) := dkT (by decide +kernel)
theorem dJ5_inflateIfNeededFor_a7421_17 : decode cJ5_inflateIfNeededFor_a7421 17 = .ok (.aload_n 0, 1) := dkT (by decide +kernel)
theorem dJ5_inflateIfNeededFor_a7421_18 : decode cJ5_inflateIfNeededFor_a7421 18 = .ok (.invokevirtual 195, 3) := dkT (by decide +kernel)
theorem dJ5_inflateIfNeededFor_a7421_21 : decode cJ5_inflateIfNeededFor_a7421 21 = .ok (.return_, 1) := dkT (by decide +kernel)
theorem gd_wsJ5_putStringAt_47b60 : wsJ5_putStringAt_47b60.all goodWord = true := by decide +kernel
set_option maxRecDepth 20000 in
theorem ggJ5_putStringAt_47b60_J5_inflateIfNeededFor_a7421 : GoodIn wsJ5_putStringAt_47b60 wsJ5_inflateIfNeededFor_a7421 := gi_q gd_wsJ5_putStringAt_47b60 _ [(8, 2), (2, 1), (10, 11), (7, 1), (21, 1), (1, 1), (22, 42), (75, 8)] rfl
set_option maxRecDepth 20000 in
theorem gJ5_putStringAt_47b60_J5_inflateIfNeededFor_a7421_u397J4 : GoodIn wsJ5_putStringAt_47b60 (va_wsU RJ5 397 RJ4 "java/lang/AbstractStringBuilder" ⟨"java/lang/AbstractStringBuilder", "inflateIfNeededFor", "(Ljava/lang/String;)V"⟩ yJ5_inflateIfNeededFor_a7421 wsJ5_inflateIfNeededFor_a7421) := goodIn_app (goodIn_of _ (by decide +kernel)) ggJ5_putStringAt_47b60_J5_inflateIfNeededFor_a7421
set_option maxRecDepth 20000 in
theorem ggJ5_putStringAt_47b60_J0_getBytes_840e7 : GoodIn wsJ5_putStringAt_47b60 wsJ0_getBytes_840e7 := gi_q gd_wsJ5_putStringAt_47b60 _ [(67, 7), (11, 6), (74, 1), (38, 5), (30, 1), (43, 21), (79, 4)] rfl
set_option maxRecDepth 20000 in
theorem gJ5_putStringAt_47b60_J0_getBytes_840e7 : GoodIn wsJ5_putStringAt_47b60 (wsV RJ5 399 RJ0 yJ0_getBytes_840e7 wsJ0_getBytes_840e7) := goodIn_app (gi_q gd_wsJ5_putStringAt_47b60 _ [(64, 3), (13, 1)] rfl) ggJ5_putStringAt_47b60_J0_getBytes_840e7
theorem dJ5_putStringAt_47b60_0 : decode cJ5_putStringAt_47b60 0 = .ok (.aload_n 0, 1) := dkT (by decide +kernel)
theorem dJ5_putStringAt_47b60_1 : decode cJ5_putStringAt_47b60 1 = .ok (.aload_n 2, 1) := dkT (by decide +kernel)
theorem dJ5_putStringAt_47b60_2 : decode cJ5_putStringAt_47b60 2 = .ok (.invokevirtual 397, 3) := dkT (by decide +kernel)
theorem dJ5_putStringAt_47b60_5 : decode cJ5_putStringAt_47b60 5 = .ok (.aload_n 2, 1) := dkT (by decide +kernel)
theorem dJ5_putStringAt_47b60_6 : decode cJ5_putStringAt_47b60 6 = .ok (.aload_n 0, 1) := dkT (by decide +kernel)
theorem dJ5_putStringAt_47b60_7 : decode cJ5_putStringAt_47b60 7 = .ok (.getfield 15, 3) := dkT (by decide +kernel)
theorem dJ5_putStringAt_47b60_10 : decode cJ5_putStringAt_47b60 10 = .ok (.iload_n 1, 1) := dkT (by decide +kernel)
theorem dJ5_putStringAt_47b60_11 : decode cJ5_putStringAt_47b60 11 = .ok (.aload_n 0, 1) := dkT (by decide +kernel)
theorem dJ5_putStringAt_47b60_12 : decode cJ5_putStringAt_47b60 12 = .ok (.getfield 22, 3) := dkT (by decide +kernel)
theorem dJ5_putStringAt_47b60_15 : decode cJ5_putStringAt_47b60 15 = .ok (.invokevirtual 399, 3) := dkT (by decide +kernel)
theorem dJ5_putStringAt_47b60_18 : decode cJ5_putStringAt_47b60 18 = .ok (.return_, 1) := dkT (by decide +kernel)
def zT_cJ6_getChars_ba4f3 : List (List Nat) := [[27, 54, 5, 26, 156, 0, 7, 4, 167, 0, 4, 3, 54, 6, 21, 6, 154, 0, 6, 26, 116, 59, 26, 16, 156, 163, 0, 47, 26, 16, 100, 108, 62, 29, 16, 100, 104, 26, 100, 54, 4, 29, 59, 44, 132, 5, 255, 21, 5, 178, 0, 83, 21, 4, 51, 84, 44, 132, 5, 255, 21, 5, 178, 0, 87, 21, 4, 51], [87, 21, 4, 51, 84, 167, 255, 209, 44, 132, 5, 255, 21, 5, 178, 0, 83, 26, 116, 51, 84, 26, 16, 247, 162, 0, 16, 44, 132, 5, 255, 21, 5, 178, 0, 87, 26, 116, 51, 84, 21, 6, 153, 0, 12, 44, 132, 5, 255, 21, 5, 16, 45, 84, 21, 5, 172]]
theorem zE_cJ6_getChars_ba4f3 : zTab cJ6_getChars_ba4f3.data.toList zT_cJ6_getChars_ba4f3 = true := by decide +kernel
theorem dJ6_getChars_ba4f3_0 : decode cJ6_getChars_ba4f3 0 = .ok (.iload_n 1, 1) := dz_iload_n_1 (y0 zE_cJ6_getChars_ba4f3 0 0 (by decide +kernel))
theorem dJ6_getChars_ba4f3_1 : decode cJ6_getChars_ba4f3 1 = .ok (.istore 5, 2) := dz_istore (yu1 zE_cJ6_getChars_ba4f3 0 1 (by decide +kernel))
theorem dJ6_getChars_ba4f3_3 : decode cJ6_getChars_ba4f3 3 = .ok (.iload_n 0, 1) := dz_iload_n_0 (y0 zE_cJ6_getChars_ba4f3 0 3 (by decide +kernel))
theorem dJ6_getChars_ba4f3_4 : decode cJ6_getChars_ba4f3 4 = .ok (.ifCond .ge 7, 3) := dz_ifCond_ge (ys2 zE_cJ6_getChars_ba4f3 0 4 (by decide +kernel))
theorem dJ6_getChars_ba4f3_7 : decode cJ6_getChars_ba4f3 7 = .ok (.iconst 1, 1) := dz_iconst_1 (y0 zE_cJ6_getChars_ba4f3 0 7 (by decide +kernel))
theorem dJ6_getChars_ba4f3_8 : decode cJ6_getChars_ba4f3 8 = .ok (.goto 4, 3) := dz_goto (ys2 zE_cJ6_getChars_ba4f3 0 8 (by decide +kernel))
theorem dJ6_getChars_ba4f3_11 : decode cJ6_getChars_ba4f3 11 = .ok (.iconst 0, 1) := dz_iconst_0 (y0 zE_cJ6_getChars_ba4f3 0 11 (by decide +kernel))
theorem dJ6_getChars_ba4f3_12 : decode cJ6_getChars_ba4f3 12 = .ok (.istore 6, 2) := dz_istore (yu1 zE_cJ6_getChars_ba4f3 0 12 (by decide +kernel))
theorem dJ6_getChars_ba4f3_14 : decode cJ6_getChars_ba4f3 14 = .ok (.iload 6, 2) := dz_iload (yu1 zE_cJ6_getChars_ba4f3 0 14 (by decide +kernel))
theorem dJ6_getChars_ba4f3_16 : decode cJ6_getChars_ba4f3 16 = .ok (.ifCond .ne 6, 3) := dz_ifCond_ne (ys2 zE_cJ6_getChars_ba4f3 0 16 (by decide +kernel))
theorem dJ6_getChars_ba4f3_19 : decode cJ6_getChars_ba4f3 19 = .ok (.iload_n 0, 1) := dz_iload_n_0 (y0 zE_cJ6_getChars_ba4f3 0 19 (by decide +kernel))
theorem dJ6_getChars_ba4f3_20 : decode cJ6_getChars_ba4f3 20 = .ok (.ineg, 1) := dz_ineg (y0 zE_cJ6_getChars_ba4f3 0 20 (by decide +kernel))
theorem dJ6_getChars_ba4f3_21 : decode cJ6_getChars_ba4f3 21 = .ok (.istore_n 0, 1) := dz_istore_n_0 (y0 zE_cJ6_getChars_ba4f3 0 21 (by decide +kernel))
theorem dJ6_getChars_ba4f3_22 : decode cJ6_getChars_ba4f3 22 = .ok (.iload_n 0, 1) := dz_iload_n_0 (y0 zE_cJ6_getChars_ba4f3 0 22 (by decide +kernel))
theorem dJ6_getChars_ba4f3_23 : decode cJ6_getChars_ba4f3 23 = .ok (.bipush (-100), 2) := dz_bipush (ys1 zE_cJ6_getChars_ba4f3 0 23 (by decide +kernel))
theorem dJ6_getChars_ba4f3_25 : decode cJ6_getChars_ba4f3 25 = .ok (.if_icmp .gt 47, 3) := dz_if_icmp_gt (ys2 zE_cJ6_getChars_ba4f3 0 25 (by decide +kernel))
theorem dJ6_getChars_ba4f3_28 : decode cJ6_getChars_ba4f3 28 = .ok (.iload_n 0, 1) := dz_iload_n_0 (y0 zE_cJ6_getChars_ba4f3 0 28 (by decide +kernel))
theorem dJ6_getChars_ba4f3_29 : decode cJ6_getChars_ba4f3 29 = .ok (.bipush 100, 2) := dz_bipush (ys1 zE_cJ6_getChars_ba4f3 0 29 (by decide +kernel))
theorem dJ6_getChars_ba4f3_31 : decode cJ6_getChars_ba4f3 31 = .ok (.idiv, 1) := dz_idiv (y0 zE_cJ6_getChars_ba4f3 0 31 (by decide +kernel))
theorem dJ6_getChars_ba4f3_32 : decode cJ6_getChars_ba4f3 32 = .ok (.istore_n 3, 1) := dz_istore_n_3 (y0 zE_cJ6_getChars_ba4f3 0 32 (by decide +kernel))
theorem dJ6_getChars_ba4f3_33 : decode cJ6_getChars_ba4f3 33 = .ok (.iload_n 3, 1) := dz_iload_n_3 (y0 zE_cJ6_getChars_ba4f3 0 33 (by decide +kernel))
theorem dJ6_getChars_ba4f3_34 : decode cJ6_getChars_ba4f3 34 = .ok (.bipush 100, 2) := dz_bipush (ys1 zE_cJ6_getChars_ba4f3 0 34 (by decide +kernel))
theorem dJ6_getChars_ba4f3_36 : decode cJ6_getChars_ba4f3 36 = .ok (.imul, 1) := dz_imul (y0 zE_cJ6_getChars_ba4f3 0 36 (by decide +kernel))
theorem dJ6_getChars_ba4f3_37 : decode cJ6_getChars_ba4f3 37 = .ok (.iload_n 0, 1) := dz_iload_n_0 (y0 zE_cJ6_getChars_ba4f3 0 37 (by decide +kernel))
theorem dJ6_getChars_ba4f3_38 : decode cJ6_getChars_ba4f3 38 = .ok (.isub, 1) := dz_isub (y0 zE_cJ6_getChars_ba4f3 0 38 (by decide +kernel))
theorem dJ6_getChars_ba4f3_39 : decode cJ6_getChars_ba4f3 39 = .ok (.istore 4, 2) := dz_istore (yu1 zE_cJ6_getChars_ba4f3 0 39 (by decide +kernel))
theorem dJ6_getChars_ba4f3_41 : decode cJ6_getChars_ba4f3 41 = .ok (.iload_n 3, 1) := dz_iload_n_3 (y0 zE_cJ6_getChars_ba4f3 0 41 (by decide +kernel))
theorem dJ6_getChars_ba4f3_42 : decode cJ6_getChars_ba4f3 42 = .ok (.istore_n 0, 1) := dz_istore_n_0 (y0 zE_cJ6_getChars_ba4f3 0 42 (by decide +kernel))
theorem dJ6_getChars_ba4f3_43 : decode cJ6_getChars_ba4f3 43 = .ok (.aload_n 2, 1) := dz_aload_n_2 (y0 zE_cJ6_getChars_ba4f3 0 43 (by decide +kernel))
theorem dJ6_getChars_ba4f3_44 : decode cJ6_getChars_ba4f3 44 = .ok (.iinc 5 (-1), 3) := dz_iinc (yii zE_cJ6_getChars_ba4f3 0 44 (by decide +kernel))
theorem dJ6_getChars_ba4f3_47 : decode cJ6_getChars_ba4f3 47 = .ok (.iload 5, 2) := dz_iload (yu1 zE_cJ6_getChars_ba4f3 0 47 (by decide +kernel))
theorem dJ6_getChars_ba4f3_49 : decode cJ6_getChars_ba4f3 49 = .ok (.getstatic 83, 3) := dz_getstatic (yu2 zE_cJ6_getChars_ba4f3 0 49 (by decide +kernel))
theorem dJ6_getChars_ba4f3_52 : decode cJ6_getChars_ba4f3 52 = .ok (.iload 4, 2) := dz_iload (yu1 zE_cJ6_getChars_ba4f3 0 52 (by decide +kernel))
theorem dJ6_getChars_ba4f3_54 : decode cJ6_getChars_ba4f3 54 = .ok (.baload, 1) := dz_baload (y0 zE_cJ6_getChars_ba4f3 0 54 (by decide +kernel))
theorem dJ6_getChars_ba4f3_55 : decode cJ6_getChars_ba4f3 55 = .ok (.bastore, 1) := dz_bastore (y0 zE_cJ6_getChars_ba4f3 0 55 (by decide +kernel))
theorem dJ6_getChars_ba4f3_56 : decode cJ6_getChars_ba4f3 56 = .ok (.aload_n 2, 1) := dz_aload_n_2 (y0 zE_cJ6_getChars_ba4f3 0 56 (by decide +kernel))
theorem dJ6_getChars_ba4f3_57 : decode cJ6_getChars_ba4f3 57 = .ok (.iinc 5 (-1), 3) := dz_iinc (yii zE_cJ6_getChars_ba4f3 0 57 (by decide +kernel))
theorem dJ6_getChars_ba4f3_60 : decode cJ6_getChars_ba4f3 60 = .ok (.iload 5, 2) := dz_iload (yu1 zE_cJ6_getChars_ba4f3 0 60 (by decide +kernel))
theorem dJ6_getChars_ba4f3_62 : decode cJ6_getChars_ba4f3 62 = .ok (.getstatic 87, 3) := dz_getstatic (yu2 zE_cJ6_getChars_ba4f3 0 62 (by decide +kernel))
theorem dJ6_getChars_ba4f3_65 : decode cJ6_getChars_ba4f3 65 = .ok (.iload 4, 2) := dz_iload (yu1 zE_cJ6_getChars_ba4f3 1 1 (by decide +kernel))
theorem dJ6_getChars_ba4f3_67 : decode cJ6_getChars_ba4f3 67 = .ok (.baload, 1) := dz_baload (y0 zE_cJ6_getChars_ba4f3 1 3 (by decide +kernel))
theorem dJ6_getChars_ba4f3_68 : decode cJ6_getChars_ba4f3 68 = .ok (.bastore, 1) := dz_bastore (y0 zE_cJ6_getChars_ba4f3 1 4 (by decide +kernel))
theorem dJ6_getChars_ba4f3_69 : decode cJ6_getChars_ba4f3 69 = .ok (.goto (-47), 3) := dz_goto (ys2 zE_cJ6_getChars_ba4f3 1 5 (by decide +kernel))
theorem dJ6_getChars_ba4f3_72 : decode cJ6_getChars_ba4f3 72 = .ok (.aload_n 2, 1) := dz_aload_n_2 (y0 zE_cJ6_getChars_ba4f3 1 8 (by decide +kernel))
theorem dJ6_getChars_ba4f3_73 : decode cJ6_getChars_ba4f3 73 = .ok (.iinc 5 (-1), 3) := dz_iinc (yii zE_cJ6_getChars_ba4f3 1 9 (by decide +kernel))
theorem dJ6_getChars_ba4f3_76 : decode cJ6_getChars_ba4f3 76 = .ok (.iload 5, 2) := dz_iload (yu1 zE_cJ6_getChars_ba4f3 1 12 (by decide +kernel))
theorem dJ6_getChars_ba4f3_78 : decode cJ6_getChars_ba4f3 78 = .ok (.getstatic 83, 3) := dz_getstatic (yu2 zE_cJ6_getChars_ba4f3 1 14 (by decide +kernel))
theorem dJ6_getChars_ba4f3_81 : decode cJ6_getChars_ba4f3 81 = .ok (.iload_n 0, 1) := dz_iload_n_0 (y0 zE_cJ6_getChars_ba4f3 1 17 (by decide +kernel))
theorem dJ6_getChars_ba4f3_82 : decode cJ6_getChars_ba4f3 82 = .ok (.ineg, 1) := dz_ineg (y0 zE_cJ6_getChars_ba4f3 1 18 (by decide +kernel))
theorem dJ6_getChars_ba4f3_83 : decode cJ6_getChars_ba4f3 83 = .ok (.baload, 1) := dz_baload (y0 zE_cJ6_getChars_ba4f3 1 19 (by decide +kernel))
theorem dJ6_getChars_ba4f3_84 : decode cJ6_getChars_ba4f3 84 = .ok (.bastore, 1) := dz_bastore (y0 zE_cJ6_getChars_ba4f3 1 20 (by decide +kernel))
theorem dJ6_getChars_ba4f3_85 : decode cJ6_getChars_ba4f3 85 = .ok (.iload_n 0, 1) := dz_iload_n_0 (y0 zE_cJ6_getChars_ba4f3 1 21 (by decide +kernel))
theorem dJ6_getChars_ba4f3_86 : decode cJ6_getChars_ba4f3 86 = .ok (.bipush (-9), 2) := dz_bipush (ys1 zE_cJ6_getChars_ba4f3 1 22 (by decide +kernel))
theorem dJ6_getChars_ba4f3_88 : decode cJ6_getChars_ba4f3 88 = .ok (.if_icmp .ge 16, 3) := dz_if_icmp_ge (ys2 zE_cJ6_getChars_ba4f3 1 24 (by decide +kernel))
theorem dJ6_getChars_ba4f3_91 : decode cJ6_getChars_ba4f3 91 = .ok (.aload_n 2, 1) := dz_aload_n_2 (y0 zE_cJ6_getChars_ba4f3 1 27 (by decide +kernel))
theorem dJ6_getChars_ba4f3_92 : decode cJ6_getChars_ba4f3 92 = .ok (.iinc 5 (-1), 3) := dz_iinc (yii zE_cJ6_getChars_ba4f3 1 28 (by decide +kernel))
theorem dJ6_getChars_ba4f3_95 : decode cJ6_getChars_ba4f3 95 = .ok (.iload 5, 2) := dz_iload (yu1 zE_cJ6_getChars_ba4f3 1 31 (by decide +kernel))
theorem dJ6_getChars_ba4f3_97 : decode cJ6_getChars_ba4f3 97 = .ok (.getstatic 87, 3) := dz_getstatic (yu2 zE_cJ6_getChars_ba4f3 1 33 (by decide +kernel))
theorem dJ6_getChars_ba4f3_100 : decode cJ6_getChars_ba4f3 100 = .ok (.iload_n 0, 1) := dz_iload_n_0 (y0 zE_cJ6_getChars_ba4f3 1 36 (by decide +kernel))
theorem dJ6_getChars_ba4f3_101 : decode cJ6_getChars_ba4f3 101 = .ok (.ineg, 1) := dz_ineg (y0 zE_cJ6_getChars_ba4f3 1 37 (by decide +kernel))
theorem dJ6_getChars_ba4f3_102 : decode cJ6_getChars_ba4f3 102 = .ok (.baload, 1) := dz_baload (y0 zE_cJ6_getChars_ba4f3 1 38 (by decide +kernel))
theorem dJ6_getChars_ba4f3_103 : decode cJ6_getChars_ba4f3 103 = .ok (.bastore, 1) := dz_bastore (y0 zE_cJ6_getChars_ba4f3 1 39 (by decide +kernel))
theorem dJ6_getChars_ba4f3_104 : decode cJ6_getChars_ba4f3 104 = .ok (.iload 6, 2) := dz_iload (yu1 zE_cJ6_getChars_ba4f3 1 40 (by decide +kernel))
theorem dJ6_getChars_ba4f3_106 : decode cJ6_getChars_ba4f3 106 = .ok (.ifCond .eq 12, 3) := dz_ifCond_eq (ys2 zE_cJ6_getChars_ba4f3 1 42 (by decide +kernel))
theorem dJ6_getChars_ba4f3_109 : decode cJ6_getChars_ba4f3 109 = .ok (.aload_n 2, 1) := dz_aload_n_2 (y0 zE_cJ6_getChars_ba4f3 1 45 (by decide +kernel))
theorem dJ6_getChars_ba4f3_110 : decode cJ6_getChars_ba4f3 110 = .ok (.iinc 5 (-1), 3) := dz_iinc (yii zE_cJ6_getChars_ba4f3 1 46 (by decide +kernel))
theorem dJ6_getChars_ba4f3_113 : decode cJ6_getChars_ba4f3 113 = .ok (.iload 5, 2) := dz_iload (yu1 zE_cJ6_getChars_ba4f3 1 49 (by decide +kernel))
theorem dJ6_getChars_ba4f3_115 : decode cJ6_getChars_ba4f3 115 = .ok (.bipush 45, 2) := dz_bipush (ys1 zE_cJ6_getChars_ba4f3 1 51 (by decide +kernel))
theorem dJ6_getChars_ba4f3_117 : decode cJ6_getChars_ba4f3 117 = .ok (.bastore, 1) := dz_bastore (y0 zE_cJ6_getChars_ba4f3 1 53 (by decide +kernel))
theorem dJ6_getChars_ba4f3_118 : decode cJ6_getChars_ba4f3 118 = .ok (.iload 5, 2) := dz_iload (yu1 zE_cJ6_getChars_ba4f3 1 54 (by decide +kernel))
theorem dJ6_getChars_ba4f3_120 : decode cJ6_getChars_ba4f3 120 = .ok (.ireturn, 1) := dz_ireturn (y0 zE_cJ6_getChars_ba4f3 1 56 (by decide +kernel))
def zT_cJ6_stringSize_0f7a4 : List (List Nat) := [[4, 60, 26, 155, 0, 8, 3, 60, 26, 116, 59, 16, 246, 61, 4, 62, 29, 16, 10, 162, 0, 23, 26, 28, 164, 0, 7, 29, 27, 96, 172, 16, 10, 28, 104, 61, 132, 3, 1, 167, 255, 233, 16, 10, 27, 96, 172]]
theorem zE_cJ6_stringSize_0f7a4 : zTab cJ6_stringSize_0f7a4.data.toList zT_cJ6_stringSize_0f7a4 = true := by decide +kernel
theorem dJ6_stringSize_0f7a4_0 : decode cJ6_stringSize_0f7a4 0 = .ok (.iconst 1, 1) := dz_iconst_1 (y0 zE_cJ6_stringSize_0f7a4 0 0 (by decide +kernel))
theorem dJ6_stringSize_0f7a4_1 : decode cJ6_stringSize_0f7a4 1 = .ok (.istore_n 1, 1) := dz_istore_n_1 (y0 zE_cJ6_stringSize_0f7a4 0 1 (by decide +kernel))
theorem dJ6_stringSize_0f7a4_2 : decode cJ6_stringSize_0f7a4 2 = .ok (.iload_n 0, 1) := dz_iload_n_0 (y0 zE_cJ6_stringSize_0f7a4 0 2 (by decide +kernel))
theorem dJ6_stringSize_0f7a4_3 : decode cJ6_stringSize_0f7a4 3 = .ok (.ifCond .lt 8, 3) := dz_ifCond_lt (ys2 zE_cJ6_stringSize_0f7a4 0 3 (by decide +kernel))
theorem dJ6_stringSize_0f7a4_6 : decode cJ6_stringSize_0f7a4 6 = .ok (.iconst 0, 1) := dz_iconst_0 (y0 zE_cJ6_stringSize_0f7a4 0 6 (by decide +kernel))
theorem dJ6_stringSize_0f7a4_7 : decode cJ6_stringSize_0f7a4 7 = .ok (.istore_n 1, 1) := dz_istore_n_1 (y0 zE_cJ6_stringSize_0f7a4 0 7 (by decide +kernel))
theorem dJ6_stringSize_0f7a4_8 : decode cJ6_stringSize_0f7a4 8 = .ok (.iload_n 0, 1) := dz_iload_n_0 (y0 zE_cJ6_stringSize_0f7a4 0 8 (by decide +kernel))
theorem dJ6_stringSize_0f7a4_9 : decode cJ6_stringSize_0f7a4 9 = .ok (.ineg, 1) := dz_ineg (y0 zE_cJ6_stringSize_0f7a4 0 9 (by decide +kernel))
theorem dJ6_stringSize_0f7a4_10 : decode cJ6_stringSize_0f7a4 10 = .ok (.istore_n 0, 1) := dz_istore_n_0 (y0 zE_cJ6_stringSize_0f7a4 0 10 (by decide +kernel))
theorem dJ6_stringSize_0f7a4_11 : decode cJ6_stringSize_0f7a4 11 = .ok (.bipush (-10), 2) := dz_bipush (ys1 zE_cJ6_stringSize_0f7a4 0 11 (by decide +kernel))
theorem dJ6_stringSize_0f7a4_13 : decode cJ6_stringSize_0f7a4 13 = .ok (.istore_n 2, 1) := dz_istore_n_2 (y0 zE_cJ6_stringSize_0f7a4 0 13 (by decide +kernel))
theorem dJ6_stringSize_0f7a4_14 : decode cJ6_stringSize_0f7a4 14 = .ok (.iconst 1, 1) := dz_iconst_1 (y0 zE_cJ6_stringSize_0f7a4 0 14 (by decide +kernel))
theorem dJ6_stringSize_0f7a4_15 : decode cJ6_stringSize_0f7a4 15 = .ok (.istore_n 3, 1) := dz_istore_n_3 (y0 zE_cJ6_stringSize_0f7a4 0 15 (by decide +kernel))
theorem dJ6_stringSize_0f7a4_16 : decode cJ6_stringSize_0f7a4 16 = .ok (.iload_n 3, 1) := dz_iload_n_3 (y0 zE_cJ6_stringSize_0f7a4 0 16 (by decide +kernel))
theorem dJ6_stringSize_0f7a4_17 : decode cJ6_stringSize_0f7a4 17 = .ok (.bipush 10, 2) := dz_bipush (ys1 zE_cJ6_stringSize_0f7a4 0 17 (by decide +kernel))
theorem dJ6_stringSize_0f7a4_19 : decode cJ6_stringSize_0f7a4 19 = .ok (.if_icmp .ge 23, 3) := dz_if_icmp_ge (ys2 zE_cJ6_stringSize_0f7a4 0 19 (by decide +kernel))
theorem dJ6_stringSize_0f7a4_22 : decode cJ6_stringSize_0f7a4 22 = .ok (.iload_n 0, 1) := dz_iload_n_0 (y0 zE_cJ6_stringSize_0f7a4 0 22 (by decide +kernel))
theorem dJ6_stringSize_0f7a4_23 : decode cJ6_stringSize_0f7a4 23 = .ok (.iload_n 2, 1) := dz_iload_n_2 (y0 zE_cJ6_stringSize_0f7a4 0 23 (by decide +kernel))
theorem dJ6_stringSize_0f7a4_24 : decode cJ6_stringSize_0f7a4 24 = .ok (.if_icmp .le 7, 3) := dz_if_icmp_le (ys2 zE_cJ6_stringSize_0f7a4 0 24 (by decide +kernel))
theorem dJ6_stringSize_0f7a4_27 : decode cJ6_stringSize_0f7a4 27 = .ok (.iload_n 3, 1) := dz_iload_n_3 (y0 zE_cJ6_stringSize_0f7a4 0 27 (by decide +kernel))
theorem dJ6_stringSize_0f7a4_28 : decode cJ6_stringSize_0f7a4 28 = .ok (.iload_n 1, 1) := dz_iload_n_1 (y0 zE_cJ6_stringSize_0f7a4 0 28 (by decide +kernel))
theorem dJ6_stringSize_0f7a4_29 : decode cJ6_stringSize_0f7a4 29 = .ok (.iadd, 1) := dz_iadd (y0 zE_cJ6_stringSize_0f7a4 0 29 (by decide +kernel))
theorem dJ6_stringSize_0f7a4_30 : decode cJ6_stringSize_0f7a4 30 = .ok (.ireturn, 1) := dz_ireturn (y0 zE_cJ6_stringSize_0f7a4 0 30 (by decide +kernel))
theorem dJ6_stringSize_0f7a4_31 : decode cJ6_stringSize_0f7a4 31 = .ok (.bipush 10, 2) := dz_bipush (ys1 zE_cJ6_stringSize_0f7a4 0 31 (by decide +kernel))
theorem dJ6_stringSize_0f7a4_33 : decode cJ6_stringSize_0f7a4 33 = .ok (.iload_n 2, 1) := dz_iload_n_2 (y0 zE_cJ6_stringSize_0f7a4 0 33 (by decide +kernel))
theorem dJ6_stringSize_0f7a4_34 : decode cJ6_stringSize_0f7a4 34 = .ok (.imul, 1) := dz_imul (y0 zE_cJ6_stringSize_0f7a4 0 34 (by decide +kernel))
theorem dJ6_stringSize_0f7a4_35 : decode cJ6_stringSize_0f7a4 35 = .ok (.istore_n 2, 1) := dz_istore_n_2 (y0 zE_cJ6_stringSize_0f7a4 0 35 (by decide +kernel))
theorem dJ6_stringSize_0f7a4_36 : decode cJ6_stringSize_0f7a4 36 = .ok (.iinc 3 1, 3) := dz_iinc (yii zE_cJ6_stringSize_0f7a4 0 36 (by decide +kernel))
theorem dJ6_stringSize_0f7a4_39 : decode cJ6_stringSize_0f7a4 39 = .ok (.goto (-23), 3) := dz_goto (ys2 zE_cJ6_stringSize_0f7a4 0 39 (by decide +kernel))
theorem dJ6_stringSize_0f7a4_42 : decode cJ6_stringSize_0f7a4 42 = .ok (.bipush 10, 2) := dz_bipush (ys1 zE_cJ6_stringSize_0f7a4 0 42 (by decide +kernel))
theorem dJ6_stringSize_0f7a4_44 : decode cJ6_stringSize_0f7a4 44 = .ok (.iload_n 1, 1) := dz_iload_n_1 (y0 zE_cJ6_stringSize_0f7a4 0 44 (by decide +kernel))
theorem dJ6_stringSize_0f7a4_45 : decode cJ6_stringSize_0f7a4 45 = .ok (.iadd, 1) := dz_iadd (y0 zE_cJ6_stringSize_0f7a4 0 45 (by decide +kernel))
theorem dJ6_stringSize_0f7a4_46 : decode cJ6_stringSize_0f7a4 46 = .ok (.ireturn, 1) := dz_ireturn (y0 zE_cJ6_stringSize_0f7a4 0 46 (by decide +kernel))
theorem gd_wsJ6_valueOf_2dffe : wsJ6_valueOf_2dffe.all goodWord = true := by decide +kernel
set_option maxRecDepth 20000 in
theorem ggJ6_valueOf_2dffe_J6_init_d00df : GoodIn wsJ6_valueOf_2dffe wsJ6_init_d00df := gi_q gd_wsJ6_valueOf_2dffe _ [(8, 10)] rfl
set_option maxRecDepth 20000 in
theorem gJ6_valueOf_2dffe_J6_init_d00df : GoodIn wsJ6_valueOf_2dffe (wsJ6_init_d00df) := ggJ6_valueOf_2dffe_J6_init_d00df
def zT_cJ6_valueOf_2dffe : List (List Nat) := [[26, 16, 128, 161, 0, 20, 26, 178, 0, 191, 163, 0, 13, 178, 0, 195, 26, 17, 0, 128, 96, 50, 176, 187, 0, 1, 89, 26, 183, 0, 199, 176]]
theorem zE_cJ6_valueOf_2dffe : zTab cJ6_valueOf_2dffe.data.toList zT_cJ6_valueOf_2dffe = true := by decide +kernel
theorem dJ6_valueOf_2dffe_0 : decode cJ6_valueOf_2dffe 0 = .ok (.iload_n 0, 1) := dz_iload_n_0 (y0 zE_cJ6_valueOf_2dffe 0 0 (by decide +kernel))
theorem dJ6_valueOf_2dffe_1 : decode cJ6_valueOf_2dffe 1 = .ok (.bipush (-128), 2) := dz_bipush (ys1 zE_cJ6_valueOf_2dffe 0 1 (by decide +kernel))
theorem dJ6_valueOf_2dffe_3 : decode cJ6_valueOf_2dffe 3 = .ok (.if_icmp .lt 20, 3) := dz_if_icmp_lt (ys2 zE_cJ6_valueOf_2dffe 0 3 (by decide +kernel))
theorem dJ6_valueOf_2dffe_6 : decode cJ6_valueOf_2dffe 6 = .ok (.iload_n 0, 1) := dz_iload_n_0 (y0 zE_cJ6_valueOf_2dffe 0 6 (by decide +kernel))
theorem dJ6_valueOf_2dffe_7 : decode cJ6_valueOf_2dffe 7 = .ok (.getstatic 191, 3) := dz_getstatic (yu2 zE_cJ6_valueOf_2dffe 0 7 (by decide +kernel))
theorem dJ6_valueOf_2dffe_10 : decode cJ6_valueOf_2dffe 10 = .ok (.if_icmp .gt 13, 3) := dz_if_icmp_gt (ys2 zE_cJ6_valueOf_2dffe 0 10 (by decide +kernel))
theorem dJ6_valueOf_2dffe_13 : decode cJ6_valueOf_2dffe 13 = .ok (.getstatic 195, 3) := dz_getstatic (yu2 zE_cJ6_valueOf_2dffe 0 13 (by decide +kernel))
theorem dJ6_valueOf_2dffe_16 : decode cJ6_valueOf_2dffe 16 = .ok (.iload_n 0, 1) := dz_iload_n_0 (y0 zE_cJ6_valueOf_2dffe 0 16 (by decide +kernel))
theorem dJ6_valueOf_2dffe_17 : decode cJ6_valueOf_2dffe 17 = .ok (.sipush 128, 3) := dz_sipush (ys2 zE_cJ6_valueOf_2dffe 0 17 (by decide +kernel))
theorem dJ6_valueOf_2dffe_20 : decode cJ6_valueOf_2dffe 20 = .ok (.iadd, 1) := dz_iadd (y0 zE_cJ6_valueOf_2dffe 0 20 (by decide +kernel))
theorem dJ6_valueOf_2dffe_21 : decode cJ6_valueOf_2dffe 21 = .ok (.aaload, 1) := dz_aaload (y0 zE_cJ6_valueOf_2dffe 0 21 (by decide +kernel))
theorem dJ6_valueOf_2dffe_22 : decode cJ6_valueOf_2dffe 22 = .ok (.areturn, 1) := dz_areturn (y0 zE_cJ6_valueOf_2dffe 0 22 (by decide +kernel))
theorem dJ6_valueOf_2dffe_23 : decode cJ6_valueOf_2dffe 23 = .ok (.new 1, 3) := dz_new (yu2 zE_cJ6_valueOf_2dffe 0 23 (by decide +kernel))
theorem dJ6_valueOf_2dffe_26 : decode cJ6_valueOf_2dffe 26 = .ok (.dup, 1) := dz_dup (y0 zE_cJ6_valueOf_2dffe 0 26 (by decide +kernel))
theorem dJ6_valueOf_2dffe_27 : decode cJ6_valueOf_2dffe 27 = .ok (.iload_n 0, 1) := dz_iload_n_0 (y0 zE_cJ6_valueOf_2dffe 0 27 (by decide +kernel))
theorem dJ6_valueOf_2dffe_28 : decode cJ6_valueOf_2dffe 28 = .ok (.invokespecial 199, 3) := dz_invokespecial (yu2 zE_cJ6_valueOf_2dffe 0 28 (by decide +kernel))
theorem dJ6_valueOf_2dffe_31 : decode cJ6_valueOf_2dffe 31 = .ok (.areturn, 1) := dz_areturn (y0 zE_cJ6_valueOf_2dffe 0 31 (by decide +kernel))
theorem gd_wsJ6_init_d00df : wsJ6_init_d00df.all goodWord = true := by decide +kernel
set_option maxRecDepth 20000 in
theorem ggJ6_init_d00df_Jxd2413_init_da8c8 : GoodIn wsJ6_init_d00df wsJxd2413_init_da8c8 := gi_q gd_wsJ6_init_d00df _ [(5, 4)] rfl
set_option maxRecDepth 20000 in
theorem gJ6_init_d00df_Jxd2413_init_da8c8 : GoodIn wsJ6_init_d00df (wsJxd2413_init_da8c8) := ggJ6_init_d00df_Jxd2413_init_da8c8
theorem dJ6_init_d00df_0 : decode cJ6_init_d00df 0 = .ok (.aload_n 0, 1) := dkT (by decide +kernel)
theorem dJ6_init_d00df_1 : decode cJ6_init_d00df 1 = .ok (.invokespecial 202, 3) := dkT (by decide +kernel)
theorem dJ6_init_d00df_4 : decode cJ6_init_d00df 4 = .ok (.aload_n 0, 1) := dkT (by decide +kernel)
theorem dJ6_init_d00df_5 : decode cJ6_init_d00df 5 = .ok (.iload_n 1, 1) := dkT (by decide +kernel)
theorem dJ6_init_d00df_6 : decode cJ6_init_d00df 6 = .ok (.putfield 205, 3) := dkT (by decide +kernel)
theorem dJ6_init_d00df_9 : decode cJ6_init_d00df 9 = .ok (.return_, 1) := dkT (by decide +kernel)
theorem dJ6_intValue_8abf5_0 : decode cJ6_intValue_8abf5 0 = .ok (.aload_n 0, 1) := dkT (by decide +kernel)
theorem dJ6_intValue_8abf5_1 : decode cJ6_intValue_8abf5 1 = .ok (.getfield 205, 3) := dkT (by decide +kernel)
theorem dJ6_intValue_8abf5_4 : decode cJ6_intValue_8abf5 4 = .ok (.ireturn, 1) := dkT (by decide +kernel)
theorem dJ9_abs_0f7a4_0 : decode cJ9_abs_0f7a4 0 = .ok (.iload_n 0, 1) := dkT (by decide +kernel)
theorem dJ9_abs_0f7a4_1 : decode cJ9_abs_0f7a4 1 = .ok (.ifCond .ge 8, 3) := dkT (by decide +kernel)
theorem dJ9_abs_0f7a4_4 : decode cJ9_abs_0f7a4 4 = .ok (.iload_n 0, 1) := dkT (by decide +kernel)
theorem dJ9_abs_0f7a4_5 : decode cJ9_abs_0f7a4 5 = .ok (.ineg, 1) := dkT (by decide +kernel)
