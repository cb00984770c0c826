theorem dX11_deskNow_290 : decode cX11_deskNow 290 = .ok (.iadd, 1) := by decide +kernel
theorem dX11_deskNow_291 : decode cX11_deskNow 291 = .ok (.istore_n 2, 1) := by decide +kernel
theorem dX11_deskNow_292 : decode cX11_deskNow 292 = .ok (.iinc 6 1, 3) := by decide +kernel
theorem dX11_deskNow_295 : decode cX11_deskNow 295 = .ok (.goto (-30), 3) := by decide +kernel
theorem dX11_deskNow_298 : decode cX11_deskNow 298 = .ok (.iinc 3 1, 3) := by decide +kernel
theorem dX11_deskNow_301 : decode cX11_deskNow 301 = .ok (.goto (-71), 3) := by decide +kernel
theorem dX11_deskNow_304 : decode cX11_deskNow 304 = .ok (.iload_n 2, 1) := by decide +kernel
theorem dX11_deskNow_305 : decode cX11_deskNow 305 = .ok (.ireturn, 1) := by decide +kernel
theorem dX11_deskNow_306 : decode cX11_deskNow 306 = .ok (.aload_n 0, 1) := by decide +kernel
theorem dX11_deskNow_307 : decode cX11_deskNow 307 = .ok (.invokevirtual 345, 3) := by decide +kernel
theorem dX11_deskNow_310 : decode cX11_deskNow 310 = .ok (.ireturn, 1) := by decide +kernel
set_option maxRecDepth 20000 in
theorem ggX11_apart_Jx4a65c_isEmpty_aae02 : GoodIn wsX11_apart wsJx4a65c_isEmpty_aae02 := goodIn_r _ [13, 14, 60, 61, 62] rfl (by decide +kernel)
set_option maxRecDepth 20000 in
theorem gX11_apart_Jx4a65c_isEmpty_aae02 : GoodIn wsX11_apart (wsV RX11 348 RJx4a65c yJx4a65c_isEmpty_aae02 wsJx4a65c_isEmpty_aae02) := goodIn_app (goodIn_of _ (by decide +kernel)) ggX11_apart_Jx4a65c_isEmpty_aae02
set_option maxRecDepth 20000 in
theorem ggX11_apart_Jx4a65c_size_8abf5 : GoodIn wsX11_apart wsJx4a65c_size_8abf5 := goodIn_r _ [18, 14, 60, 61, 62] rfl (by decide +kernel)
set_option maxRecDepth 20000 in
theorem gX11_apart_Jx4a65c_size_8abf5 : GoodIn wsX11_apart (wsV RX11 48 RJx4a65c yJx4a65c_size_8abf5 wsJx4a65c_size_8abf5) := goodIn_app (goodIn_of _ (by decide +kernel)) ggX11_apart_Jx4a65c_size_8abf5
set_option maxRecDepth 20000 in
theorem ggX11_apart_X11_weddingsOf : GoodIn wsX11_apart wsX11_weddingsOf := goodIn_r _ [23, 24, 25, 26, 15, 16, 17, 12, 18, 14, 27, 28, 29, 30, 31, 32, 33, 34, 35, 36, 37, 38, 39, 40, 41, 42, 43, 44, 45, 22, 46, 47, 48, 49, 50, 51, 52, 53, 54, 55, 56, 57, 58, 59, 63, 64, 65, 66, 67, 68, 69, 70, 71, 72, 73, 74, 60, 61, 62] rfl (by decide +kernel)
set_option maxRecDepth 20000 in
theorem gX11_apart_X11_weddingsOf : GoodIn wsX11_apart (wsV RX11 293 RX11 yX11_weddingsOf wsX11_weddingsOf) := goodIn_app (goodIn_of _ (by decide +kernel)) ggX11_apart_X11_weddingsOf
theorem dX11_apart_0 : decode cX11_apart 0 = .ok (.iconst 0, 1) := by decide +kernel
theorem dX11_apart_1 : decode cX11_apart 1 = .ok (.istore_n 1, 1) := by decide +kernel
theorem dX11_apart_2 : decode cX11_apart 2 = .ok (.aload_n 0, 1) := by decide +kernel
theorem dX11_apart_3 : decode cX11_apart 3 = .ok (.getfield 10, 3) := by decide +kernel
theorem dX11_apart_6 : decode cX11_apart 6 = .ok (.invokevirtual 348, 3) := by decide +kernel
theorem dX11_apart_9 : decode cX11_apart 9 = .ok (.ifCond .eq 7, 3) := by decide +kernel
theorem dX11_apart_12 : decode cX11_apart 12 = .ok (.iconst 0, 1) := by decide +kernel
theorem dX11_apart_13 : decode cX11_apart 13 = .ok (.goto 6, 3) := by decide +kernel
theorem dX11_apart_16 : decode cX11_apart 16 = .ok (.sipush 9999, 3) := by decide +kernel
theorem dX11_apart_19 : decode cX11_apart 19 = .ok (.istore_n 2, 1) := by decide +kernel
theorem dX11_apart_20 : decode cX11_apart 20 = .ok (.iconst 0, 1) := by decide +kernel
theorem dX11_apart_21 : decode cX11_apart 21 = .ok (.istore_n 3, 1) := by decide +kernel
theorem dX11_apart_22 : decode cX11_apart 22 = .ok (.iload_n 3, 1) := by decide +kernel
theorem dX11_apart_23 : decode cX11_apart 23 = .ok (.aload_n 0, 1) := by decide +kernel
theorem dX11_apart_24 : decode cX11_apart 24 = .ok (.getfield 10, 3) := by decide +kernel
theorem dX11_apart_27 : decode cX11_apart 27 = .ok (.invokevirtual 48, 3) := by decide +kernel
theorem dX11_apart_30 : decode cX11_apart 30 = .ok (.if_icmp .ge 32, 3) := by decide +kernel
theorem dX11_apart_33 : decode cX11_apart 33 = .ok (.aload_n 0, 1) := by decide +kernel
theorem dX11_apart_34 : decode cX11_apart 34 = .ok (.iload_n 3, 1) := by decide +kernel
theorem dX11_apart_35 : decode cX11_apart 35 = .ok (.invokevirtual 293, 3) := by decide +kernel
theorem dX11_apart_38 : decode cX11_apart 38 = .ok (.iconst 2, 1) := by decide +kernel
theorem dX11_apart_39 : decode cX11_apart 39 = .ok (.iaload, 1) := by decide +kernel
theorem dX11_apart_40 : decode cX11_apart 40 = .ok (.istore 4, 2) := by decide +kernel
theorem dX11_apart_42 : decode cX11_apart 42 = .ok (.iload_n 1, 1) := by decide +kernel
theorem dX11_apart_43 : decode cX11_apart 43 = .ok (.iload 4, 2) := by decide +kernel
theorem dX11_apart_45 : decode cX11_apart 45 = .ok (.invokestatic 244, 3) := by decide +kernel
theorem dX11_apart_48 : decode cX11_apart 48 = .ok (.istore_n 1, 1) := by decide +kernel
theorem dX11_apart_49 : decode cX11_apart 49 = .ok (.iload_n 2, 1) := by decide +kernel
theorem dX11_apart_50 : decode cX11_apart 50 = .ok (.iload 4, 2) := by decide +kernel
theorem dX11_apart_52 : decode cX11_apart 52 = .ok (.invokestatic 281, 3) := by decide +kernel
theorem dX11_apart_55 : decode cX11_apart 55 = .ok (.istore_n 2, 1) := by decide +kernel
theorem dX11_apart_56 : decode cX11_apart 56 = .ok (.iinc 3 1, 3) := by decide +kernel
theorem dX11_apart_59 : decode cX11_apart 59 = .ok (.goto (-37), 3) := by decide +kernel
theorem dX11_apart_62 : decode cX11_apart 62 = .ok (.iload_n 1, 1) := by decide +kernel
theorem dX11_apart_63 : decode cX11_apart 63 = .ok (.iload_n 2, 1) := by decide +kernel
theorem dX11_apart_64 : decode cX11_apart 64 = .ok (.isub, 1) := by decide +kernel
theorem dX11_apart_65 : decode cX11_apart 65 = .ok (.ireturn, 1) := by decide +kernel
set_option maxRecDepth 20000 in
theorem ggX11_desk_X11_is : GoodIn wsX11_desk wsX11_is := goodIn_r _ [5] rfl (by decide +kernel)
set_option maxRecDepth 20000 in
theorem gX11_desk_X11_is : GoodIn wsX11_desk (va_wsS RX11 52 yX11_is wsX11_is) := goodIn_app (goodIn_of _ (by decide +kernel)) ggX11_desk_X11_is
set_option maxRecDepth 20000 in
theorem ggX11_desk_X11_deskNow : GoodIn wsX11_desk wsX11_deskNow := goodIn_r _ [9, 10, 11, 12, 13, 14, 15, 16, 17, 18, 19, 20, 21, 22, 23, 24, 25, 26, 27, 28, 29, 30, 31, 32, 33, 34, 35, 36, 37, 38, 39, 40, 41, 42, 43, 44, 45, 46, 47, 48, 49, 4, 50, 51, 52, 53, 54, 55, 56, 57, 58, 59, 60, 61, 62, 63, 64, 65, 66, 67, 68, 69, 74, 75, 76, 77, 78, 79, 80, 81, 82, 83, 84, 85, 86, 87, 88, 89, 90, 91, 92, 93, 94, 95, 96, 97, 98, 99, 100, 101, 102, 103, 104, 105, 106, 107, 108] rfl (by decide +kernel)
set_option maxRecDepth 20000 in
theorem gX11_desk_X11_deskNow : GoodIn wsX11_desk (wsV RX11 351 RX11 yX11_deskNow wsX11_deskNow) := goodIn_app (goodIn_of _ (by decide +kernel)) ggX11_desk_X11_deskNow
set_option maxRecDepth 20000 in
theorem ggX11_desk_X11_refuse : GoodIn wsX11_desk wsX11_refuse := goodIn_r _ [73, 1, 74, 75, 76, 77, 78, 79, 80, 81, 82, 83, 84, 85, 86] rfl (by decide +kernel)
set_option maxRecDepth 20000 in
theorem gX11_desk_X11_refuse : GoodIn wsX11_desk (wsV RX11 60 RX11 yX11_refuse wsX11_refuse) := goodIn_app (goodIn_of _ (by decide +kernel)) ggX11_desk_X11_refuse
theorem dX11_desk_0 : decode cX11_desk 0 = .ok (.aload_n 0, 1) := by decide +kernel
theorem dX11_desk_1 : decode cX11_desk 1 = .ok (.iconst 0, 1) := by decide +kernel
theorem dX11_desk_2 : decode cX11_desk 2 = .ok (.putfield 44, 3) := by decide +kernel
theorem dX11_desk_5 : decode cX11_desk 5 = .ok (.iload_n 1, 1) := by decide +kernel
theorem dX11_desk_6 : decode cX11_desk 6 = .ok (.iconst 0, 1) := by decide +kernel
theorem dX11_desk_7 : decode cX11_desk 7 = .ok (.bipush 12, 2) := by decide +kernel
theorem dX11_desk_9 : decode cX11_desk 9 = .ok (.invokestatic 52, 3) := by decide +kernel
theorem dX11_desk_12 : decode cX11_desk 12 = .ok (.ifCond .eq 11, 3) := by decide +kernel
theorem dX11_desk_15 : decode cX11_desk 15 = .ok (.aload_n 0, 1) := by decide +kernel
theorem dX11_desk_16 : decode cX11_desk 16 = .ok (.iload_n 1, 1) := by decide +kernel
theorem dX11_desk_17 : decode cX11_desk 17 = .ok (.invokevirtual 351, 3) := by decide +kernel
theorem dX11_desk_20 : decode cX11_desk 20 = .ok (.goto 8, 3) := by decide +kernel
theorem dX11_desk_23 : decode cX11_desk 23 = .ok (.aload_n 0, 1) := by decide +kernel
theorem dX11_desk_24 : decode cX11_desk 24 = .ok (.iconst 1, 1) := by decide +kernel
theorem dX11_desk_25 : decode cX11_desk 25 = .ok (.invokevirtual 60, 3) := by decide +kernel
theorem dX11_desk_28 : decode cX11_desk 28 = .ok (.ireturn, 1) := by decide +kernel
set_option maxRecDepth 20000 in
theorem ggX11_tell_X11_isWedding : GoodIn wsX11_tell wsX11_isWedding := goodIn_r _ [12, 2, 13, 14, 15, 16, 17, 18, 19, 20, 11, 21, 273, 274, 275, 276, 277, 278, 279, 280, 281, 282, 283, 284, 285, 302, 303, 304] rfl (by decide +kernel)
set_option maxRecDepth 20000 in
theorem gX11_tell_X11_isWedding : GoodIn wsX11_tell (wsV RX11 216 RX11 yX11_isWedding wsX11_isWedding) := goodIn_app (goodIn_of _ (by decide +kernel)) ggX11_tell_X11_isWedding
set_option maxRecDepth 20000 in
theorem ggX11_tell_Jx4a65c_get_915e3 : GoodIn wsX11_tell wsJx4a65c_get_915e3 := goodIn_r _ [25, 18, 26, 27, 28, 29, 30, 31, 32, 33, 34, 35, 36, 16, 37, 38, 302, 303, 304] rfl (by decide +kernel)
set_option maxRecDepth 20000 in
theorem gX11_tell_Jx4a65c_get_915e3 : GoodIn wsX11_tell (wsV RX11 90 RJx4a65c yJx4a65c_get_915e3 wsJx4a65c_get_915e3) := goodIn_app (goodIn_of _ (by decide +kernel)) ggX11_tell_Jx4a65c_get_915e3
set_option maxRecDepth 20000 in
theorem ggX11_tell_J4_init_da8c8 : GoodIn wsX11_tell wsJ4_init_da8c8 := goodIn_r _ [41, 42, 43, 44, 45, 46, 47, 48, 49, 50, 51, 52, 53, 54, 55, 56, 57, 58, 59, 60, 298, 299, 300, 301] rfl (by decide +kernel)
set_option maxRecDepth 20000 in
theorem gX11_tell_J4_init_da8c8 : GoodIn wsX11_tell (wsJ4_init_da8c8) := ggX11_tell_J4_init_da8c8
set_option maxRecDepth 20000 in
theorem ggX11_tell_J4_append_bf812 : GoodIn wsX11_tell wsJ4_append_bf812 := goodIn_r _ [64, 65, 66, 67, 68, 44, 69, 70, 51, 71, 72, 73, 74, 75, 76, 77, 78, 79, 52, 80, 81, 82, 83, 84, 85, 86, 87, 88, 89, 90, 91, 92, 93, 94, 95, 96, 97, 98, 99, 100, 101, 102, 103, 104, 105, 106, 107, 50, 108, 109, 110, 111, 112, 113, 114, 115, 116, 117, 118, 119, 49, 120, 121, 122, 123, 124, 125, 126, 55, 127, 128, 129, 130, 131, 132, 133, 134, 135, 136, 137, 138, 139, 140, 141, 32, 142, 143, 144, 145, 146, 147, 148, 149, 150, 151, 152, 298, 299, 300, 301] rfl (by decide +kernel)
set_option maxRecDepth 20000 in
theorem gX11_tell_J4_append_bf812 : GoodIn wsX11_tell (wsV RX11 336 RJ4 yJ4_append_bf812 wsJ4_append_bf812) := goodIn_app (goodIn_of _ (by decide +kernel)) ggX11_tell_J4_append_bf812
set_option maxRecDepth 20000 in
theorem ggX11_tell_J4_append_15ec4 : GoodIn wsX11_tell wsJ4_append_15ec4 := goodIn_r _ [156, 157, 158, 67, 159, 44, 160, 70, 161, 162, 163, 164, 165, 51, 75, 76, 77, 78, 79, 52, 80, 81, 82, 83, 84, 85, 86, 87, 88, 89, 90, 91, 92, 93, 94, 95, 96, 97, 98, 99, 100, 101, 102, 103, 104, 105, 106, 107, 50, 108, 109, 110, 111, 112, 113, 114, 115, 116, 117, 118, 119, 49, 166, 167, 55, 168, 128, 129, 130, 131, 132, 133, 134, 135, 136, 137, 138, 139, 140, 141, 32, 142, 148, 149, 150, 151, 152, 169, 170, 171, 172, 173, 174, 175, 176, 177, 178, 179, 180, 181, 182, 183, 184, 185, 186, 187, 188, 189, 190, 191, 192, 193, 194, 195, 53, 54, 56, 57, 58, 59, 60, 196, 197, 198, 199, 200, 201, 202, 203, 204, 205, 206, 207, 208, 209, 210, 211, 212, 213, 214, 215, 216, 217, 298, 299, 300, 301, 305, 306, 307, 308] rfl (by decide +kernel)
set_option maxRecDepth 20000 in
theorem gX11_tell_J4_append_15ec4 : GoodIn wsX11_tell (wsV RX11 332 RJ4 yJ4_append_15ec4 wsJ4_append_15ec4) := goodIn_app (goodIn_of _ (by decide +kernel)) ggX11_tell_J4_append_15ec4
set_option maxRecDepth 20000 in
theorem ggX11_tell_J4_toString_0e30d : GoodIn wsX11_tell wsJ4_toString_0e30d := goodIn_r _ [221, 222, 223, 137, 224, 225, 226, 227, 228, 229, 230, 47, 48, 179, 173, 178, 231, 232, 233, 234, 235, 44, 236, 51, 237, 238, 239, 240, 241, 6, 242, 243, 67, 244, 245, 70, 246, 116, 117, 118, 119, 49, 52, 247, 248, 100, 249, 102, 103, 104, 105, 106, 107, 250, 251, 252, 50, 108, 109, 92, 110, 111, 112, 113, 114, 253, 254, 255, 256, 5, 257, 258, 55, 259, 260, 261, 262, 203, 204, 205, 132, 133, 134, 206, 207, 208, 139, 209, 210, 32, 211, 263, 264, 265, 128, 151, 152, 57, 58, 59, 60, 266, 267, 268, 269, 305, 306, 307, 308, 298, 299, 300, 301] rfl (by decide +kernel)
set_option maxRecDepth 20000 in
theorem gX11_tell_J4_toString_0e30d : GoodIn wsX11_tell (wsV RX11 341 RJ4 yJ4_toString_0e30d wsJ4_toString_0e30d) := goodIn_app (goodIn_of _ (by decide +kernel)) ggX11_tell_J4_toString_0e30d
set_option maxRecDepth 20000 in
theorem ggX11_tell_Jx4a65c_size_8abf5 : GoodIn wsX11_tell wsJx4a65c_size_8abf5 := goodIn_r _ [17, 18, 302, 303, 304] rfl (by decide +kernel)
set_option maxRecDepth 20000 in
theorem gX11_tell_Jx4a65c_size_8abf5 : GoodIn wsX11_tell (wsV RX11 48 RJx4a65c yJx4a65c_size_8abf5 wsJx4a65c_size_8abf5) := goodIn_app (goodIn_of _ (by decide +kernel)) ggX11_tell_Jx4a65c_size_8abf5
set_option maxRecDepth 20000 in
theorem ggX11_tell_X11_isIn : GoodIn wsX11_tell wsX11_isIn := goodIn_r _ [272] rfl (by decide +kernel)
set_option maxRecDepth 20000 in
theorem gX11_tell_X11_isIn : GoodIn wsX11_tell (va_wsS RX11 102 yX11_isIn wsX11_isIn) := goodIn_app (goodIn_of _ (by decide +kernel)) ggX11_tell_X11_isIn
theorem dX11_tell_0 : decode cX11_tell 0 = .ok (.aload_n 0, 1) := by decide +kernel
theorem dX11_tell_1 : decode cX11_tell 1 = .ok (.aload_n 0, 1) := by decide +kernel
theorem dX11_tell_2 : decode cX11_tell 2 = .ok (.iload_n 1, 1) := by decide +kernel
theorem dX11_tell_3 : decode cX11_tell 3 = .ok (.invokevirtual 216, 3) := by decide +kernel
theorem dX11_tell_6 : decode cX11_tell 6 = .ok (.ifCond .eq 7, 3) := by decide +kernel
theorem dX11_tell_9 : decode cX11_tell 9 = .ok (.iconst 0, 1) := by decide +kernel
theorem dX11_tell_10 : decode cX11_tell 10 = .ok (.goto 4, 3) := by decide +kernel
theorem dX11_tell_13 : decode cX11_tell 13 = .ok (.iconst 1, 1) := by decide +kernel
theorem dX11_tell_14 : decode cX11_tell 14 = .ok (.putfield 44, 3) := by decide +kernel
theorem dX11_tell_17 : decode cX11_tell 17 = .ok (.aload_n 0, 1) := by decide +kernel
theorem dX11_tell_18 : decode cX11_tell 18 = .ok (.getfield 44, 3) := by decide +kernel
theorem dX11_tell_21 : decode cX11_tell 21 = .ok (.ifCond .le 7, 3) := by decide +kernel
theorem dX11_tell_24 : decode cX11_tell 24 = .ok (.ldc_w 323, 3) := by decide +kernel
theorem dX11_tell_27 : decode cX11_tell 27 = .ok (.areturn, 1) := by decide +kernel
theorem dX11_tell_28 : decode cX11_tell 28 = .ok (.aload_n 0, 1) := by decide +kernel
theorem dX11_tell_29 : decode cX11_tell 29 = .ok (.getfield 19, 3) := by decide +kernel
theorem dX11_tell_32 : decode cX11_tell 32 = .ok (.iload_n 1, 1) := by decide +kernel
theorem dX11_tell_33 : decode cX11_tell 33 = .ok (.invokevirtual 90, 3) := by decide +kernel
theorem dX11_tell_36 : decode cX11_tell 36 = .ok (.checkcast 122, 3) := by decide +kernel
theorem dX11_tell_39 : decode cX11_tell 39 = .ok (.astore_n 2, 1) := by decide +kernel
theorem dX11_tell_40 : decode cX11_tell 40 = .ok (.aload_n 2, 1) := by decide +kernel
theorem dX11_tell_41 : decode cX11_tell 41 = .ok (.getfield 124, 3) := by decide +kernel
theorem dX11_tell_44 : decode cX11_tell 44 = .ok (.ifCond .ne 9, 3) := by decide +kernel
theorem dX11_tell_47 : decode cX11_tell 47 = .ok (.ldc_w 354, 3) := by decide +kernel
theorem dX11_tell_50 : decode cX11_tell 50 = .ok (.goto 34, 3) := by decide +kernel
theorem dX11_tell_53 : decode cX11_tell 53 = .ok (.aload_n 2, 1) := by decide +kernel
theorem dX11_tell_54 : decode cX11_tell 54 = .ok (.getfield 124, 3) := by decide +kernel
theorem dX11_tell_57 : decode cX11_tell 57 = .ok (.iconst 1, 1) := by decide +kernel
theorem dX11_tell_58 : decode cX11_tell 58 = .ok (.if_icmp .ne 9, 3) := by decide +kernel
theorem dX11_tell_61 : decode cX11_tell 61 = .ok (.ldc_w 356, 3) := by decide +kernel
theorem dX11_tell_64 : decode cX11_tell 64 = .ok (.goto 20, 3) := by decide +kernel
theorem dX11_tell_67 : decode cX11_tell 67 = .ok (.aload_n 2, 1) := by decide +kernel
theorem dX11_tell_68 : decode cX11_tell 68 = .ok (.getfield 124, 3) := by decide +kernel
theorem dX11_tell_71 : decode cX11_tell 71 = .ok (.iconst 2, 1) := by decide +kernel
theorem dX11_tell_72 : decode cX11_tell 72 = .ok (.if_icmp .ne 9, 3) := by decide +kernel
theorem dX11_tell_75 : decode cX11_tell 75 = .ok (.ldc_w 358, 3) := by decide +kernel
theorem dX11_tell_78 : decode cX11_tell 78 = .ok (.goto 6, 3) := by decide +kernel
theorem dX11_tell_81 : decode cX11_tell 81 = .ok (.ldc_w 360, 3) := by decide +kernel
theorem dX11_tell_84 : decode cX11_tell 84 = .ok (.astore_n 3, 1) := by decide +kernel
theorem dX11_tell_85 : decode cX11_tell 85 = .ok (.new 325, 3) := by decide +kernel
theorem dX11_tell_88 : decode cX11_tell 88 = .ok (.dup, 1) := by decide +kernel
theorem dX11_tell_89 : decode cX11_tell 89 = .ok (.invokespecial 327, 3) := by decide +kernel
theorem dX11_tell_92 : decode cX11_tell 92 = .ok (.astore 4, 2) := by decide +kernel
theorem dX11_tell_94 : decode cX11_tell 94 = .ok (.aload 4, 2) := by decide +kernel
theorem dX11_tell_96 : decode cX11_tell 96 = .ok (.iload_n 1, 1) := by decide +kernel
theorem dX11_tell_97 : decode cX11_tell 97 = .ok (.invokevirtual 336, 3) := by decide +kernel
theorem dX11_tell_100 : decode cX11_tell 100 = .ok (.ldc_w 362, 3) := by decide +kernel
theorem dX11_tell_103 : decode cX11_tell 103 = .ok (.invokevirtual 332, 3) := by decide +kernel
theorem dX11_tell_106 : decode cX11_tell 106 = .ok (.aload_n 2, 1) := by decide +kernel
theorem dX11_tell_107 : decode cX11_tell 107 = .ok (.getfield 130, 3) := by decide +kernel
theorem dX11_tell_110 : decode cX11_tell 110 = .ok (.invokevirtual 336, 3) := by decide +kernel
theorem dX11_tell_113 : decode cX11_tell 113 = .ok (.ldc_w 364, 3) := by decide +kernel
theorem dX11_tell_116 : decode cX11_tell 116 = .ok (.invokevirtual 332, 3) := by decide +kernel
theorem dX11_tell_119 : decode cX11_tell 119 = .ok (.aload_n 2, 1) := by decide +kernel
theorem dX11_tell_120 : decode cX11_tell 120 = .ok (.getfield 143, 3) := by decide +kernel
theorem dX11_tell_123 : decode cX11_tell 123 = .ok (.invokevirtual 336, 3) := by decide +kernel
theorem dX11_tell_126 : decode cX11_tell 126 = .ok (.ldc_w 366, 3) := by decide +kernel
theorem dX11_tell_129 : decode cX11_tell 129 = .ok (.invokevirtual 332, 3) := by decide +kernel
theorem dX11_tell_132 : decode cX11_tell 132 = .ok (.aload_n 3, 1) := by decide +kernel
theorem dX11_tell_133 : decode cX11_tell 133 = .ok (.invokevirtual 332, 3) := by decide +kernel
theorem dX11_tell_136 : decode cX11_tell 136 = .ok (.pop, 1) := by decide +kernel
theorem dX11_tell_137 : decode cX11_tell 137 = .ok (.aload_n 2, 1) := by decide +kernel
theorem dX11_tell_138 : decode cX11_tell 138 = .ok (.getfield 124, 3) := by decide +kernel
theorem dX11_tell_141 : decode cX11_tell 141 = .ok (.iconst 1, 1) := by decide +kernel
theorem dX11_tell_142 : decode cX11_tell 142 = .ok (.if_icmp .eq 17, 3) := by decide +kernel
theorem dX11_tell_145 : decode cX11_tell 145 = .ok (.aload_n 2, 1) := by decide +kernel
theorem dX11_tell_146 : decode cX11_tell 146 = .ok (.getfield 124, 3) := by decide +kernel
theorem dX11_tell_149 : decode cX11_tell 149 = .ok (.iconst 2, 1) := by decide +kernel
theorem dX11_tell_150 : decode cX11_tell 150 = .ok (.if_icmp .eq 9, 3) := by decide +kernel
theorem dX11_tell_153 : decode cX11_tell 153 = .ok (.aload 4, 2) := by decide +kernel
theorem dX11_tell_155 : decode cX11_tell 155 = .ok (.invokevirtual 341, 3) := by decide +kernel
theorem dX11_tell_158 : decode cX11_tell 158 = .ok (.areturn, 1) := by decide +kernel
theorem dX11_tell_159 : decode cX11_tell 159 = .ok (.iconst 0, 1) := by decide +kernel
theorem dX11_tell_160 : decode cX11_tell 160 = .ok (.istore 5, 2) := by decide +kernel
theorem dX11_tell_162 : decode cX11_tell 162 = .ok (.iconst 0, 1) := by decide +kernel
theorem dX11_tell_163 : decode cX11_tell 163 = .ok (.istore 6, 2) := by decide +kernel
theorem dX11_tell_165 : decode cX11_tell 165 = .ok (.iload 6, 2) := by decide +kernel
theorem dX11_tell_167 : decode cX11_tell 167 = .ok (.aload_n 0, 1) := by decide +kernel
theorem dX11_tell_168 : decode cX11_tell 168 = .ok (.getfield 10, 3) := by decide +kernel
theorem dX11_tell_171 : decode cX11_tell 171 = .ok (.invokevirtual 48, 3) := by decide +kernel
theorem dX11_tell_174 : decode cX11_tell 174 = .ok (.if_icmp .ge 52, 3) := by decide +kernel
theorem dX11_tell_177 : decode cX11_tell 177 = .ok (.aload_n 2, 1) := by decide +kernel
theorem dX11_tell_178 : decode cX11_tell 178 = .ok (.getfield 160, 3) := by decide +kernel
theorem dX11_tell_181 : decode cX11_tell 181 = .ok (.iload 6, 2) := by decide +kernel
theorem dX11_tell_183 : decode cX11_tell 183 = .ok (.invokestatic 102, 3) := by decide +kernel
theorem dX11_tell_186 : decode cX11_tell 186 = .ok (.ifCond .ne 6, 3) := by decide +kernel
theorem dX11_tell_189 : decode cX11_tell 189 = .ok (.goto 31, 3) := by decide +kernel
theorem dX11_tell_192 : decode cX11_tell 192 = .ok (.aload 4, 2) := by decide +kernel
theorem dX11_tell_194 : decode cX11_tell 194 = .ok (.iload 5, 2) := by decide +kernel
theorem dX11_tell_196 : decode cX11_tell 196 = .ok (.ifCond .eq 9, 3) := by decide +kernel
theorem dX11_tell_199 : decode cX11_tell 199 = .ok (.ldc_w 368, 3) := by decide +kernel
theorem dX11_tell_202 : decode cX11_tell 202 = .ok (.goto 6, 3) := by decide +kernel
theorem dX11_tell_205 : decode cX11_tell 205 = .ok (.ldc_w 370, 3) := by decide +kernel
theorem dX11_tell_208 : decode cX11_tell 208 = .ok (.invokevirtual 332, 3) := by decide +kernel
theorem dX11_tell_211 : decode cX11_tell 211 = .ok (.iload 6, 2) := by decide +kernel
theorem dX11_tell_213 : decode cX11_tell 213 = .ok (.invokevirtual 336, 3) := by decide +kernel
theorem dX11_tell_216 : decode cX11_tell 216 = .ok (.pop, 1) := by decide +kernel
theorem dX11_tell_217 : decode cX11_tell 217 = .ok (.iconst 1, 1) := by decide +kernel
theorem dX11_tell_218 : decode cX11_tell 218 = .ok (.istore 5, 2) := by decide +kernel
theorem dX11_tell_220 : decode cX11_tell 220 = .ok (.iinc 6 1, 3) := by decide +kernel
theorem dX11_tell_223 : decode cX11_tell 223 = .ok (.goto (-58), 3) := by decide +kernel
theorem dX11_tell_226 : decode cX11_tell 226 = .ok (.aload 4, 2) := by decide +kernel
theorem dX11_tell_228 : decode cX11_tell 228 = .ok (.invokevirtual 341, 3) := by decide +kernel
theorem dX11_tell_231 : decode cX11_tell 231 = .ok (.areturn, 1) := by decide +kernel
set_option maxRecDepth 20000 in
theorem ggX11_wouldLose_X11_isPlayer : GoodIn wsX11_wouldLose wsX11_isPlayer := goodIn_r _ [12, 5, 13, 14, 15, 16, 17, 18, 19, 20, 11, 21, 124, 125, 126, 127, 128, 129, 130, 131, 132, 133, 134, 135, 136, 156, 157, 158] rfl (by decide +kernel)
set_option maxRecDepth 20000 in
theorem gX11_wouldLose_X11_isPlayer : GoodIn wsX11_wouldLose (wsV RX11 87 RX11 yX11_isPlayer wsX11_isPlayer) := goodIn_app (goodIn_of _ (by decide +kernel)) ggX11_wouldLose_X11_isPlayer
set_option maxRecDepth 20000 in
theorem ggX11_wouldLose_X11_refuse : GoodIn wsX11_wouldLose wsX11_refuse := goodIn_r _ [25, 1, 124, 125, 126, 127, 128, 129, 130, 131, 132, 133, 134, 135, 136] rfl (by decide +kernel)
set_option maxRecDepth 20000 in
theorem gX11_wouldLose_X11_refuse : GoodIn wsX11_wouldLose (wsV RX11 60 RX11 yX11_refuse wsX11_refuse) := goodIn_app (goodIn_of _ (by decide +kernel)) ggX11_wouldLose_X11_refuse
set_option maxRecDepth 20000 in
theorem ggX11_wouldLose_X11_isDay : GoodIn wsX11_wouldLose wsX11_isDay := goodIn_r _ [29, 30, 19, 20, 11, 21, 124, 125, 126, 127, 128, 129, 130, 131, 132, 133, 134, 135, 136] rfl (by decide +kernel)
set_option maxRecDepth 20000 in
theorem gX11_wouldLose_X11_isDay : GoodIn wsX11_wouldLose (wsV RX11 136 RX11 yX11_isDay wsX11_isDay) := goodIn_app (goodIn_of _ (by decide +kernel)) ggX11_wouldLose_X11_isDay
set_option maxRecDepth 20000 in
theorem ggX11_wouldLose_Jx4a65c_size_8abf5 : GoodIn wsX11_wouldLose wsJx4a65c_size_8abf5 := goodIn_r _ [17, 18, 156, 157, 158] rfl (by decide +kernel)
set_option maxRecDepth 20000 in
theorem gX11_wouldLose_Jx4a65c_size_8abf5 : GoodIn wsX11_wouldLose (wsV RX11 48 RJx4a65c yJx4a65c_size_8abf5 wsJx4a65c_size_8abf5) := goodIn_app (goodIn_of _ (by decide +kernel)) ggX11_wouldLose_Jx4a65c_size_8abf5
set_option maxRecDepth 20000 in
theorem ggX11_wouldLose_Jx4a65c_get_915e3 : GoodIn wsX11_wouldLose wsJx4a65c_get_915e3 := goodIn_r _ [34, 18, 35, 36, 37, 38, 39, 40, 41, 42, 43, 44, 45, 16, 46, 47, 156, 157, 158] rfl (by decide +kernel)
set_option maxRecDepth 20000 in
theorem gX11_wouldLose_Jx4a65c_get_915e3 : GoodIn wsX11_wouldLose (wsV RX11 90 RJx4a65c yJx4a65c_get_915e3 wsJx4a65c_get_915e3) := goodIn_app (goodIn_of _ (by decide +kernel)) ggX11_wouldLose_Jx4a65c_get_915e3
set_option maxRecDepth 20000 in
theorem ggX11_wouldLose_X11_illNow : GoodIn wsX11_wouldLose wsX11_illNow := goodIn_r _ [51, 5, 6, 2, 4, 7, 31, 32, 33, 16, 34, 18, 35, 36, 37, 38, 39, 40, 41, 42, 43, 44, 45, 46, 47, 13, 14, 15, 17, 52, 53, 11, 54, 55, 56, 57, 58, 59, 60, 61, 62, 63, 64, 65, 66, 67, 68, 69, 70, 71, 72, 73, 74, 75, 76, 77, 78, 79, 80, 81, 82, 83, 84, 85, 86, 87, 88, 89, 90, 91, 92, 93, 94, 95, 96, 97, 98, 99, 100, 101, 102, 103, 104, 105, 106, 107, 108, 109, 110, 111, 112, 113, 114, 115, 116, 117, 118, 119, 120, 121, 122, 123, 124, 125, 126, 127, 128, 129, 130, 131, 132, 133, 134, 135, 136, 149, 150, 151, 152, 153, 154, 155, 137, 138, 139, 140, 141, 142, 143, 144, 145, 146, 147, 148, 156, 157, 158, 159] rfl (by decide +kernel)
set_option maxRecDepth 20000 in
theorem gX11_wouldLose_X11_illNow : GoodIn wsX11_wouldLose (wsV RX11 249 RX11 yX11_illNow wsX11_illNow) := goodIn_app (goodIn_of _ (by decide +kernel)) ggX11_wouldLose_X11_illNow
theorem dX11_wouldLose_0 : decode cX11_wouldLose 0 = .ok (.aload_n 0, 1) := by decide +kernel
theorem dX11_wouldLose_1 : decode cX11_wouldLose 1 = .ok (.iconst 0, 1) := by decide +kernel
theorem dX11_wouldLose_2 : decode cX11_wouldLose 2 = .ok (.putfield 44, 3) := by decide +kernel
theorem dX11_wouldLose_5 : decode cX11_wouldLose 5 = .ok (.aload_n 0, 1) := by decide +kernel
theorem dX11_wouldLose_6 : decode cX11_wouldLose 6 = .ok (.iload_n 1, 1) := by decide +kernel
theorem dX11_wouldLose_7 : decode cX11_wouldLose 7 = .ok (.invokevirtual 87, 3) := by decide +kernel
theorem dX11_wouldLose_10 : decode cX11_wouldLose 10 = .ok (.ifCond .ne 9, 3) := by decide +kernel
theorem dX11_wouldLose_13 : decode cX11_wouldLose 13 = .ok (.aload_n 0, 1) := by decide +kernel
theorem dX11_wouldLose_14 : decode cX11_wouldLose 14 = .ok (.iconst 1, 1) := by decide +kernel
theorem dX11_wouldLose_15 : decode cX11_wouldLose 15 = .ok (.invokevirtual 60, 3) := by decide +kernel
theorem dX11_wouldLose_18 : decode cX11_wouldLose 18 = .ok (.ireturn, 1) := by decide +kernel
theorem dX11_wouldLose_19 : decode cX11_wouldLose 19 = .ok (.aload_n 0, 1) := by decide +kernel
theorem dX11_wouldLose_20 : decode cX11_wouldLose 20 = .ok (.iload_n 2, 1) := by decide +kernel
theorem dX11_wouldLose_21 : decode cX11_wouldLose 21 = .ok (.invokevirtual 136, 3) := by decide +kernel
theorem dX11_wouldLose_24 : decode cX11_wouldLose 24 = .ok (.ifCond .ne 9, 3) := by decide +kernel
theorem dX11_wouldLose_27 : decode cX11_wouldLose 27 = .ok (.aload_n 0, 1) := by decide +kernel
theorem dX11_wouldLose_28 : decode cX11_wouldLose 28 = .ok (.iconst 2, 1) := by decide +kernel
theorem dX11_wouldLose_29 : decode cX11_wouldLose 29 = .ok (.invokevirtual 60, 3) := by decide +kernel
theorem dX11_wouldLose_32 : decode cX11_wouldLose 32 = .ok (.ireturn, 1) := by decide +kernel
theorem dX11_wouldLose_33 : decode cX11_wouldLose 33 = .ok (.aload_n 0, 1) := by decide +kernel
theorem dX11_wouldLose_34 : decode cX11_wouldLose 34 = .ok (.getfield 19, 3) := by decide +kernel
theorem dX11_wouldLose_37 : decode cX11_wouldLose 37 = .ok (.invokevirtual 48, 3) := by decide +kernel
theorem dX11_wouldLose_40 : decode cX11_wouldLose 40 = .ok (.newarray .int, 2) := by decide +kernel
theorem dX11_wouldLose_42 : decode cX11_wouldLose 42 = .ok (.astore_n 3, 1) := by decide +kernel
theorem dX11_wouldLose_43 : decode cX11_wouldLose 43 = .ok (.aload_n 0, 1) := by decide +kernel
theorem dX11_wouldLose_44 : decode cX11_wouldLose 44 = .ok (.getfield 19, 3) := by decide +kernel
theorem dX11_wouldLose_47 : decode cX11_wouldLose 47 = .ok (.invokevirtual 48, 3) := by decide +kernel
theorem dX11_wouldLose_50 : decode cX11_wouldLose 50 = .ok (.newarray .int, 2) := by decide +kernel
theorem dX11_wouldLose_52 : decode cX11_wouldLose 52 = .ok (.astore 4, 2) := by decide +kernel
theorem dX11_wouldLose_54 : decode cX11_wouldLose 54 = .ok (.aload_n 0, 1) := by decide +kernel
theorem dX11_wouldLose_55 : decode cX11_wouldLose 55 = .ok (.getfield 19, 3) := by decide +kernel
theorem dX11_wouldLose_58 : decode cX11_wouldLose 58 = .ok (.invokevirtual 48, 3) := by decide +kernel
theorem dX11_wouldLose_61 : decode cX11_wouldLose 61 = .ok (.newarray .int, 2) := by decide +kernel
theorem dX11_wouldLose_63 : decode cX11_wouldLose 63 = .ok (.astore 5, 2) := by decide +kernel
theorem dX11_wouldLose_65 : decode cX11_wouldLose 65 = .ok (.iconst 0, 1) := by decide +kernel
theorem dX11_wouldLose_66 : decode cX11_wouldLose 66 = .ok (.istore 6, 2) := by decide +kernel
theorem dX11_wouldLose_68 : decode cX11_wouldLose 68 = .ok (.iload 6, 2) := by decide +kernel
theorem dX11_wouldLose_70 : decode cX11_wouldLose 70 = .ok (.aload_n 3, 1) := by decide +kernel
theorem dX11_wouldLose_71 : decode cX11_wouldLose 71 = .ok (.arraylength, 1) := by decide +kernel
theorem dX11_wouldLose_72 : decode cX11_wouldLose 72 = .ok (.if_icmp .ge 68, 3) := by decide +kernel
theorem dX11_wouldLose_75 : decode cX11_wouldLose 75 = .ok (.aload_n 3, 1) := by decide +kernel
theorem dX11_wouldLose_76 : decode cX11_wouldLose 76 = .ok (.iload 6, 2) := by decide +kernel
theorem dX11_wouldLose_78 : decode cX11_wouldLose 78 = .ok (.aload_n 0, 1) := by decide +kernel
theorem dX11_wouldLose_79 : decode cX11_wouldLose 79 = .ok (.getfield 19, 3) := by decide +kernel
theorem dX11_wouldLose_82 : decode cX11_wouldLose 82 = .ok (.iload 6, 2) := by decide +kernel
theorem dX11_wouldLose_84 : decode cX11_wouldLose 84 = .ok (.invokevirtual 90, 3) := by decide +kernel
theorem dX11_wouldLose_87 : decode cX11_wouldLose 87 = .ok (.checkcast 122, 3) := by decide +kernel
theorem dX11_wouldLose_90 : decode cX11_wouldLose 90 = .ok (.getfield 160, 3) := by decide +kernel
theorem dX11_wouldLose_93 : decode cX11_wouldLose 93 = .ok (.iastore, 1) := by decide +kernel
theorem dX11_wouldLose_94 : decode cX11_wouldLose 94 = .ok (.aload 4, 2) := by decide +kernel
theorem dX11_wouldLose_96 : decode cX11_wouldLose 96 = .ok (.iload 6, 2) := by decide +kernel
theorem dX11_wouldLose_98 : decode cX11_wouldLose 98 = .ok (.aload_n 0, 1) := by decide +kernel
theorem dX11_wouldLose_99 : decode cX11_wouldLose 99 = .ok (.getfield 19, 3) := by decide +kernel
theorem dX11_wouldLose_102 : decode cX11_wouldLose 102 = .ok (.iload 6, 2) := by decide +kernel
theorem dX11_wouldLose_104 : decode cX11_wouldLose 104 = .ok (.invokevirtual 90, 3) := by decide +kernel
theorem dX11_wouldLose_107 : decode cX11_wouldLose 107 = .ok (.checkcast 122, 3) := by decide +kernel
theorem dX11_wouldLose_110 : decode cX11_wouldLose 110 = .ok (.getfield 124, 3) := by decide +kernel
theorem dX11_wouldLose_113 : decode cX11_wouldLose 113 = .ok (.iastore, 1) := by decide +kernel
theorem dX11_wouldLose_114 : decode cX11_wouldLose 114 = .ok (.aload 5, 2) := by decide +kernel
theorem dX11_wouldLose_116 : decode cX11_wouldLose 116 = .ok (.iload 6, 2) := by decide +kernel
theorem dX11_wouldLose_118 : decode cX11_wouldLose 118 = .ok (.aload_n 0, 1) := by decide +kernel
theorem dX11_wouldLose_119 : decode cX11_wouldLose 119 = .ok (.getfield 19, 3) := by decide +kernel
theorem dX11_wouldLose_122 : decode cX11_wouldLose 122 = .ok (.iload 6, 2) := by decide +kernel
theorem dX11_wouldLose_124 : decode cX11_wouldLose 124 = .ok (.invokevirtual 90, 3) := by decide +kernel
theorem dX11_wouldLose_127 : decode cX11_wouldLose 127 = .ok (.checkcast 122, 3) := by decide +kernel
theorem dX11_wouldLose_130 : decode cX11_wouldLose 130 = .ok (.getfield 210, 3) := by decide +kernel
theorem dX11_wouldLose_133 : decode cX11_wouldLose 133 = .ok (.iastore, 1) := by decide +kernel
theorem dX11_wouldLose_134 : decode cX11_wouldLose 134 = .ok (.iinc 6 1, 3) := by decide +kernel
theorem dX11_wouldLose_137 : decode cX11_wouldLose 137 = .ok (.goto (-69), 3) := by decide +kernel
theorem dX11_wouldLose_140 : decode cX11_wouldLose 140 = .ok (.aload_n 0, 1) := by decide +kernel
theorem dX11_wouldLose_141 : decode cX11_wouldLose 141 = .ok (.getfield 10, 3) := by decide +kernel
theorem dX11_wouldLose_144 : decode cX11_wouldLose 144 = .ok (.iload_n 1, 1) := by decide +kernel
theorem dX11_wouldLose_145 : decode cX11_wouldLose 145 = .ok (.invokevirtual 90, 3) := by decide +kernel
theorem dX11_wouldLose_148 : decode cX11_wouldLose 148 = .ok (.checkcast 68, 3) := by decide +kernel
theorem dX11_wouldLose_151 : decode cX11_wouldLose 151 = .ok (.getfield 156, 3) := by decide +kernel
theorem dX11_wouldLose_154 : decode cX11_wouldLose 154 = .ok (.iload_n 2, 1) := by decide +kernel
theorem dX11_wouldLose_155 : decode cX11_wouldLose 155 = .ok (.baload, 1) := by decide +kernel
theorem dX11_wouldLose_156 : decode cX11_wouldLose 156 = .ok (.istore 6, 2) := by decide +kernel
theorem dX11_wouldLose_158 : decode cX11_wouldLose 158 = .ok (.aload_n 0, 1) := by decide +kernel
theorem dX11_wouldLose_159 : decode cX11_wouldLose 159 = .ok (.getfield 213, 3) := by decide +kernel
theorem dX11_wouldLose_162 : decode cX11_wouldLose 162 = .ok (.istore 7, 2) := by decide +kernel
theorem dX11_wouldLose_164 : decode cX11_wouldLose 164 = .ok (.aload_n 0, 1) := by decide +kernel
theorem dX11_wouldLose_165 : decode cX11_wouldLose 165 = .ok (.iload_n 1, 1) := by decide +kernel
theorem dX11_wouldLose_166 : decode cX11_wouldLose 166 = .ok (.iload_n 2, 1) := by decide +kernel
theorem dX11_wouldLose_167 : decode cX11_wouldLose 167 = .ok (.invokevirtual 249, 3) := by decide +kernel
theorem dX11_wouldLose_170 : decode cX11_wouldLose 170 = .ok (.istore 8, 2) := by decide +kernel
theorem dX11_wouldLose_172 : decode cX11_wouldLose 172 = .ok (.aload_n 0, 1) := by decide +kernel
theorem dX11_wouldLose_173 : decode cX11_wouldLose 173 = .ok (.getfield 10, 3) := by decide +kernel
theorem dX11_wouldLose_176 : decode cX11_wouldLose 176 = .ok (.iload_n 1, 1) := by decide +kernel
theorem dX11_wouldLose_177 : decode cX11_wouldLose 177 = .ok (.invokevirtual 90, 3) := by decide +kernel
theorem dX11_wouldLose_180 : decode cX11_wouldLose 180 = .ok (.checkcast 68, 3) := by decide +kernel
theorem dX11_wouldLose_183 : decode cX11_wouldLose 183 = .ok (.getfield 156, 3) := by decide +kernel
theorem dX11_wouldLose_186 : decode cX11_wouldLose 186 = .ok (.iload_n 2, 1) := by decide +kernel
theorem dX11_wouldLose_187 : decode cX11_wouldLose 187 = .ok (.iload 6, 2) := by decide +kernel
theorem dX11_wouldLose_189 : decode cX11_wouldLose 189 = .ok (.bastore, 1) := by decide +kernel
theorem dX11_wouldLose_190 : decode cX11_wouldLose 190 = .ok (.aload_n 0, 1) := by decide +kernel
theorem dX11_wouldLose_191 : decode cX11_wouldLose 191 = .ok (.iload 7, 2) := by decide +kernel
theorem dX11_wouldLose_193 : decode cX11_wouldLose 193 = .ok (.putfield 213, 3) := by decide +kernel
theorem dX11_wouldLose_196 : decode cX11_wouldLose 196 = .ok (.iconst 0, 1) := by decide +kernel
theorem dX11_wouldLose_197 : decode cX11_wouldLose 197 = .ok (.istore 9, 2) := by decide +kernel
theorem dX11_wouldLose_199 : decode cX11_wouldLose 199 = .ok (.iload 9, 2) := by decide +kernel
theorem dX11_wouldLose_201 : decode cX11_wouldLose 201 = .ok (.aload_n 3, 1) := by decide +kernel
theorem dX11_wouldLose_202 : decode cX11_wouldLose 202 = .ok (.arraylength, 1) := by decide +kernel
theorem dX11_wouldLose_203 : decode cX11_wouldLose 203 = .ok (.if_icmp .ge 68, 3) := by decide +kernel
theorem dX11_wouldLose_206 : decode cX11_wouldLose 206 = .ok (.aload_n 0, 1) := by decide +kernel
theorem dX11_wouldLose_207 : decode cX11_wouldLose 207 = .ok (.getfield 19, 3) := by decide +kernel
theorem dX11_wouldLose_210 : decode cX11_wouldLose 210 = .ok (.iload 9, 2) := by decide +kernel
theorem dX11_wouldLose_212 : decode cX11_wouldLose 212 = .ok (.invokevirtual 90, 3) := by decide +kernel
theorem dX11_wouldLose_215 : decode cX11_wouldLose 215 = .ok (.checkcast 122, 3) := by decide +kernel
theorem dX11_wouldLose_218 : decode cX11_wouldLose 218 = .ok (.aload_n 3, 1) := by decide +kernel
theorem dX11_wouldLose_219 : decode cX11_wouldLose 219 = .ok (.iload 9, 2) := by decide +kernel
theorem dX11_wouldLose_221 : decode cX11_wouldLose 221 = .ok (.iaload, 1) := by decide +kernel
theorem dX11_wouldLose_222 : decode cX11_wouldLose 222 = .ok (.putfield 160, 3) := by decide +kernel
theorem dX11_wouldLose_225 : decode cX11_wouldLose 225 = .ok (.aload_n 0, 1) := by decide +kernel
theorem dX11_wouldLose_226 : decode cX11_wouldLose 226 = .ok (.getfield 19, 3) := by decide +kernel
theorem dX11_wouldLose_229 : decode cX11_wouldLose 229 = .ok (.iload 9, 2) := by decide +kernel
theorem dX11_wouldLose_231 : decode cX11_wouldLose 231 = .ok (.invokevirtual 90, 3) := by decide +kernel
theorem dX11_wouldLose_234 : decode cX11_wouldLose 234 = .ok (.checkcast 122, 3) := by decide +kernel
theorem dX11_wouldLose_237 : decode cX11_wouldLose 237 = .ok (.aload 4, 2) := by decide +kernel
theorem dX11_wouldLose_239 : decode cX11_wouldLose 239 = .ok (.iload 9, 2) := by decide +kernel
theorem dX11_wouldLose_241 : decode cX11_wouldLose 241 = .ok (.iaload, 1) := by decide +kernel
theorem dX11_wouldLose_242 : decode cX11_wouldLose 242 = .ok (.putfield 124, 3) := by decide +kernel
theorem dX11_wouldLose_245 : decode cX11_wouldLose 245 = .ok (.aload_n 0, 1) := by decide +kernel
theorem dX11_wouldLose_246 : decode cX11_wouldLose 246 = .ok (.getfield 19, 3) := by decide +kernel
theorem dX11_wouldLose_249 : decode cX11_wouldLose 249 = .ok (.iload 9, 2) := by decide +kernel
theorem dX11_wouldLose_251 : decode cX11_wouldLose 251 = .ok (.invokevirtual 90, 3) := by decide +kernel
theorem dX11_wouldLose_254 : decode cX11_wouldLose 254 = .ok (.checkcast 122, 3) := by decide +kernel
theorem dX11_wouldLose_257 : decode cX11_wouldLose 257 = .ok (.aload 5, 2) := by decide +kernel
theorem dX11_wouldLose_259 : decode cX11_wouldLose 259 = .ok (.iload 9, 2) := by decide +kernel
theorem dX11_wouldLose_261 : decode cX11_wouldLose 261 = .ok (.iaload, 1) := by decide +kernel
theorem dX11_wouldLose_262 : decode cX11_wouldLose 262 = .ok (.putfield 210, 3) := by decide +kernel
theorem dX11_wouldLose_265 : decode cX11_wouldLose 265 = .ok (.iinc 9 1, 3) := by decide +kernel
theorem dX11_wouldLose_268 : decode cX11_wouldLose 268 = .ok (.goto (-69), 3) := by decide +kernel
theorem dX11_wouldLose_271 : decode cX11_wouldLose 271 = .ok (.iload 8, 2) := by decide +kernel
theorem dX11_wouldLose_273 : decode cX11_wouldLose 273 = .ok (.ireturn, 1) := by decide +kernel
set_option maxRecDepth 20000 in
theorem ggX11_plan_X11_is : GoodIn wsX11_plan wsX11_is := goodIn_r _ [8] rfl (by decide +kernel)
set_option maxRecDepth 20000 in
theorem gX11_plan_X11_is : GoodIn wsX11_plan (va_wsS RX11 52 yX11_is wsX11_is) := goodIn_app (goodIn_of _ (by decide +kernel)) ggX11_plan_X11_is
set_option maxRecDepth 20000 in
theorem ggX11_plan_X11_refuse : GoodIn wsX11_plan wsX11_refuse := goodIn_r _ [12, 1, 127, 128, 129, 130, 131, 132, 133, 134, 135, 136, 137, 138, 139] rfl (by decide +kernel)
set_option maxRecDepth 20000 in
theorem gX11_plan_X11_refuse : GoodIn wsX11_plan (wsV RX11 60 RX11 yX11_refuse wsX11_refuse) := goodIn_app (goodIn_of _ (by decide +kernel)) ggX11_plan_X11_refuse
set_option maxRecDepth 20000 in
theorem ggX11_plan_Jx4a65c_size_8abf5 : GoodIn wsX11_plan wsJx4a65c_size_8abf5 := goodIn_r _ [17, 18, 152, 153, 154] rfl (by decide +kernel)
set_option maxRecDepth 20000 in
theorem gX11_plan_Jx4a65c_size_8abf5 : GoodIn wsX11_plan (wsV RX11 48 RJx4a65c yJx4a65c_size_8abf5 wsJx4a65c_size_8abf5) := goodIn_app (goodIn_of _ (by decide +kernel)) ggX11_plan_Jx4a65c_size_8abf5
set_option maxRecDepth 20000 in
theorem ggX11_plan_Jx4a65c_get_915e3 : GoodIn wsX11_plan wsJx4a65c_get_915e3 := goodIn_r _ [22, 18, 23, 24, 25, 26, 27, 28, 29, 30, 31, 32, 33, 16, 34, 35, 152, 153, 154] rfl (by decide +kernel)
set_option maxRecDepth 20000 in
theorem gX11_plan_Jx4a65c_get_915e3 : GoodIn wsX11_plan (wsV RX11 90 RJx4a65c yJx4a65c_get_915e3 wsJx4a65c_get_915e3) := goodIn_app (goodIn_of _ (by decide +kernel)) ggX11_plan_Jx4a65c_get_915e3
set_option maxRecDepth 20000 in
theorem ggX11_plan_X11_place : GoodIn wsX11_plan wsX11_place := goodIn_r _ [39, 3, 4, 19, 20, 21, 16, 22, 18, 23, 24, 25, 26, 27, 28, 29, 30, 31, 32, 33, 34, 35, 127, 128, 129, 130, 131, 132, 133, 134, 135, 136, 137, 138, 139, 140, 141, 142, 143, 144, 145, 146, 147, 148, 149, 150, 151, 152, 153, 154] rfl (by decide +kernel)
set_option maxRecDepth 20000 in
theorem gX11_plan_X11_place : GoodIn wsX11_plan (wsV RX11 219 RX11 yX11_place wsX11_place) := goodIn_app (goodIn_of _ (by decide +kernel)) ggX11_plan_X11_place
set_option maxRecDepth 20000 in
theorem ggX11_plan_X11_tried : GoodIn wsX11_plan wsX11_tried := goodIn_r _ [43, 44, 45, 3, 4, 46, 47, 7, 48, 49, 50, 51, 52, 19, 20, 21, 16, 22, 18, 23, 24, 25, 26, 27, 28, 29, 30, 31, 32, 33, 34, 35, 53, 54, 55, 56, 57, 13, 14, 15, 17, 58, 59, 60, 61, 62, 63, 64, 65, 66, 67, 68, 69, 70, 71, 72, 73, 74, 75, 76, 77, 78, 79, 80, 81, 82, 83, 84, 85, 86, 87, 88, 89, 90, 91, 92, 93, 94, 95, 96, 97, 98, 99, 100, 101, 102, 103, 104, 105, 106, 107, 108, 109, 110, 111, 112, 113, 114, 115, 116, 117, 118, 119, 120, 121, 122, 123, 124, 125, 126, 127, 128, 129, 130, 131, 132, 133, 134, 135, 136, 137, 138, 139, 140, 141, 142, 143, 144, 145, 146, 147, 148, 149, 150, 151, 152, 153, 154, 155, 156, 157, 158, 159, 160, 161, 162] rfl (by decide +kernel)
set_option maxRecDepth 20000 in
theorem gX11_plan_X11_tried : GoodIn wsX11_plan (wsV RX11 372 RX11 yX11_tried wsX11_tried) := goodIn_app (goodIn_of _ (by decide +kernel)) ggX11_plan_X11_tried
set_option maxRecDepth 20000 in
theorem ggX11_plan_X11_isIn : GoodIn wsX11_plan wsX11_isIn := goodIn_r _ [48] rfl (by decide +kernel)
set_option maxRecDepth 20000 in
theorem gX11_plan_X11_isIn : GoodIn wsX11_plan (va_wsS RX11 102 yX11_isIn wsX11_isIn) := goodIn_app (goodIn_of _ (by decide +kernel)) ggX11_plan_X11_isIn
theorem dX11_plan_0 : decode cX11_plan 0 = .ok (.aload_n 0, 1) := by decide +kernel
theorem dX11_plan_1 : decode cX11_plan 1 = .ok (.iconst 0, 1) := by decide +kernel
theorem dX11_plan_2 : decode cX11_plan 2 = .ok (.putfield 44, 3) := by decide +kernel
theorem dX11_plan_5 : decode cX11_plan 5 = .ok (.iload_n 1, 1) := by decide +kernel
theorem dX11_plan_6 : decode cX11_plan 6 = .ok (.iconst 0, 1) := by decide +kernel
theorem dX11_plan_7 : decode cX11_plan 7 = .ok (.sipush 365, 3) := by decide +kernel
theorem dX11_plan_10 : decode cX11_plan 10 = .ok (.invokestatic 52, 3) := by decide +kernel
theorem dX11_plan_13 : decode cX11_plan 13 = .ok (.ifCond .ne 9, 3) := by decide +kernel
theorem dX11_plan_16 : decode cX11_plan 16 = .ok (.aload_n 0, 1) := by decide +kernel
theorem dX11_plan_17 : decode cX11_plan 17 = .ok (.iconst 1, 1) := by decide +kernel
theorem dX11_plan_18 : decode cX11_plan 18 = .ok (.invokevirtual 60, 3) := by decide +kernel
theorem dX11_plan_21 : decode cX11_plan 21 = .ok (.ireturn, 1) := by decide +kernel
theorem dX11_plan_22 : decode cX11_plan 22 = .ok (.iconst 3, 1) := by decide +kernel
theorem dX11_plan_23 : decode cX11_plan 23 = .ok (.newarray .int, 2) := by decide +kernel
theorem dX11_plan_25 : decode cX11_plan 25 = .ok (.astore_n 3, 1) := by decide +kernel
theorem dX11_plan_26 : decode cX11_plan 26 = .ok (.iconst 0, 1) := by decide +kernel
theorem dX11_plan_27 : decode cX11_plan 27 = .ok (.istore 4, 2) := by decide +kernel
theorem dX11_plan_29 : decode cX11_plan 29 = .ok (.iconst 0, 1) := by decide +kernel
theorem dX11_plan_30 : decode cX11_plan 30 = .ok (.istore 5, 2) := by decide +kernel
theorem dX11_plan_32 : decode cX11_plan 32 = .ok (.iload 5, 2) := by decide +kernel
theorem dX11_plan_34 : decode cX11_plan 34 = .ok (.aload_n 0, 1) := by decide +kernel
theorem dX11_plan_35 : decode cX11_plan 35 = .ok (.getfield 19, 3) := by decide +kernel
theorem dX11_plan_38 : decode cX11_plan 38 = .ok (.invokevirtual 48, 3) := by decide +kernel
theorem dX11_plan_41 : decode cX11_plan 41 = .ok (.if_icmp .ge 55, 3) := by decide +kernel
theorem dX11_plan_44 : decode cX11_plan 44 = .ok (.iload 4, 2) := by decide +kernel
theorem dX11_plan_46 : decode cX11_plan 46 = .ok (.iconst 3, 1) := by decide +kernel
theorem dX11_plan_47 : decode cX11_plan 47 = .ok (.if_icmp .ge 49, 3) := by decide +kernel
theorem dX11_plan_50 : decode cX11_plan 50 = .ok (.aload_n 0, 1) := by decide +kernel
theorem dX11_plan_51 : decode cX11_plan 51 = .ok (.getfield 19, 3) := by decide +kernel
theorem dX11_plan_54 : decode cX11_plan 54 = .ok (.iload 5, 2) := by decide +kernel
theorem dX11_plan_56 : decode cX11_plan 56 = .ok (.invokevirtual 90, 3) := by decide +kernel
theorem dX11_plan_59 : decode cX11_plan 59 = .ok (.checkcast 122, 3) := by decide +kernel
theorem dX11_plan_62 : decode cX11_plan 62 = .ok (.getfield 130, 3) := by decide +kernel
theorem dX11_plan_65 : decode cX11_plan 65 = .ok (.iload_n 1, 1) := by decide +kernel
theorem dX11_plan_66 : decode cX11_plan 66 = .ok (.if_icmp .ne 24, 3) := by decide +kernel
theorem dX11_plan_69 : decode cX11_plan 69 = .ok (.aload_n 0, 1) := by decide +kernel
theorem dX11_plan_70 : decode cX11_plan 70 = .ok (.iload 5, 2) := by decide +kernel
theorem dX11_plan_72 : decode cX11_plan 72 = .ok (.invokevirtual 219, 3) := by decide +kernel
theorem dX11_plan_75 : decode cX11_plan 75 = .ok (.ifCond .eq 6, 3) := by decide +kernel
theorem dX11_plan_78 : decode cX11_plan 78 = .ok (.goto 12, 3) := by decide +kernel
theorem dX11_plan_81 : decode cX11_plan 81 = .ok (.aload_n 3, 1) := by decide +kernel
theorem dX11_plan_82 : decode cX11_plan 82 = .ok (.iload 4, 2) := by decide +kernel
theorem dX11_plan_84 : decode cX11_plan 84 = .ok (.iload 5, 2) := by decide +kernel
theorem dX11_plan_86 : decode cX11_plan 86 = .ok (.iastore, 1) := by decide +kernel
theorem dX11_plan_87 : decode cX11_plan 87 = .ok (.iinc 4 1, 3) := by decide +kernel
theorem dX11_plan_90 : decode cX11_plan 90 = .ok (.iinc 5 1, 3) := by decide +kernel
theorem dX11_plan_93 : decode cX11_plan 93 = .ok (.goto (-61), 3) := by decide +kernel
theorem dX11_plan_96 : decode cX11_plan 96 = .ok (.iconst 0, 1) := by decide +kernel
theorem dX11_plan_97 : decode cX11_plan 97 = .ok (.istore 5, 2) := by decide +kernel
theorem dX11_plan_99 : decode cX11_plan 99 = .ok (.iconst 0, 1) := by decide +kernel
theorem dX11_plan_100 : decode cX11_plan 100 = .ok (.istore 6, 2) := by decide +kernel
theorem dX11_plan_102 : decode cX11_plan 102 = .ok (.iconst 1, 1) := by decide +kernel
theorem dX11_plan_103 : decode cX11_plan 103 = .ok (.istore 7, 2) := by decide +kernel
theorem dX11_plan_105 : decode cX11_plan 105 = .ok (.iload 7, 2) := by decide +kernel
theorem dX11_plan_107 : decode cX11_plan 107 = .ok (.iconst 1, 1) := by decide +kernel
theorem dX11_plan_108 : decode cX11_plan 108 = .ok (.iload 4, 2) := by decide +kernel
theorem dX11_plan_110 : decode cX11_plan 110 = .ok (.ishl, 1) := by decide +kernel
theorem dX11_plan_111 : decode cX11_plan 111 = .ok (.if_icmp .ge 38, 3) := by decide +kernel
theorem dX11_plan_114 : decode cX11_plan 114 = .ok (.aload_n 0, 1) := by decide +kernel
theorem dX11_plan_115 : decode cX11_plan 115 = .ok (.aload_n 3, 1) := by decide +kernel
theorem dX11_plan_116 : decode cX11_plan 116 = .ok (.iload 7, 2) := by decide +kernel
theorem dX11_plan_118 : decode cX11_plan 118 = .ok (.iload 4, 2) := by decide +kernel
theorem dX11_plan_120 : decode cX11_plan 120 = .ok (.invokevirtual 372, 3) := by decide +kernel
theorem dX11_plan_123 : decode cX11_plan 123 = .ok (.istore 8, 2) := by decide +kernel
theorem dX11_plan_125 : decode cX11_plan 125 = .ok (.iload 8, 2) := by decide +kernel
theorem dX11_plan_127 : decode cX11_plan 127 = .ok (.iload 6, 2) := by decide +kernel
theorem dX11_plan_129 : decode cX11_plan 129 = .ok (.if_icmp .gt 6, 3) := by decide +kernel
theorem dX11_plan_132 : decode cX11_plan 132 = .ok (.goto 11, 3) := by decide +kernel
theorem dX11_plan_135 : decode cX11_plan 135 = .ok (.iload 8, 2) := by decide +kernel
theorem dX11_plan_137 : decode cX11_plan 137 = .ok (.istore 6, 2) := by decide +kernel
theorem dX11_plan_139 : decode cX11_plan 139 = .ok (.iload 7, 2) := by decide +kernel
theorem dX11_plan_141 : decode cX11_plan 141 = .ok (.istore 5, 2) := by decide +kernel
theorem dX11_plan_143 : decode cX11_plan 143 = .ok (.iinc 7 1, 3) := by decide +kernel
theorem dX11_plan_146 : decode cX11_plan 146 = .ok (.goto (-41), 3) := by decide +kernel
theorem dX11_plan_149 : decode cX11_plan 149 = .ok (.iconst 0, 1) := by decide +kernel
theorem dX11_plan_150 : decode cX11_plan 150 = .ok (.istore 7, 2) := by decide +kernel
theorem dX11_plan_152 : decode cX11_plan 152 = .ok (.iconst 0, 1) := by decide +kernel
theorem dX11_plan_153 : decode cX11_plan 153 = .ok (.istore 8, 2) := by decide +kernel
theorem dX11_plan_155 : decode cX11_plan 155 = .ok (.iload 8, 2) := by decide +kernel
theorem dX11_plan_157 : decode cX11_plan 157 = .ok (.iload 4, 2) := by decide +kernel
theorem dX11_plan_159 : decode cX11_plan 159 = .ok (.if_icmp .ge 34, 3) := by decide +kernel
theorem dX11_plan_162 : decode cX11_plan 162 = .ok (.iload 7, 2) := by decide +kernel
theorem dX11_plan_164 : decode cX11_plan 164 = .ok (.iload 5, 2) := by decide +kernel
theorem dX11_plan_166 : decode cX11_plan 166 = .ok (.iload 8, 2) := by decide +kernel
theorem dX11_plan_168 : decode cX11_plan 168 = .ok (.invokestatic 102, 3) := by decide +kernel
theorem dX11_plan_171 : decode cX11_plan 171 = .ok (.ifCond .eq 12, 3) := by decide +kernel
theorem dX11_plan_174 : decode cX11_plan 174 = .ok (.iconst 1, 1) := by decide +kernel
theorem dX11_plan_175 : decode cX11_plan 175 = .ok (.aload_n 3, 1) := by decide +kernel
theorem dX11_plan_176 : decode cX11_plan 176 = .ok (.iload 8, 2) := by decide +kernel
theorem dX11_plan_178 : decode cX11_plan 178 = .ok (.iaload, 1) := by decide +kernel
theorem dX11_plan_179 : decode cX11_plan 179 = .ok (.ishl, 1) := by decide +kernel
theorem dX11_plan_180 : decode cX11_plan 180 = .ok (.goto 4, 3) := by decide +kernel
theorem dX11_plan_183 : decode cX11_plan 183 = .ok (.iconst 0, 1) := by decide +kernel
theorem dX11_plan_184 : decode cX11_plan 184 = .ok (.ior, 1) := by decide +kernel
theorem dX11_plan_185 : decode cX11_plan 185 = .ok (.istore 7, 2) := by decide +kernel
theorem dX11_plan_187 : decode cX11_plan 187 = .ok (.iinc 8 1, 3) := by decide +kernel
theorem dX11_plan_190 : decode cX11_plan 190 = .ok (.goto (-35), 3) := by decide +kernel
theorem dX11_plan_193 : decode cX11_plan 193 = .ok (.iload_n 2, 1) := by decide +kernel
theorem dX11_plan_194 : decode cX11_plan 194 = .ok (.ifCond .eq 8, 3) := by decide +kernel
theorem dX11_plan_197 : decode cX11_plan 197 = .ok (.iload 7, 2) := by decide +kernel
theorem dX11_plan_199 : decode cX11_plan 199 = .ok (.goto 5, 3) := by decide +kernel
theorem dX11_plan_202 : decode cX11_plan 202 = .ok (.iload 6, 2) := by decide +kernel
theorem dX11_plan_204 : decode cX11_plan 204 = .ok (.ireturn, 1) := by decide +kernel
set_option maxRecDepth 20000 in
theorem ggX11_tried_X11_isIn : GoodIn wsX11_tried wsX11_isIn := goodIn_r _ [8] rfl (by decide +kernel)
set_option maxRecDepth 20000 in
theorem gX11_tried_X11_isIn : GoodIn wsX11_tried (va_wsS RX11 102 yX11_isIn wsX11_isIn) := goodIn_app (goodIn_of _ (by decide +kernel)) ggX11_tried_X11_isIn
set_option maxRecDepth 20000 in
theorem ggX11_tried_X11_best : GoodIn wsX11_tried wsX11_best := goodIn_r _ [12, 3, 4, 13, 14, 15, 16, 17, 18, 19, 20, 21, 22, 23, 24, 25, 26, 27, 28, 29, 30, 31, 32, 33, 34, 7, 35, 36, 37, 38, 39, 40, 41, 42, 43, 44, 45, 46, 47, 48, 49, 50, 5, 6, 8, 51, 52, 53, 54, 55, 56, 57, 58, 59, 60, 61, 62, 63, 64, 65, 66, 67, 68, 69, 70, 71, 72, 73, 74, 75, 76, 77, 78, 79, 80, 81, 82, 83, 84, 85, 86, 87, 88, 89, 90, 91, 92, 93, 94, 95, 96, 97, 98, 99, 100, 101, 102, 110, 111, 112, 113, 114, 115, 116, 117, 118, 119, 120, 121, 122, 135, 136, 137, 138, 139, 140, 141, 142, 143, 144, 123, 124, 125, 126, 127, 128, 129, 130, 131, 132, 133, 134, 145] rfl (by decide +kernel)
set_option maxRecDepth 20000 in
theorem gX11_tried_X11_best : GoodIn wsX11_tried (wsV RX11 200 RX11 yX11_best wsX11_best) := goodIn_app (goodIn_of _ (by decide +kernel)) ggX11_tried_X11_best
set_option maxRecDepth 20000 in
theorem ggX11_tried_X11_fixNow : GoodIn wsX11_tried wsX11_fixNow := goodIn_r _ [106, 3, 4, 1, 13, 14, 15, 16, 17, 18, 19, 20, 21, 22, 23, 24, 25, 26, 27, 28, 29, 30, 31, 95, 96, 97, 7, 98, 36, 37, 38, 39, 40, 5, 6, 8, 99, 100, 101, 102, 45, 46, 47, 48, 49, 50, 107, 108, 109, 110, 111, 112, 113, 114, 115, 116, 117, 118, 119, 120, 121, 122, 123, 124, 125, 126, 127, 128, 129, 130, 131, 132, 133, 134, 135, 136, 137, 138, 139, 140, 141, 142, 143, 144] rfl (by decide +kernel)
set_option maxRecDepth 20000 in
theorem gX11_tried_X11_fixNow : GoodIn wsX11_tried (wsV RX11 222 RX11 yX11_fixNow wsX11_fixNow) := goodIn_app (goodIn_of _ (by decide +kernel)) ggX11_tried_X11_fixNow
set_option maxRecDepth 20000 in
theorem ggX11_tried_Jx4a65c_get_915e3 : GoodIn wsX11_tried wsJx4a65c_get_915e3 := goodIn_r _ [17, 18, 19, 20, 21, 22, 23, 24, 25, 26, 27, 28, 29, 16, 30, 31, 135, 136, 137] rfl (by decide +kernel)
set_option maxRecDepth 20000 in
theorem gX11_tried_Jx4a65c_get_915e3 : GoodIn wsX11_tried (wsV RX11 90 RJx4a65c yJx4a65c_get_915e3 wsJx4a65c_get_915e3) := goodIn_app (goodIn_of _ (by decide +kernel)) ggX11_tried_Jx4a65c_get_915e3
theorem dX11_tried_0 : decode cX11_tried 0 = .ok (.iconst 0, 1) := by decide +kernel
theorem dX11_tried_1 : decode cX11_tried 1 = .ok (.istore 4, 2) := by decide +kernel
theorem dX11_tried_3 : decode cX11_tried 3 = .ok (.iconst 0, 1) := by decide +kernel
theorem dX11_tried_4 : decode cX11_tried 4 = .ok (.istore 5, 2) := by decide +kernel
theorem dX11_tried_6 : decode cX11_tried 6 = .ok (.aload_n 0, 1) := by decide +kernel
theorem dX11_tried_7 : decode cX11_tried 7 = .ok (.getfield 213, 3) := by decide +kernel
theorem dX11_tried_10 : decode cX11_tried 10 = .ok (.istore 6, 2) := by decide +kernel
theorem dX11_tried_12 : decode cX11_tried 12 = .ok (.iconst 0, 1) := by decide +kernel
theorem dX11_tried_13 : decode cX11_tried 13 = .ok (.istore 7, 2) := by decide +kernel
theorem dX11_tried_15 : decode cX11_tried 15 = .ok (.iload 7, 2) := by decide +kernel
theorem dX11_tried_17 : decode cX11_tried 17 = .ok (.iload_n 3, 1) := by decide +kernel
theorem dX11_tried_18 : decode cX11_tried 18 = .ok (.if_icmp .ge 94, 3) := by decide +kernel
theorem dX11_tried_21 : decode cX11_tried 21 = .ok (.iload_n 2, 1) := by decide +kernel
theorem dX11_tried_22 : decode cX11_tried 22 = .ok (.iload 7, 2) := by decide +kernel
theorem dX11_tried_24 : decode cX11_tried 24 = .ok (.invokestatic 102, 3) := by decide +kernel
theorem dX11_tried_27 : decode cX11_tried 27 = .ok (.ifCond .ne 6, 3) := by decide +kernel
theorem dX11_tried_30 : decode cX11_tried 30 = .ok (.goto 76, 3) := by decide +kernel
theorem dX11_tried_33 : decode cX11_tried 33 = .ok (.aload_n 0, 1) := by decide +kernel
theorem dX11_tried_34 : decode cX11_tried 34 = .ok (.aload_n 1, 1) := by decide +kernel
theorem dX11_tried_35 : decode cX11_tried 35 = .ok (.iload 7, 2) := by decide +kernel
theorem dX11_tried_37 : decode cX11_tried 37 = .ok (.iaload, 1) := by decide +kernel
theorem dX11_tried_38 : decode cX11_tried 38 = .ok (.iconst 0, 1) := by decide +kernel
theorem dX11_tried_39 : decode cX11_tried 39 = .ok (.iconst 0, 1) := by decide +kernel
theorem dX11_tried_40 : decode cX11_tried 40 = .ok (.invokevirtual 200, 3) := by decide +kernel
theorem dX11_tried_43 : decode cX11_tried 43 = .ok (.istore 8, 2) := by decide +kernel
theorem dX11_tried_45 : decode cX11_tried 45 = .ok (.iload 8, 2) := by decide +kernel
theorem dX11_tried_47 : decode cX11_tried 47 = .ok (.iconst (-1), 1) := by decide +kernel
theorem dX11_tried_48 : decode cX11_tried 48 = .ok (.if_icmp .ne 8, 3) := by decide +kernel
theorem dX11_tried_51 : decode cX11_tried 51 = .ok (.ldc_w 376, 3) := by decide +kernel
theorem dX11_tried_54 : decode cX11_tried 54 = .ok (.istore 4, 2) := by decide +kernel
theorem dX11_tried_56 : decode cX11_tried 56 = .ok (.iload 8, 2) := by decide +kernel
theorem dX11_tried_58 : decode cX11_tried 58 = .ok (.iconst (-1), 1) := by decide +kernel
theorem dX11_tried_59 : decode cX11_tried 59 = .ok (.if_icmp .ne 6, 3) := by decide +kernel
theorem dX11_tried_62 : decode cX11_tried 62 = .ok (.goto 44, 3) := by decide +kernel
theorem dX11_tried_65 : decode cX11_tried 65 = .ok (.aload_n 0, 1) := by decide +kernel
theorem dX11_tried_66 : decode cX11_tried 66 = .ok (.aload_n 1, 1) := by decide +kernel
theorem dX11_tried_67 : decode cX11_tried 67 = .ok (.iload 7, 2) := by decide +kernel
theorem dX11_tried_69 : decode cX11_tried 69 = .ok (.iaload, 1) := by decide +kernel
theorem dX11_tried_70 : decode cX11_tried 70 = .ok (.iload 8, 2) := by decide +kernel
theorem dX11_tried_72 : decode cX11_tried 72 = .ok (.invokevirtual 222, 3) := by decide +kernel
theorem dX11_tried_75 : decode cX11_tried 75 = .ok (.iload 5, 2) := by decide +kernel
theorem dX11_tried_77 : decode cX11_tried 77 = .ok (.iconst 1, 1) := by decide +kernel
theorem dX11_tried_78 : decode cX11_tried 78 = .ok (.iload 7, 2) := by decide +kernel
theorem dX11_tried_80 : decode cX11_tried 80 = .ok (.ishl, 1) := by decide +kernel
theorem dX11_tried_81 : decode cX11_tried 81 = .ok (.ior, 1) := by decide +kernel
theorem dX11_tried_82 : decode cX11_tried 82 = .ok (.istore 5, 2) := by decide +kernel
theorem dX11_tried_84 : decode cX11_tried 84 = .ok (.iload 4, 2) := by decide +kernel
theorem dX11_tried_86 : decode cX11_tried 86 = .ok (.aload_n 0, 1) := by decide +kernel
theorem dX11_tried_87 : decode cX11_tried 87 = .ok (.getfield 19, 3) := by decide +kernel
theorem dX11_tried_90 : decode cX11_tried 90 = .ok (.aload_n 1, 1) := by decide +kernel
theorem dX11_tried_91 : decode cX11_tried 91 = .ok (.iload 7, 2) := by decide +kernel
theorem dX11_tried_93 : decode cX11_tried 93 = .ok (.iaload, 1) := by decide +kernel
theorem dX11_tried_94 : decode cX11_tried 94 = .ok (.invokevirtual 90, 3) := by decide +kernel
theorem dX11_tried_97 : decode cX11_tried 97 = .ok (.checkcast 122, 3) := by decide +kernel
theorem dX11_tried_100 : decode cX11_tried 100 = .ok (.getfield 207, 3) := by decide +kernel
theorem dX11_tried_103 : decode cX11_tried 103 = .ok (.iadd, 1) := by decide +kernel
theorem dX11_tried_104 : decode cX11_tried 104 = .ok (.istore 4, 2) := by decide +kernel
theorem dX11_tried_106 : decode cX11_tried 106 = .ok (.iinc 7 1, 3) := by decide +kernel
theorem dX11_tried_109 : decode cX11_tried 109 = .ok (.goto (-94), 3) := by decide +kernel
theorem dX11_tried_112 : decode cX11_tried 112 = .ok (.iconst 0, 1) := by decide +kernel
theorem dX11_tried_113 : decode cX11_tried 113 = .ok (.istore 7, 2) := by decide +kernel
theorem dX11_tried_115 : decode cX11_tried 115 = .ok (.iload 7, 2) := by decide +kernel
theorem dX11_tried_117 : decode cX11_tried 117 = .ok (.iload_n 3, 1) := by decide +kernel
theorem dX11_tried_118 : decode cX11_tried 118 = .ok (.if_icmp .ge 62, 3) := by decide +kernel
theorem dX11_tried_121 : decode cX11_tried 121 = .ok (.iload 5, 2) := by decide +kernel
theorem dX11_tried_123 : decode cX11_tried 123 = .ok (.iload 7, 2) := by decide +kernel
theorem dX11_tried_125 : decode cX11_tried 125 = .ok (.invokestatic 102, 3) := by decide +kernel
theorem dX11_tried_128 : decode cX11_tried 128 = .ok (.ifCond .ne 6, 3) := by decide +kernel
theorem dX11_tried_131 : decode cX11_tried 131 = .ok (.goto 43, 3) := by decide +kernel
theorem dX11_tried_134 : decode cX11_tried 134 = .ok (.aload_n 0, 1) := by decide +kernel
theorem dX11_tried_135 : decode cX11_tried 135 = .ok (.getfield 19, 3) := by decide +kernel
theorem dX11_tried_138 : decode cX11_tried 138 = .ok (.aload_n 1, 1) := by decide +kernel
theorem dX11_tried_139 : decode cX11_tried 139 = .ok (.iload 7, 2) := by decide +kernel
theorem dX11_tried_141 : decode cX11_tried 141 = .ok (.iaload, 1) := by decide +kernel
theorem dX11_tried_142 : decode cX11_tried 142 = .ok (.invokevirtual 90, 3) := by decide +kernel
theorem dX11_tried_145 : decode cX11_tried 145 = .ok (.checkcast 122, 3) := by decide +kernel
theorem dX11_tried_148 : decode cX11_tried 148 = .ok (.astore 8, 2) := by decide +kernel
theorem dX11_tried_150 : decode cX11_tried 150 = .ok (.aload 8, 2) := by decide +kernel
theorem dX11_tried_152 : decode cX11_tried 152 = .ok (.iconst 0, 1) := by decide +kernel
theorem dX11_tried_153 : decode cX11_tried 153 = .ok (.putfield 124, 3) := by decide +kernel
theorem dX11_tried_156 : decode cX11_tried 156 = .ok (.aload 8, 2) := by decide +kernel
theorem dX11_tried_158 : decode cX11_tried 158 = .ok (.iconst 0, 1) := by decide +kernel
theorem dX11_tried_159 : decode cX11_tried 159 = .ok (.putfield 160, 3) := by decide +kernel
theorem dX11_tried_162 : decode cX11_tried 162 = .ok (.aload 8, 2) := by decide +kernel
theorem dX11_tried_164 : decode cX11_tried 164 = .ok (.iconst 0, 1) := by decide +kernel
theorem dX11_tried_165 : decode cX11_tried 165 = .ok (.putfield 207, 3) := by decide +kernel
theorem dX11_tried_168 : decode cX11_tried 168 = .ok (.aload 8, 2) := by decide +kernel
theorem dX11_tried_170 : decode cX11_tried 170 = .ok (.iconst 0, 1) := by decide +kernel
theorem dX11_tried_171 : decode cX11_tried 171 = .ok (.putfield 210, 3) := by decide +kernel
theorem dX11_tried_174 : decode cX11_tried 174 = .ok (.iinc 7 1, 3) := by decide +kernel
theorem dX11_tried_177 : decode cX11_tried 177 = .ok (.goto (-62), 3) := by decide +kernel
theorem dX11_tried_180 : decode cX11_tried 180 = .ok (.aload_n 0, 1) := by decide +kernel
theorem dX11_tried_181 : decode cX11_tried 181 = .ok (.iload 6, 2) := by decide +kernel
theorem dX11_tried_183 : decode cX11_tried 183 = .ok (.putfield 213, 3) := by decide +kernel
theorem dX11_tried_186 : decode cX11_tried 186 = .ok (.iload 4, 2) := by decide +kernel
theorem dX11_tried_188 : decode cX11_tried 188 = .ok (.ireturn, 1) := by decide +kernel
set_option maxRecDepth 20000 in
theorem ggX11_wouldCancel_X11_isWedding : GoodIn wsX11_wouldCancel wsX11_isWedding := goodIn_r _ [12, 2, 13, 14, 15, 16, 17, 18, 19, 20, 11, 21, 85, 86, 87, 88, 89, 90, 91, 92, 93, 94, 95, 96, 97, 110, 111, 112] rfl (by decide +kernel)
set_option maxRecDepth 20000 in
theorem gX11_wouldCancel_X11_isWedding : GoodIn wsX11_wouldCancel (wsV RX11 216 RX11 yX11_isWedding wsX11_isWedding) := goodIn_app (goodIn_of _ (by decide +kernel)) ggX11_wouldCancel_X11_isWedding
set_option maxRecDepth 20000 in
theorem ggX11_wouldCancel_X11_refuse : GoodIn wsX11_wouldCancel wsX11_refuse := goodIn_r _ [25, 1, 85, 86, 87, 88, 89, 90, 91, 92, 93, 94, 95, 96, 97] rfl (by decide +kernel)
set_option maxRecDepth 20000 in
theorem gX11_wouldCancel_X11_refuse : GoodIn wsX11_wouldCancel (wsV RX11 60 RX11 yX11_refuse wsX11_refuse) := goodIn_app (goodIn_of _ (by decide +kernel)) ggX11_wouldCancel_X11_refuse
set_option maxRecDepth 20000 in
theorem ggX11_wouldCancel_Jx4a65c_get_915e3 : GoodIn wsX11_wouldCancel wsJx4a65c_get_915e3 := goodIn_r _ [29, 18, 30, 31, 32, 33, 34, 35, 36, 37, 38, 39, 40, 16, 41, 42, 110, 111, 112] rfl (by decide +kernel)
set_option maxRecDepth 20000 in
theorem gX11_wouldCancel_Jx4a65c_get_915e3 : GoodIn wsX11_wouldCancel (wsV RX11 90 RJx4a65c yJx4a65c_get_915e3 wsJx4a65c_get_915e3) := goodIn_app (goodIn_of _ (by decide +kernel)) ggX11_wouldCancel_Jx4a65c_get_915e3
set_option maxRecDepth 20000 in
theorem ggX11_wouldCancel_X11_owed : GoodIn wsX11_wouldCancel wsX11_owed := goodIn_r _ [46, 47, 98, 99, 100, 101, 102, 103, 104, 105, 106, 107, 108, 109, 85, 86, 87, 88, 89, 90, 91, 92, 93, 94, 95, 96, 97] rfl (by decide +kernel)
set_option maxRecDepth 20000 in
theorem gX11_wouldCancel_X11_owed : GoodIn wsX11_wouldCancel (wsV RX11 240 RX11 yX11_owed wsX11_owed) := goodIn_app (goodIn_of _ (by decide +kernel)) ggX11_wouldCancel_X11_owed
set_option maxRecDepth 20000 in
theorem ggX11_wouldCancel_X11_gain : GoodIn wsX11_wouldCancel wsX11_gain := goodIn_r _ [51, 52, 53, 54, 55, 56, 57, 58, 59, 60, 61, 62, 6, 63, 64, 65, 66, 11, 67, 68, 13, 14, 15, 16, 17, 18, 69, 70, 71, 26, 27, 28, 29, 30, 31, 32, 33, 34, 35, 36, 37, 38, 39, 40, 41, 42, 72, 73, 74, 75, 76, 77, 78, 79, 80, 81, 82, 83, 84, 98, 99, 100, 101, 102, 103, 104, 105, 106, 107, 108, 109, 85, 86, 87, 88, 89, 90, 91, 92, 93, 94, 95, 96, 97, 113, 114, 115, 116, 117, 118, 119, 110, 111, 112] rfl (by decide +kernel)
set_option maxRecDepth 20000 in
theorem gX11_wouldCancel_X11_gain : GoodIn wsX11_wouldCancel (wsV RX11 264 RX11 yX11_gain wsX11_gain) := goodIn_app (goodIn_of _ (by decide +kernel)) ggX11_wouldCancel_X11_gain
theorem dX11_wouldCancel_0 : decode cX11_wouldCancel 0 = .ok (.aload_n 0, 1) := by decide +kernel
theorem dX11_wouldCancel_1 : decode cX11_wouldCancel 1 = .ok (.iconst 0, 1) := by decide +kernel
theorem dX11_wouldCancel_2 : decode cX11_wouldCancel 2 = .ok (.putfield 44, 3) := by decide +kernel
theorem dX11_wouldCancel_5 : decode cX11_wouldCancel 5 = .ok (.aload_n 0, 1) := by decide +kernel
theorem dX11_wouldCancel_6 : decode cX11_wouldCancel 6 = .ok (.iload_n 1, 1) := by decide +kernel
theorem dX11_wouldCancel_7 : decode cX11_wouldCancel 7 = .ok (.invokevirtual 216, 3) := by decide +kernel
theorem dX11_wouldCancel_10 : decode cX11_wouldCancel 10 = .ok (.ifCond .ne 9, 3) := by decide +kernel
theorem dX11_wouldCancel_13 : decode cX11_wouldCancel 13 = .ok (.aload_n 0, 1) := by decide +kernel
theorem dX11_wouldCancel_14 : decode cX11_wouldCancel 14 = .ok (.iconst 1, 1) := by decide +kernel
theorem dX11_wouldCancel_15 : decode cX11_wouldCancel 15 = .ok (.invokevirtual 60, 3) := by decide +kernel
theorem dX11_wouldCancel_18 : decode cX11_wouldCancel 18 = .ok (.ireturn, 1) := by decide +kernel
theorem dX11_wouldCancel_19 : decode cX11_wouldCancel 19 = .ok (.aload_n 0, 1) := by decide +kernel
theorem dX11_wouldCancel_20 : decode cX11_wouldCancel 20 = .ok (.getfield 19, 3) := by decide +kernel
theorem dX11_wouldCancel_23 : decode cX11_wouldCancel 23 = .ok (.iload_n 1, 1) := by decide +kernel
theorem dX11_wouldCancel_24 : decode cX11_wouldCancel 24 = .ok (.invokevirtual 90, 3) := by decide +kernel
theorem dX11_wouldCancel_27 : decode cX11_wouldCancel 27 = .ok (.checkcast 122, 3) := by decide +kernel
theorem dX11_wouldCancel_30 : decode cX11_wouldCancel 30 = .ok (.astore_n 2, 1) := by decide +kernel
theorem dX11_wouldCancel_31 : decode cX11_wouldCancel 31 = .ok (.aload_n 2, 1) := by decide +kernel
theorem dX11_wouldCancel_32 : decode cX11_wouldCancel 32 = .ok (.getfield 124, 3) := by decide +kernel
theorem dX11_wouldCancel_35 : decode cX11_wouldCancel 35 = .ok (.iconst 1, 1) := by decide +kernel
theorem dX11_wouldCancel_36 : decode cX11_wouldCancel 36 = .ok (.if_icmp .ne 26, 3) := by decide +kernel
theorem dX11_wouldCancel_39 : decode cX11_wouldCancel 39 = .ok (.iconst 0, 1) := by decide +kernel
theorem dX11_wouldCancel_40 : decode cX11_wouldCancel 40 = .ok (.aload_n 0, 1) := by decide +kernel
theorem dX11_wouldCancel_41 : decode cX11_wouldCancel 41 = .ok (.aload_n 2, 1) := by decide +kernel
theorem dX11_wouldCancel_42 : decode cX11_wouldCancel 42 = .ok (.invokevirtual 240, 3) := by decide +kernel
theorem dX11_wouldCancel_45 : decode cX11_wouldCancel 45 = .ok (.aload_n 2, 1) := by decide +kernel
theorem dX11_wouldCancel_46 : decode cX11_wouldCancel 46 = .ok (.getfield 210, 3) := by decide +kernel
theorem dX11_wouldCancel_49 : decode cX11_wouldCancel 49 = .ok (.isub, 1) := by decide +kernel
theorem dX11_wouldCancel_50 : decode cX11_wouldCancel 50 = .ok (.invokestatic 244, 3) := by decide +kernel
theorem dX11_wouldCancel_53 : decode cX11_wouldCancel 53 = .ok (.aload_n 0, 1) := by decide +kernel
theorem dX11_wouldCancel_54 : decode cX11_wouldCancel 54 = .ok (.aload_n 2, 1) := by decide +kernel
theorem dX11_wouldCancel_55 : decode cX11_wouldCancel 55 = .ok (.invokevirtual 264, 3) := by decide +kernel
theorem dX11_wouldCancel_58 : decode cX11_wouldCancel 58 = .ok (.isub, 1) := by decide +kernel
theorem dX11_wouldCancel_59 : decode cX11_wouldCancel 59 = .ok (.goto 8, 3) := by decide +kernel
theorem dX11_wouldCancel_62 : decode cX11_wouldCancel 62 = .ok (.aload_n 0, 1) := by decide +kernel
theorem dX11_wouldCancel_63 : decode cX11_wouldCancel 63 = .ok (.iconst 2, 1) := by decide +kernel
theorem dX11_wouldCancel_64 : decode cX11_wouldCancel 64 = .ok (.invokevirtual 60, 3) := by decide +kernel
theorem dX11_wouldCancel_67 : decode cX11_wouldCancel 67 = .ok (.ireturn, 1) := by decide +kernel
set_option maxRecDepth 20000 in
theorem ggX11_key_X11_isWedding : GoodIn wsX11_key wsX11_isWedding := goodIn_r _ [7, 8, 9, 10, 11, 12, 13, 14, 15, 16, 6, 17, 113, 114, 115, 116, 117, 118, 119, 120, 121, 122, 123, 124, 125, 126, 127, 128] rfl (by decide +kernel)
set_option maxRecDepth 20000 in
theorem gX11_key_X11_isWedding : GoodIn wsX11_key (wsV RX11 216 RX11 yX11_isWedding wsX11_isWedding) := goodIn_app (goodIn_of _ (by decide +kernel)) ggX11_key_X11_isWedding
set_option maxRecDepth 20000 in
theorem ggX11_key_X11_refuse : GoodIn wsX11_key wsX11_refuse := goodIn_r _ [21, 1, 113, 114, 115, 116, 117, 118, 119, 120, 121, 122, 123, 124, 125] rfl (by decide +kernel)
set_option maxRecDepth 20000 in
theorem gX11_key_X11_refuse : GoodIn wsX11_key (wsV RX11 60 RX11 yX11_refuse wsX11_refuse) := goodIn_app (goodIn_of _ (by decide +kernel)) ggX11_key_X11_refuse
set_option maxRecDepth 20000 in
theorem ggX11_key_X11_best : GoodIn wsX11_key wsX11_best := goodIn_r _ [25, 8, 26, 27, 28, 29, 12, 30, 14, 31, 32, 33, 34, 35, 36, 37, 38, 39, 40, 41, 42, 43, 44, 45, 46, 6, 47, 2, 9, 10, 11, 13, 48, 49, 50, 51, 52, 53, 54, 55, 56, 57, 58, 59, 60, 61, 62, 63, 64, 65, 66, 67, 68, 69, 70, 71, 72, 73, 74, 75, 76, 77, 78, 79, 80, 81, 82, 83, 84, 85, 86, 87, 88, 89, 90, 91, 92, 93, 94, 95, 96, 97, 98, 99, 100, 101, 102, 103, 104, 105, 106, 107, 108, 109, 110, 111, 112, 113, 114, 115, 116, 117, 118, 119, 120, 121, 122, 123, 124, 125, 126, 127, 128, 129, 130, 131, 132, 133, 134, 135, 136, 137, 138, 139, 140, 141, 142, 143, 144, 145, 146, 147, 148] rfl (by decide +kernel)
set_option maxRecDepth 20000 in
theorem gX11_key_X11_best : GoodIn wsX11_key (wsV RX11 200 RX11 yX11_best wsX11_best) := goodIn_app (goodIn_of _ (by decide +kernel)) ggX11_key_X11_best
set_option maxRecDepth 20000 in
theorem ggX11_key_Jx4a65c_size_8abf5 : GoodIn wsX11_key wsJx4a65c_size_8abf5 := goodIn_r _ [13, 14, 126, 127, 128] rfl (by decide +kernel)
set_option maxRecDepth 20000 in
theorem gX11_key_Jx4a65c_size_8abf5 : GoodIn wsX11_key (wsV RX11 48 RJx4a65c yJx4a65c_size_8abf5 wsJx4a65c_size_8abf5) := goodIn_app (goodIn_of _ (by decide +kernel)) ggX11_key_Jx4a65c_size_8abf5
theorem dX11_key_0 : decode cX11_key 0 = .ok (.aload_n 0, 1) := by decide +kernel
theorem dX11_key_1 : decode cX11_key 1 = .ok (.iconst 0, 1) := by decide +kernel
theorem dX11_key_2 : decode cX11_key 2 = .ok (.putfield 44, 3) := by decide +kernel
theorem dX11_key_5 : decode cX11_key 5 = .ok (.aload_n 0, 1) := by decide +kernel
theorem dX11_key_6 : decode cX11_key 6 = .ok (.iload_n 1, 1) := by decide +kernel
theorem dX11_key_7 : decode cX11_key 7 = .ok (.invokevirtual 216, 3) := by decide +kernel
theorem dX11_key_10 : decode cX11_key 10 = .ok (.ifCond .ne 9, 3) := by decide +kernel
theorem dX11_key_13 : decode cX11_key 13 = .ok (.aload_n 0, 1) := by decide +kernel
theorem dX11_key_14 : decode cX11_key 14 = .ok (.iconst 1, 1) := by decide +kernel
theorem dX11_key_15 : decode cX11_key 15 = .ok (.invokevirtual 60, 3) := by decide +kernel
theorem dX11_key_18 : decode cX11_key 18 = .ok (.ireturn, 1) := by decide +kernel
theorem dX11_key_19 : decode cX11_key 19 = .ok (.aload_n 0, 1) := by decide +kernel
theorem dX11_key_20 : decode cX11_key 20 = .ok (.iload_n 1, 1) := by decide +kernel
theorem dX11_key_21 : decode cX11_key 21 = .ok (.iconst 0, 1) := by decide +kernel
theorem dX11_key_22 : decode cX11_key 22 = .ok (.iconst 0, 1) := by decide +kernel
theorem dX11_key_23 : decode cX11_key 23 = .ok (.invokevirtual 200, 3) := by decide +kernel
theorem dX11_key_26 : decode cX11_key 26 = .ok (.iconst (-1), 1) := by decide +kernel
theorem dX11_key_27 : decode cX11_key 27 = .ok (.if_icmp .ne 5, 3) := by decide +kernel
theorem dX11_key_30 : decode cX11_key 30 = .ok (.iconst (-1), 1) := by decide +kernel
theorem dX11_key_31 : decode cX11_key 31 = .ok (.ireturn, 1) := by decide +kernel
theorem dX11_key_32 : decode cX11_key 32 = .ok (.iconst 0, 1) := by decide +kernel
theorem dX11_key_33 : decode cX11_key 33 = .ok (.istore_n 2, 1) := by decide +kernel
theorem dX11_key_34 : decode cX11_key 34 = .ok (.iload_n 2, 1) := by decide +kernel
theorem dX11_key_35 : decode cX11_key 35 = .ok (.aload_n 0, 1) := by decide +kernel
theorem dX11_key_36 : decode cX11_key 36 = .ok (.getfield 10, 3) := by decide +kernel
theorem dX11_key_39 : decode cX11_key 39 = .ok (.invokevirtual 48, 3) := by decide +kernel
theorem dX11_key_42 : decode cX11_key 42 = .ok (.if_icmp .ge 24, 3) := by decide +kernel
theorem dX11_key_45 : decode cX11_key 45 = .ok (.aload_n 0, 1) := by decide +kernel
theorem dX11_key_46 : decode cX11_key 46 = .ok (.iload_n 1, 1) := by decide +kernel
theorem dX11_key_47 : decode cX11_key 47 = .ok (.iconst 1, 1) := by decide +kernel
theorem dX11_key_48 : decode cX11_key 48 = .ok (.iload_n 2, 1) := by decide +kernel
theorem dX11_key_49 : decode cX11_key 49 = .ok (.ishl, 1) := by decide +kernel
theorem dX11_key_50 : decode cX11_key 50 = .ok (.iconst 0, 1) := by decide +kernel
theorem dX11_key_51 : decode cX11_key 51 = .ok (.invokevirtual 200, 3) := by decide +kernel
theorem dX11_key_54 : decode cX11_key 54 = .ok (.iconst (-1), 1) := by decide +kernel
theorem dX11_key_55 : decode cX11_key 55 = .ok (.if_icmp .ne 5, 3) := by decide +kernel
theorem dX11_key_58 : decode cX11_key 58 = .ok (.iload_n 2, 1) := by decide +kernel
theorem dX11_key_59 : decode cX11_key 59 = .ok (.ireturn, 1) := by decide +kernel
theorem dX11_key_60 : decode cX11_key 60 = .ok (.iinc 2 1, 3) := by decide +kernel
theorem dX11_key_63 : decode cX11_key 63 = .ok (.goto (-29), 3) := by decide +kernel
theorem dX11_key_66 : decode cX11_key 66 = .ok (.iconst (-1), 1) := by decide +kernel
theorem dX11_key_67 : decode cX11_key 67 = .ok (.ireturn, 1) := by decide +kernel
set_option maxRecDepth 20000 in
theorem ggX11_isSoundNow_Jx4a65c_size_8abf5 : GoodIn wsX11_isSoundNow wsJx4a65c_size_8abf5 := goodIn_r _ [10, 11, 109, 110, 111] rfl (by decide +kernel)
set_option maxRecDepth 20000 in
theorem gX11_isSoundNow_Jx4a65c_size_8abf5 : GoodIn wsX11_isSoundNow (wsV RX11 48 RJx4a65c yJx4a65c_size_8abf5 wsJx4a65c_size_8abf5) := goodIn_app (goodIn_of _ (by decide +kernel)) ggX11_isSoundNow_Jx4a65c_size_8abf5
set_option maxRecDepth 20000 in
theorem ggX11_isSoundNow_Jx4a65c_get_915e3 : GoodIn wsX11_isSoundNow wsJx4a65c_get_915e3 := goodIn_r _ [15, 11, 16, 17, 18, 19, 20, 21, 22, 23, 24, 25, 26, 9, 27, 28, 109, 110, 111] rfl (by decide +kernel)
set_option maxRecDepth 20000 in
theorem gX11_isSoundNow_Jx4a65c_get_915e3 : GoodIn wsX11_isSoundNow (wsV RX11 90 RJx4a65c yJx4a65c_get_915e3 wsJx4a65c_get_915e3) := goodIn_app (goodIn_of _ (by decide +kernel)) ggX11_isSoundNow_Jx4a65c_get_915e3
set_option maxRecDepth 20000 in
theorem ggX11_isSoundNow_J6_bitCount_0f7a4 : GoodIn wsX11_isSoundNow wsJ6_bitCount_0f7a4 := goodIn_r _ [32, 33, 34, 35] rfl (by decide +kernel)
set_option maxRecDepth 20000 in
theorem gX11_isSoundNow_J6_bitCount_0f7a4 : GoodIn wsX11_isSoundNow (va_wsS RX11 94 yJ6_bitCount_0f7a4 wsJ6_bitCount_0f7a4) := goodIn_app (goodIn_of _ (by decide +kernel)) ggX11_isSoundNow_J6_bitCount_0f7a4
set_option maxRecDepth 20000 in
theorem ggX11_isSoundNow_J6_intValue_8abf5 : GoodIn wsX11_isSoundNow wsJ6_intValue_8abf5 := goodIn_r _ [39, 40, 112] rfl (by decide +kernel)
set_option maxRecDepth 20000 in
theorem gX11_isSoundNow_J6_intValue_8abf5 : GoodIn wsX11_isSoundNow (wsV RX11 177 RJ6 yJ6_intValue_8abf5 wsJ6_intValue_8abf5) := goodIn_app (goodIn_of _ (by decide +kernel)) ggX11_isSoundNow_J6_intValue_8abf5
set_option maxRecDepth 20000 in
theorem ggX11_isSoundNow_X11_needed_ : GoodIn wsX11_isSoundNow wsX11_needed_ := goodIn_r _ [44, 45, 46, 43, 47] rfl (by decide +kernel)
set_option maxRecDepth 20000 in
theorem gX11_isSoundNow_X11_needed_ : GoodIn wsX11_isSoundNow (va_wsS RX11 116 yX11_needed_ wsX11_needed_) := goodIn_app (goodIn_of _ (by decide +kernel)) ggX11_isSoundNow_X11_needed_
set_option maxRecDepth 20000 in
theorem ggX11_isSoundNow_X11_share : GoodIn wsX11_isSoundNow wsX11_share := goodIn_r _ [51, 52, 53, 84, 85, 86, 87, 88, 89, 90, 91, 92, 93, 94, 95, 96] rfl (by decide +kernel)
set_option maxRecDepth 20000 in
theorem gX11_isSoundNow_X11_share : GoodIn wsX11_isSoundNow (wsV RX11 299 RX11 yX11_share wsX11_share) := goodIn_app (goodIn_of _ (by decide +kernel)) ggX11_isSoundNow_X11_share
set_option maxRecDepth 20000 in
theorem ggX11_isSoundNow_X11_deskNow : GoodIn wsX11_isSoundNow wsX11_deskNow := goodIn_r _ [57, 58, 59, 3, 1, 2, 5, 60, 6, 7, 8, 9, 10, 11, 12, 13, 14, 15, 16, 17, 18, 19, 20, 21, 22, 23, 24, 25, 26, 27, 28, 29, 30, 31, 32, 33, 34, 35, 61, 62, 63, 43, 64, 65, 66, 67, 68, 69, 70, 71, 72, 73, 74, 75, 76, 77, 78, 79, 80, 81, 82, 83, 84, 85, 86, 87, 88, 89, 90, 91, 92, 93, 94, 95, 96, 97, 98, 99, 100, 101, 102, 103, 104, 105, 106, 107, 108, 113, 114, 115, 116, 117, 118, 119, 109, 110, 111] rfl (by decide +kernel)
set_option maxRecDepth 20000 in
theorem gX11_isSoundNow_X11_deskNow : GoodIn wsX11_isSoundNow (wsV RX11 351 RX11 yX11_deskNow wsX11_deskNow) := goodIn_app (goodIn_of _ (by decide +kernel)) ggX11_isSoundNow_X11_deskNow
theorem dX11_isSoundNow_0 : decode cX11_isSoundNow 0 = .ok (.iconst 0, 1) := by decide +kernel
theorem dX11_isSoundNow_1 : decode cX11_isSoundNow 1 = .ok (.istore_n 1, 1) := by decide +kernel
theorem dX11_isSoundNow_2 : decode cX11_isSoundNow 2 = .ok (.iconst 0, 1) := by decide +kernel
theorem dX11_isSoundNow_3 : decode cX11_isSoundNow 3 = .ok (.istore_n 2, 1) := by decide +kernel
theorem dX11_isSoundNow_4 : decode cX11_isSoundNow 4 = .ok (.iconst 0, 1) := by decide +kernel
theorem dX11_isSoundNow_5 : decode cX11_isSoundNow 5 = .ok (.istore_n 3, 1) := by decide +kernel
theorem dX11_isSoundNow_6 : decode cX11_isSoundNow 6 = .ok (.iload_n 3, 1) := by decide +kernel
theorem dX11_isSoundNow_7 : decode cX11_isSoundNow 7 = .ok (.aload_n 0, 1) := by decide +kernel
theorem dX11_isSoundNow_8 : decode cX11_isSoundNow 8 = .ok (.getfield 19, 3) := by decide +kernel
theorem dX11_isSoundNow_11 : decode cX11_isSoundNow 11 = .ok (.invokevirtual 48, 3) := by decide +kernel
theorem dX11_isSoundNow_14 : decode cX11_isSoundNow 14 = .ok (.if_icmp .ge 142, 3) := by decide +kernel
theorem dX11_isSoundNow_17 : decode cX11_isSoundNow 17 = .ok (.aload_n 0, 1) := by decide +kernel
theorem dX11_isSoundNow_18 : decode cX11_isSoundNow 18 = .ok (.getfield 19, 3) := by decide +kernel
theorem dX11_isSoundNow_21 : decode cX11_isSoundNow 21 = .ok (.iload_n 3, 1) := by decide +kernel
theorem dX11_isSoundNow_22 : decode cX11_isSoundNow 22 = .ok (.invokevirtual 90, 3) := by decide +kernel
theorem dX11_isSoundNow_25 : decode cX11_isSoundNow 25 = .ok (.checkcast 122, 3) := by decide +kernel
theorem dX11_isSoundNow_28 : decode cX11_isSoundNow 28 = .ok (.astore 4, 2) := by decide +kernel
theorem dX11_isSoundNow_30 : decode cX11_isSoundNow 30 = .ok (.iload_n 1, 1) := by decide +kernel
theorem dX11_isSoundNow_31 : decode cX11_isSoundNow 31 = .ok (.aload 4, 2) := by decide +kernel
theorem dX11_isSoundNow_33 : decode cX11_isSoundNow 33 = .ok (.getfield 210, 3) := by decide +kernel
theorem dX11_isSoundNow_36 : decode cX11_isSoundNow 36 = .ok (.iadd, 1) := by decide +kernel
theorem dX11_isSoundNow_37 : decode cX11_isSoundNow 37 = .ok (.istore_n 1, 1) := by decide +kernel
theorem dX11_isSoundNow_38 : decode cX11_isSoundNow 38 = .ok (.aload 4, 2) := by decide +kernel
theorem dX11_isSoundNow_40 : decode cX11_isSoundNow 40 = .ok (.getfield 124, 3) := by decide +kernel
theorem dX11_isSoundNow_43 : decode cX11_isSoundNow 43 = .ok (.iconst 1, 1) := by decide +kernel
theorem dX11_isSoundNow_44 : decode cX11_isSoundNow 44 = .ok (.if_icmp .eq 6, 3) := by decide +kernel
theorem dX11_isSoundNow_47 : decode cX11_isSoundNow 47 = .ok (.goto 103, 3) := by decide +kernel
theorem dX11_isSoundNow_50 : decode cX11_isSoundNow 50 = .ok (.aload 4, 2) := by decide +kernel
theorem dX11_isSoundNow_52 : decode cX11_isSoundNow 52 = .ok (.getfield 160, 3) := by decide +kernel
theorem dX11_isSoundNow_55 : decode cX11_isSoundNow 55 = .ok (.invokestatic 94, 3) := by decide +kernel
theorem dX11_isSoundNow_58 : decode cX11_isSoundNow 58 = .ok (.aload_n 0, 1) := by decide +kernel
theorem dX11_isSoundNow_59 : decode cX11_isSoundNow 59 = .ok (.getfield 16, 3) := by decide +kernel
theorem dX11_isSoundNow_62 : decode cX11_isSoundNow 62 = .ok (.aload 4, 2) := by decide +kernel
theorem dX11_isSoundNow_64 : decode cX11_isSoundNow 64 = .ok (.getfield 127, 3) := by decide +kernel
theorem dX11_isSoundNow_67 : decode cX11_isSoundNow 67 = .ok (.invokevirtual 90, 3) := by decide +kernel
theorem dX11_isSoundNow_70 : decode cX11_isSoundNow 70 = .ok (.checkcast 95, 3) := by decide +kernel
theorem dX11_isSoundNow_73 : decode cX11_isSoundNow 73 = .ok (.invokevirtual 177, 3) := by decide +kernel
theorem dX11_isSoundNow_76 : decode cX11_isSoundNow 76 = .ok (.invokestatic 116, 3) := by decide +kernel
theorem dX11_isSoundNow_79 : decode cX11_isSoundNow 79 = .ok (.if_icmp .eq 5, 3) := by decide +kernel
theorem dX11_isSoundNow_82 : decode cX11_isSoundNow 82 = .ok (.iconst 0, 1) := by decide +kernel
theorem dX11_isSoundNow_83 : decode cX11_isSoundNow 83 = .ok (.ireturn, 1) := by decide +kernel
theorem dX11_isSoundNow_84 : decode cX11_isSoundNow 84 = .ok (.iconst 0, 1) := by decide +kernel
theorem dX11_isSoundNow_85 : decode cX11_isSoundNow 85 = .ok (.istore 5, 2) := by decide +kernel
theorem dX11_isSoundNow_87 : decode cX11_isSoundNow 87 = .ok (.iload 5, 2) := by decide +kernel
theorem dX11_isSoundNow_89 : decode cX11_isSoundNow 89 = .ok (.iload_n 3, 1) := by decide +kernel
theorem dX11_isSoundNow_90 : decode cX11_isSoundNow 90 = .ok (.if_icmp .ge 60, 3) := by decide +kernel
theorem dX11_isSoundNow_93 : decode cX11_isSoundNow 93 = .ok (.aload_n 0, 1) := by decide +kernel
theorem dX11_isSoundNow_94 : decode cX11_isSoundNow 94 = .ok (.getfield 19, 3) := by decide +kernel
theorem dX11_isSoundNow_97 : decode cX11_isSoundNow 97 = .ok (.iload 5, 2) := by decide +kernel
theorem dX11_isSoundNow_99 : decode cX11_isSoundNow 99 = .ok (.invokevirtual 90, 3) := by decide +kernel
theorem dX11_isSoundNow_102 : decode cX11_isSoundNow 102 = .ok (.checkcast 122, 3) := by decide +kernel
theorem dX11_isSoundNow_105 : decode cX11_isSoundNow 105 = .ok (.astore 6, 2) := by decide +kernel
theorem dX11_isSoundNow_107 : decode cX11_isSoundNow 107 = .ok (.aload 6, 2) := by decide +kernel
theorem dX11_isSoundNow_109 : decode cX11_isSoundNow 109 = .ok (.getfield 124, 3) := by decide +kernel
theorem dX11_isSoundNow_112 : decode cX11_isSoundNow 112 = .ok (.iconst 1, 1) := by decide +kernel
theorem dX11_isSoundNow_113 : decode cX11_isSoundNow 113 = .ok (.if_icmp .ne 31, 3) := by decide +kernel
theorem dX11_isSoundNow_116 : decode cX11_isSoundNow 116 = .ok (.aload 6, 2) := by decide +kernel
theorem dX11_isSoundNow_118 : decode cX11_isSoundNow 118 = .ok (.getfield 127, 3) := by decide +kernel
theorem dX11_isSoundNow_121 : decode cX11_isSoundNow 121 = .ok (.aload 4, 2) := by decide +kernel
theorem dX11_isSoundNow_123 : decode cX11_isSoundNow 123 = .ok (.getfield 127, 3) := by decide +kernel
theorem dX11_isSoundNow_126 : decode cX11_isSoundNow 126 = .ok (.if_icmp .ne 18, 3) := by decide +kernel
theorem dX11_isSoundNow_129 : decode cX11_isSoundNow 129 = .ok (.aload 6, 2) := by decide +kernel
theorem dX11_isSoundNow_131 : decode cX11_isSoundNow 131 = .ok (.getfield 130, 3) := by decide +kernel
theorem dX11_isSoundNow_134 : decode cX11_isSoundNow 134 = .ok (.aload 4, 2) := by decide +kernel
theorem dX11_isSoundNow_136 : decode cX11_isSoundNow 136 = .ok (.getfield 130, 3) := by decide +kernel
theorem dX11_isSoundNow_139 : decode cX11_isSoundNow 139 = .ok (.if_icmp .ne 5, 3) := by decide +kernel
theorem dX11_isSoundNow_142 : decode cX11_isSoundNow 142 = .ok (.iconst 0, 1) := by decide +kernel
theorem dX11_isSoundNow_143 : decode cX11_isSoundNow 143 = .ok (.ireturn, 1) := by decide +kernel
theorem dX11_isSoundNow_144 : decode cX11_isSoundNow 144 = .ok (.iinc 5 1, 3) := by decide +kernel
theorem dX11_isSoundNow_147 : decode cX11_isSoundNow 147 = .ok (.goto (-60), 3) := by decide +kernel
theorem dX11_isSoundNow_150 : decode cX11_isSoundNow 150 = .ok (.iinc 3 1, 3) := by decide +kernel
theorem dX11_isSoundNow_153 : decode cX11_isSoundNow 153 = .ok (.goto (-147), 3) := by decide +kernel
theorem dX11_isSoundNow_156 : decode cX11_isSoundNow 156 = .ok (.iconst 0, 1) := by decide +kernel
theorem dX11_isSoundNow_157 : decode cX11_isSoundNow 157 = .ok (.istore_n 3, 1) := by decide +kernel
theorem dX11_isSoundNow_158 : decode cX11_isSoundNow 158 = .ok (.iload_n 3, 1) := by decide +kernel
theorem dX11_isSoundNow_159 : decode cX11_isSoundNow 159 = .ok (.bipush 16, 2) := by decide +kernel
theorem dX11_isSoundNow_161 : decode cX11_isSoundNow 161 = .ok (.if_icmp .ge 17, 3) := by decide +kernel
theorem dX11_isSoundNow_164 : decode cX11_isSoundNow 164 = .ok (.iload_n 2, 1) := by decide +kernel
theorem dX11_isSoundNow_165 : decode cX11_isSoundNow 165 = .ok (.aload_n 0, 1) := by decide +kernel
theorem dX11_isSoundNow_166 : decode cX11_isSoundNow 166 = .ok (.iload_n 3, 1) := by decide +kernel
theorem dX11_isSoundNow_167 : decode cX11_isSoundNow 167 = .ok (.invokevirtual 299, 3) := by decide +kernel
theorem dX11_isSoundNow_170 : decode cX11_isSoundNow 170 = .ok (.iadd, 1) := by decide +kernel
theorem dX11_isSoundNow_171 : decode cX11_isSoundNow 171 = .ok (.istore_n 2, 1) := by decide +kernel
theorem dX11_isSoundNow_172 : decode cX11_isSoundNow 172 = .ok (.iinc 3 1, 3) := by decide +kernel
theorem dX11_isSoundNow_175 : decode cX11_isSoundNow 175 = .ok (.goto (-17), 3) := by decide +kernel
theorem dX11_isSoundNow_178 : decode cX11_isSoundNow 178 = .ok (.aload_n 0, 1) := by decide +kernel
theorem dX11_isSoundNow_179 : decode cX11_isSoundNow 179 = .ok (.getfield 213, 3) := by decide +kernel
theorem dX11_isSoundNow_182 : decode cX11_isSoundNow 182 = .ok (.iload_n 1, 1) := by decide +kernel
theorem dX11_isSoundNow_183 : decode cX11_isSoundNow 183 = .ok (.aload_n 0, 1) := by decide +kernel
theorem dX11_isSoundNow_184 : decode cX11_isSoundNow 184 = .ok (.bipush 10, 2) := by decide +kernel
theorem dX11_isSoundNow_186 : decode cX11_isSoundNow 186 = .ok (.invokevirtual 351, 3) := by decide +kernel
theorem dX11_isSoundNow_189 : decode cX11_isSoundNow 189 = .ok (.isub, 1) := by decide +kernel
theorem dX11_isSoundNow_190 : decode cX11_isSoundNow 190 = .ok (.if_icmp .ne 14, 3) := by decide +kernel
theorem dX11_isSoundNow_193 : decode cX11_isSoundNow 193 = .ok (.iload_n 2, 1) := by decide +kernel
theorem dX11_isSoundNow_194 : decode cX11_isSoundNow 194 = .ok (.sipush 1000, 3) := by decide +kernel
theorem dX11_isSoundNow_197 : decode cX11_isSoundNow 197 = .ok (.if_icmp .gt 7, 3) := by decide +kernel
theorem dX11_isSoundNow_200 : decode cX11_isSoundNow 200 = .ok (.iconst 1, 1) := by decide +kernel
theorem dX11_isSoundNow_201 : decode cX11_isSoundNow 201 = .ok (.goto 4, 3) := by decide +kernel
theorem dX11_isSoundNow_204 : decode cX11_isSoundNow 204 = .ok (.iconst 0, 1) := by decide +kernel
theorem dX11_isSoundNow_205 : decode cX11_isSoundNow 205 = .ok (.ireturn, 1) := by decide +kernel
set_option maxRecDepth 20000 in
theorem ggX11_isSound_X11_isSoundNow : GoodIn wsX11_isSound wsX11_isSoundNow := goodIn_r _ [6, 7, 8, 9, 10, 11, 12, 13, 14, 15, 16, 17, 18, 19, 20, 21, 22, 23, 24, 25, 26, 27, 28, 29, 30, 31, 32, 33, 34, 35, 36, 37, 38, 39, 40, 41, 42, 43, 44, 45, 46, 47, 48, 5, 49, 50, 51, 52, 53, 54, 55, 56, 57, 58, 59, 60, 61, 62, 63, 64, 65, 66, 67, 68, 69, 70, 71, 72, 73, 74, 75, 76, 77, 78, 79, 80, 81, 82, 83, 84, 85, 86, 87, 88, 89, 90, 91, 92, 93, 94, 95, 96, 97, 98, 99, 100, 101, 102, 103, 104, 105, 106, 107, 108, 109, 110, 111, 112, 113, 114, 115, 116, 117, 118, 119, 120, 121, 122, 123, 124] rfl (by decide +kernel)
set_option maxRecDepth 20000 in
theorem gX11_isSound_X11_isSoundNow : GoodIn wsX11_isSound (wsV RX11 377 RX11 yX11_isSoundNow wsX11_isSoundNow) := goodIn_app (goodIn_of _ (by decide +kernel)) ggX11_isSound_X11_isSoundNow
theorem dX11_isSound_0 : decode cX11_isSound 0 = .ok (.aload_n 0, 1) := by decide +kernel
theorem dX11_isSound_1 : decode cX11_isSound 1 = .ok (.iconst 0, 1) := by decide +kernel
theorem dX11_isSound_2 : decode cX11_isSound 2 = .ok (.putfield 44, 3) := by decide +kernel
theorem dX11_isSound_5 : decode cX11_isSound 5 = .ok (.aload_n 0, 1) := by decide +kernel
theorem dX11_isSound_6 : decode cX11_isSound 6 = .ok (.invokevirtual 377, 3) := by decide +kernel
theorem dX11_isSound_9 : decode cX11_isSound 9 = .ok (.ireturn, 1) := by decide +kernel
theorem dX11_add_0 : decode cX11_add 0 = .ok (.aload_n 0, 1) := by decide +kernel
theorem dX11_add_1 : decode cX11_add 1 = .ok (.aload_n 0, 1) := by decide +kernel
theorem dX11_add_2 : decode cX11_add 2 = .ok (.getfield 380, 3) := by decide +kernel
theorem dX11_add_5 : decode cX11_add 5 = .ok (.ldc2_w 384, 3) := by decide +kernel
theorem dX11_add_8 : decode cX11_add 8 = .ok (.lmul, 1) := by decide +kernel
theorem dX11_add_9 : decode cX11_add 9 = .ok (.lload_n 1, 1) := by decide +kernel
theorem dX11_add_10 : decode cX11_add 10 = .ok (.ladd, 1) := by decide +kernel
theorem dX11_add_11 : decode cX11_add 11 = .ok (.putfield 380, 3) := by decide +kernel
theorem dX11_add_14 : decode cX11_add 14 = .ok (.return_, 1) := by decide +kernel
set_option maxRecDepth 20000 in
theorem ggX11_digest_X11_deskNow : GoodIn wsX11_digest wsX11_deskNow := goodIn_r _ [12, 13, 4, 5, 6, 7, 14, 15, 16, 17, 18, 19, 20, 21, 22, 23, 24, 25, 26, 27, 28, 29, 30, 31, 32, 33, 34, 35, 36, 37, 38, 39, 40, 41, 42, 43, 44, 45, 46, 47, 48, 11, 49, 50, 51, 52, 53, 54, 55, 56, 57, 58, 59, 60, 61, 62, 63, 64, 65, 66, 67, 68, 208, 209, 210, 211, 212, 213, 214, 215, 216, 217, 218, 219, 220, 221, 222, 223, 224, 225, 226, 227, 228, 229, 230, 231, 232, 233, 234, 235, 236, 237, 238, 239, 240, 241, 242] rfl (by decide +kernel)
set_option maxRecDepth 20000 in
theorem gX11_digest_X11_deskNow : GoodIn wsX11_digest (wsV RX11 351 RX11 yX11_deskNow wsX11_deskNow) := goodIn_app (goodIn_of _ (by decide +kernel)) ggX11_digest_X11_deskNow
set_option maxRecDepth 20000 in
theorem ggX11_digest_X11_add : GoodIn wsX11_digest wsX11_add := goodIn_r _ [72, 3, 73, 208, 209, 210, 211, 212, 213, 214, 215, 216, 217, 218, 219, 220] rfl (by decide +kernel)
set_option maxRecDepth 20000 in
theorem gX11_digest_X11_add : GoodIn wsX11_digest (wsV RX11 388 RX11 yX11_add wsX11_add) := goodIn_app (goodIn_of _ (by decide +kernel)) ggX11_digest_X11_add
set_option maxRecDepth 20000 in
theorem ggX11_digest_Jx4a65c_size_8abf5 : GoodIn wsX11_digest wsJx4a65c_size_8abf5 := goodIn_r _ [20, 21, 240, 241, 242] rfl (by decide +kernel)
set_option maxRecDepth 20000 in
theorem gX11_digest_Jx4a65c_size_8abf5 : GoodIn wsX11_digest (wsV RX11 48 RJx4a65c yJx4a65c_size_8abf5 wsJx4a65c_size_8abf5) := goodIn_app (goodIn_of _ (by decide +kernel)) ggX11_digest_Jx4a65c_size_8abf5
set_option maxRecDepth 20000 in
theorem ggX11_digest_X11_ofPlayerNow : GoodIn wsX11_digest wsX11_ofPlayerNow := goodIn_r _ [77, 4, 15, 22, 23, 24, 19, 25, 21, 26, 27, 28, 29, 30, 31, 32, 33, 34, 35, 36, 37, 38, 61, 62, 63, 11, 64, 65, 6, 7, 16, 17, 18, 20, 66, 67, 68, 208, 209, 210, 211, 212, 213, 214, 215, 216, 217, 218, 219, 220, 233, 234, 235, 236, 237, 238, 239, 240, 241, 242, 221, 222, 223, 224, 225, 226, 227, 228, 229, 230, 231, 232] rfl (by decide +kernel)
set_option maxRecDepth 20000 in
theorem gX11_digest_X11_ofPlayerNow : GoodIn wsX11_digest (wsV RX11 296 RX11 yX11_ofPlayerNow wsX11_ofPlayerNow) := goodIn_app (goodIn_of _ (by decide +kernel)) ggX11_digest_X11_ofPlayerNow
set_option maxRecDepth 20000 in
theorem ggX11_digest_X11_ofSongNow : GoodIn wsX11_digest wsX11_ofSongNow := goodIn_r _ [81, 4, 15, 82, 83, 84, 85, 16, 17, 18, 19, 20, 21, 22, 23, 24, 25, 26, 27, 28, 29, 30, 31, 32, 33, 34, 35, 36, 37, 38, 66, 67, 11, 68, 86, 87, 88, 89, 208, 209, 210, 211, 212, 213, 214, 215, 216, 217, 218, 219, 220, 233, 234, 235, 236, 237, 238, 239, 240, 241, 242] rfl (by decide +kernel)
set_option maxRecDepth 20000 in
theorem gX11_digest_X11_ofSongNow : GoodIn wsX11_digest (wsV RX11 302 RX11 yX11_ofSongNow wsX11_ofSongNow) := goodIn_app (goodIn_of _ (by decide +kernel)) ggX11_digest_X11_ofSongNow
set_option maxRecDepth 20000 in
theorem ggX11_digest_X11_ofBandNow : GoodIn wsX11_digest wsX11_ofBandNow := goodIn_r _ [93, 5, 94, 6, 7, 22, 23, 24, 19, 25, 21, 26, 27, 28, 29, 30, 31, 32, 33, 34, 35, 36, 37, 38, 95, 96, 97, 41, 98, 99, 100, 101, 11, 102, 103, 104, 105, 16, 17, 18, 20, 208, 209, 210, 211, 212, 213, 214, 215, 216, 217, 218, 219, 220, 221, 222, 223, 224, 225, 226, 227, 228, 229, 230, 231, 232, 240, 241, 242, 243] rfl (by decide +kernel)
set_option maxRecDepth 20000 in
theorem gX11_digest_X11_ofBandNow : GoodIn wsX11_digest (wsV RX11 305 RX11 yX11_ofBandNow wsX11_ofBandNow) := goodIn_app (goodIn_of _ (by decide +kernel)) ggX11_digest_X11_ofBandNow
set_option maxRecDepth 20000 in
theorem ggX11_digest_X11_ofWeddingNow : GoodIn wsX11_digest wsX11_ofWeddingNow := goodIn_r _ [109, 6, 7, 22, 23, 24, 19, 25, 21, 26, 27, 28, 29, 30, 31, 32, 33, 34, 35, 36, 37, 38, 110, 111, 112, 11, 113, 114, 115, 116, 117, 118, 119, 120, 121, 122, 55, 52, 56, 208, 209, 210, 211, 212, 213, 214, 215, 216, 217, 218, 219, 220, 221, 222, 223, 224, 225, 226, 227, 228, 229, 230, 231, 232, 240, 241, 242] rfl (by decide +kernel)
set_option maxRecDepth 20000 in
theorem gX11_digest_X11_ofWeddingNow : GoodIn wsX11_digest (wsV RX11 308 RX11 yX11_ofWeddingNow wsX11_ofWeddingNow) := goodIn_app (goodIn_of _ (by decide +kernel)) ggX11_digest_X11_ofWeddingNow
set_option maxRecDepth 20000 in
theorem ggX11_digest_Jx4a65c_get_915e3 : GoodIn wsX11_digest wsJx4a65c_get_915e3 := goodIn_r _ [25, 21, 26, 27, 28, 29, 30, 31, 32, 33, 34, 35, 36, 19, 37, 38, 240, 241, 242] rfl (by decide +kernel)
set_option maxRecDepth 20000 in
theorem gX11_digest_Jx4a65c_get_915e3 : GoodIn wsX11_digest (wsV RX11 90 RJx4a65c yJx4a65c_get_915e3 wsJx4a65c_get_915e3) := goodIn_app (goodIn_of _ (by decide +kernel)) ggX11_digest_Jx4a65c_get_915e3
set_option maxRecDepth 20000 in
theorem ggX11_digest_X11_fillingNow : GoodIn wsX11_digest wsX11_fillingNow := goodIn_r _ [126, 6, 7, 127, 128, 129, 11, 130, 22, 23, 24, 19, 25, 21, 26, 27, 28, 29, 30, 31, 32, 33, 34, 35, 36, 37, 38, 131, 132, 133, 134, 4, 16, 17, 18, 20, 135, 136, 137, 138, 15, 139, 140, 141, 142, 143, 66, 67, 68, 144, 145, 146, 147, 5, 94, 95, 96, 97, 41, 98, 99, 39, 40, 42, 43, 44, 45, 103, 104, 105, 100, 101, 102, 148, 149, 150, 151, 152, 153, 154, 155, 156, 157, 158, 159, 160, 161, 162, 163, 164, 165, 166, 167, 168, 169, 170, 171, 172, 173, 174, 175, 176, 177, 178, 179, 180, 181, 182, 183, 208, 209, 210, 211, 212, 213, 214, 215, 216, 217, 218, 219, 220, 240, 241, 242, 233, 234, 235, 236, 237, 238, 239, 221, 222, 223, 224, 225, 226, 227, 228, 229, 230, 231, 232, 243] rfl (by decide +kernel)
set_option maxRecDepth 20000 in
theorem gX11_digest_X11_fillingNow : GoodIn wsX11_digest (wsV RX11 317 RX11 yX11_fillingNow wsX11_fillingNow) := goodIn_app (goodIn_of _ (by decide +kernel)) ggX11_digest_X11_fillingNow
set_option maxRecDepth 20000 in
theorem ggX11_digest_X11_bestSet : GoodIn wsX11_digest wsX11_bestSet := goodIn_r _ [187, 65, 188, 83, 84, 50, 51, 52, 53, 189, 190, 191, 192, 156, 157, 158, 11, 159, 4, 15, 16, 17, 18, 19, 20, 21, 66, 67, 68, 22, 23, 24, 25, 26, 27, 28, 29, 30, 31, 32, 33, 34, 35, 36, 37, 38, 39, 40, 41, 42, 43, 44, 45, 193, 194, 195, 196, 82, 197, 198, 199, 54, 55, 56, 208, 209, 210, 211, 212, 213, 214, 215, 216, 217, 218, 219, 220, 233, 234, 235, 236, 237, 238, 239, 240, 241, 242] rfl (by decide +kernel)
set_option maxRecDepth 20000 in
theorem gX11_digest_X11_bestSet : GoodIn wsX11_digest (wsV RX11 270 RX11 yX11_bestSet wsX11_bestSet) := goodIn_app (goodIn_of _ (by decide +kernel)) ggX11_digest_X11_bestSet
set_option maxRecDepth 20000 in
theorem ggX11_digest_X11_minutesOf : GoodIn wsX11_digest wsX11_minutesOf := goodIn_r _ [203, 84, 184, 185, 186, 11, 187, 65, 188, 83, 50, 51, 52, 53, 189, 190, 191, 192, 156, 157, 158, 159, 4, 15, 16, 17, 18, 19, 20, 21, 66, 67, 68, 22, 23, 24, 25, 26, 27, 28, 29, 30, 31, 32, 33, 34, 35, 36, 37, 38, 39, 40, 41, 42, 43, 44, 45, 193, 194, 195, 196, 82, 197, 198, 199, 54, 55, 56, 208, 209, 210, 211, 212, 213, 214, 215, 216, 217, 218, 219, 220, 233, 234, 235, 236, 237, 238, 239, 240, 241, 242] rfl (by decide +kernel)
set_option maxRecDepth 20000 in
theorem gX11_digest_X11_minutesOf : GoodIn wsX11_digest (wsV RX11 320 RX11 yX11_minutesOf wsX11_minutesOf) := goodIn_app (goodIn_of _ (by decide +kernel)) ggX11_digest_X11_minutesOf
set_option maxRecDepth 20000 in
theorem ggX11_digest_X11_driveOf : GoodIn wsX11_digest wsX11_driveOf := goodIn_r _ [142, 143, 208, 209, 210, 211, 212, 213, 214, 215, 216, 217, 218, 219, 220] rfl (by decide +kernel)
set_option maxRecDepth 20000 in
theorem gX11_digest_X11_driveOf : GoodIn wsX11_digest (wsV RX11 109 RX11 yX11_driveOf wsX11_driveOf) := goodIn_app (goodIn_of _ (by decide +kernel)) ggX11_digest_X11_driveOf
set_option maxRecDepth 20000 in
theorem ggX11_digest_X11_isSoundNow : GoodIn wsX11_digest wsX11_isSoundNow := goodIn_r _ [207, 6, 7, 5, 94, 14, 16, 17, 18, 19, 20, 21, 22, 23, 24, 25, 26, 27, 28, 29, 30, 31, 32, 33, 34, 35, 36, 37, 38, 39, 40, 41, 42, 43, 44, 45, 95, 96, 97, 98, 99, 103, 104, 11, 105, 100, 101, 102, 86, 87, 88, 89, 84, 85, 8, 9, 10, 12, 13, 4, 15, 46, 47, 48, 49, 50, 51, 52, 53, 54, 55, 56, 57, 58, 59, 60, 61, 62, 63, 64, 65, 66, 67, 68, 208, 209, 210, 211, 212, 213, 214, 215, 216, 217, 218, 219, 220, 221, 222, 223, 224, 225, 226, 227, 228, 229, 230, 231, 232, 240, 241, 242, 243, 233, 234, 235, 236, 237, 238, 239] rfl (by decide +kernel)
set_option maxRecDepth 20000 in
theorem gX11_digest_X11_isSoundNow : GoodIn wsX11_digest (wsV RX11 377 RX11 yX11_isSoundNow wsX11_isSoundNow) := goodIn_app (goodIn_of _ (by decide +kernel)) ggX11_digest_X11_isSoundNow
theorem dX11_digest_0 : decode cX11_digest 0 = .ok (.aload_n 0, 1) := by decide +kernel
theorem dX11_digest_1 : decode cX11_digest 1 = .ok (.iconst 0, 1) := by decide +kernel
theorem dX11_digest_2 : decode cX11_digest 2 = .ok (.putfield 44, 3) := by decide +kernel
theorem dX11_digest_5 : decode cX11_digest 5 = .ok (.aload_n 0, 1) := by decide +kernel
theorem dX11_digest_6 : decode cX11_digest 6 = .ok (.ldc2_w 386, 3) := by decide +kernel
theorem dX11_digest_9 : decode cX11_digest 9 = .ok (.putfield 380, 3) := by decide +kernel
theorem dX11_digest_12 : decode cX11_digest 12 = .ok (.iconst 0, 1) := by decide +kernel
theorem dX11_digest_13 : decode cX11_digest 13 = .ok (.istore_n 1, 1) := by decide +kernel
theorem dX11_digest_14 : decode cX11_digest 14 = .ok (.iload_n 1, 1) := by decide +kernel
theorem dX11_digest_15 : decode cX11_digest 15 = .ok (.bipush 13, 2) := by decide +kernel
theorem dX11_digest_17 : decode cX11_digest 17 = .ok (.if_icmp .ge 19, 3) := by decide +kernel
theorem dX11_digest_20 : decode cX11_digest 20 = .ok (.aload_n 0, 1) := by decide +kernel
theorem dX11_digest_21 : decode cX11_digest 21 = .ok (.aload_n 0, 1) := by decide +kernel
theorem dX11_digest_22 : decode cX11_digest 22 = .ok (.iload_n 1, 1) := by decide +kernel
theorem dX11_digest_23 : decode cX11_digest 23 = .ok (.invokevirtual 351, 3) := by decide +kernel
theorem dX11_digest_26 : decode cX11_digest 26 = .ok (.i2l, 1) := by decide +kernel
theorem dX11_digest_27 : decode cX11_digest 27 = .ok (.invokevirtual 388, 3) := by decide +kernel
theorem dX11_digest_30 : decode cX11_digest 30 = .ok (.iinc 1 1, 3) := by decide +kernel
theorem dX11_digest_33 : decode cX11_digest 33 = .ok (.goto (-19), 3) := by decide +kernel
theorem dX11_digest_36 : decode cX11_digest 36 = .ok (.iconst 0, 1) := by decide +kernel
theorem dX11_digest_37 : decode cX11_digest 37 = .ok (.istore_n 1, 1) := by decide +kernel
theorem dX11_digest_38 : decode cX11_digest 38 = .ok (.iload_n 1, 1) := by decide +kernel
theorem dX11_digest_39 : decode cX11_digest 39 = .ok (.aload_n 0, 1) := by decide +kernel
theorem dX11_digest_40 : decode cX11_digest 40 = .ok (.getfield 10, 3) := by decide +kernel
theorem dX11_digest_43 : decode cX11_digest 43 = .ok (.invokevirtual 48, 3) := by decide +kernel
theorem dX11_digest_46 : decode cX11_digest 46 = .ok (.if_icmp .ge 34, 3) := by decide +kernel
theorem dX11_digest_49 : decode cX11_digest 49 = .ok (.iconst 0, 1) := by decide +kernel
theorem dX11_digest_50 : decode cX11_digest 50 = .ok (.istore_n 2, 1) := by decide +kernel
theorem dX11_digest_51 : decode cX11_digest 51 = .ok (.iload_n 2, 1) := by decide +kernel
theorem dX11_digest_52 : decode cX11_digest 52 = .ok (.bipush 9, 2) := by decide +kernel
theorem dX11_digest_54 : decode cX11_digest 54 = .ok (.if_icmp .ge 20, 3) := by decide +kernel
theorem dX11_digest_57 : decode cX11_digest 57 = .ok (.aload_n 0, 1) := by decide +kernel
theorem dX11_digest_58 : decode cX11_digest 58 = .ok (.aload_n 0, 1) := by decide +kernel
theorem dX11_digest_59 : decode cX11_digest 59 = .ok (.iload_n 1, 1) := by decide +kernel
theorem dX11_digest_60 : decode cX11_digest 60 = .ok (.iload_n 2, 1) := by decide +kernel
theorem dX11_digest_61 : decode cX11_digest 61 = .ok (.invokevirtual 296, 3) := by decide +kernel
theorem dX11_digest_64 : decode cX11_digest 64 = .ok (.i2l, 1) := by decide +kernel
theorem dX11_digest_65 : decode cX11_digest 65 = .ok (.invokevirtual 388, 3) := by decide +kernel
theorem dX11_digest_68 : decode cX11_digest 68 = .ok (.iinc 2 1, 3) := by decide +kernel
theorem dX11_digest_71 : decode cX11_digest 71 = .ok (.goto (-20), 3) := by decide +kernel
theorem dX11_digest_74 : decode cX11_digest 74 = .ok (.iinc 1 1, 3) := by decide +kernel
theorem dX11_digest_77 : decode cX11_digest 77 = .ok (.goto (-39), 3) := by decide +kernel
theorem dX11_digest_80 : decode cX11_digest 80 = .ok (.iconst 0, 1) := by decide +kernel
theorem dX11_digest_81 : decode cX11_digest 81 = .ok (.istore_n 1, 1) := by decide +kernel
theorem dX11_digest_82 : decode cX11_digest 82 = .ok (.iload_n 1, 1) := by decide +kernel
theorem dX11_digest_83 : decode cX11_digest 83 = .ok (.bipush 16, 2) := by decide +kernel
theorem dX11_digest_85 : decode cX11_digest 85 = .ok (.if_icmp .ge 34, 3) := by decide +kernel
theorem dX11_digest_88 : decode cX11_digest 88 = .ok (.iconst 0, 1) := by decide +kernel
theorem dX11_digest_89 : decode cX11_digest 89 = .ok (.istore_n 2, 1) := by decide +kernel
theorem dX11_digest_90 : decode cX11_digest 90 = .ok (.iload_n 2, 1) := by decide +kernel
theorem dX11_digest_91 : decode cX11_digest 91 = .ok (.bipush 6, 2) := by decide +kernel
theorem dX11_digest_93 : decode cX11_digest 93 = .ok (.if_icmp .ge 20, 3) := by decide +kernel
theorem dX11_digest_96 : decode cX11_digest 96 = .ok (.aload_n 0, 1) := by decide +kernel
theorem dX11_digest_97 : decode cX11_digest 97 = .ok (.aload_n 0, 1) := by decide +kernel
theorem dX11_digest_98 : decode cX11_digest 98 = .ok (.iload_n 1, 1) := by decide +kernel
theorem dX11_digest_99 : decode cX11_digest 99 = .ok (.iload_n 2, 1) := by decide +kernel
theorem dX11_digest_100 : decode cX11_digest 100 = .ok (.invokevirtual 302, 3) := by decide +kernel
theorem dX11_digest_103 : decode cX11_digest 103 = .ok (.i2l, 1) := by decide +kernel
theorem dX11_digest_104 : decode cX11_digest 104 = .ok (.invokevirtual 388, 3) := by decide +kernel
theorem dX11_digest_107 : decode cX11_digest 107 = .ok (.iinc 2 1, 3) := by decide +kernel
theorem dX11_digest_110 : decode cX11_digest 110 = .ok (.goto (-20), 3) := by decide +kernel
theorem dX11_digest_113 : decode cX11_digest 113 = .ok (.iinc 1 1, 3) := by decide +kernel
theorem dX11_digest_116 : decode cX11_digest 116 = .ok (.goto (-34), 3) := by decide +kernel
theorem dX11_digest_119 : decode cX11_digest 119 = .ok (.iconst 0, 1) := by decide +kernel
theorem dX11_digest_120 : decode cX11_digest 120 = .ok (.istore_n 1, 1) := by decide +kernel
theorem dX11_digest_121 : decode cX11_digest 121 = .ok (.iload_n 1, 1) := by decide +kernel
theorem dX11_digest_122 : decode cX11_digest 122 = .ok (.aload_n 0, 1) := by decide +kernel
theorem dX11_digest_123 : decode cX11_digest 123 = .ok (.getfield 16, 3) := by decide +kernel
theorem dX11_digest_126 : decode cX11_digest 126 = .ok (.invokevirtual 48, 3) := by decide +kernel
theorem dX11_digest_129 : decode cX11_digest 129 = .ok (.if_icmp .ge 34, 3) := by decide +kernel
theorem dX11_digest_132 : decode cX11_digest 132 = .ok (.iconst 0, 1) := by decide +kernel
theorem dX11_digest_133 : decode cX11_digest 133 = .ok (.istore_n 2, 1) := by decide +kernel
theorem dX11_digest_134 : decode cX11_digest 134 = .ok (.iload_n 2, 1) := by decide +kernel
theorem dX11_digest_135 : decode cX11_digest 135 = .ok (.bipush 9, 2) := by decide +kernel
theorem dX11_digest_137 : decode cX11_digest 137 = .ok (.if_icmp .ge 20, 3) := by decide +kernel
theorem dX11_digest_140 : decode cX11_digest 140 = .ok (.aload_n 0, 1) := by decide +kernel
theorem dX11_digest_141 : decode cX11_digest 141 = .ok (.aload_n 0, 1) := by decide +kernel
theorem dX11_digest_142 : decode cX11_digest 142 = .ok (.iload_n 1, 1) := by decide +kernel
theorem dX11_digest_143 : decode cX11_digest 143 = .ok (.iload_n 2, 1) := by decide +kernel
theorem dX11_digest_144 : decode cX11_digest 144 = .ok (.invokevirtual 305, 3) := by decide +kernel
theorem dX11_digest_147 : decode cX11_digest 147 = .ok (.i2l, 1) := by decide +kernel
theorem dX11_digest_148 : decode cX11_digest 148 = .ok (.invokevirtual 388, 3) := by decide +kernel
theorem dX11_digest_151 : decode cX11_digest 151 = .ok (.iinc 2 1, 3) := by decide +kernel
theorem dX11_digest_154 : decode cX11_digest 154 = .ok (.goto (-20), 3) := by decide +kernel
theorem dX11_digest_157 : decode cX11_digest 157 = .ok (.iinc 1 1, 3) := by decide +kernel
theorem dX11_digest_160 : decode cX11_digest 160 = .ok (.goto (-39), 3) := by decide +kernel
theorem dX11_digest_163 : decode cX11_digest 163 = .ok (.iconst 0, 1) := by decide +kernel
theorem dX11_digest_164 : decode cX11_digest 164 = .ok (.istore_n 1, 1) := by decide +kernel
theorem dX11_digest_165 : decode cX11_digest 165 = .ok (.iload_n 1, 1) := by decide +kernel
theorem dX11_digest_166 : decode cX11_digest 166 = .ok (.aload_n 0, 1) := by decide +kernel
theorem dX11_digest_167 : decode cX11_digest 167 = .ok (.getfield 19, 3) := by decide +kernel
theorem dX11_digest_170 : decode cX11_digest 170 = .ok (.invokevirtual 48, 3) := by decide +kernel
theorem dX11_digest_173 : decode cX11_digest 173 = .ok (.if_icmp .ge 99, 3) := by decide +kernel
theorem dX11_digest_176 : decode cX11_digest 176 = .ok (.iconst 0, 1) := by decide +kernel
theorem dX11_digest_177 : decode cX11_digest 177 = .ok (.istore_n 2, 1) := by decide +kernel
theorem dX11_digest_178 : decode cX11_digest 178 = .ok (.iload_n 2, 1) := by decide +kernel
theorem dX11_digest_179 : decode cX11_digest 179 = .ok (.bipush 13, 2) := by decide +kernel
theorem dX11_digest_181 : decode cX11_digest 181 = .ok (.if_icmp .ge 20, 3) := by decide +kernel
theorem dX11_digest_184 : decode cX11_digest 184 = .ok (.aload_n 0, 1) := by decide +kernel
theorem dX11_digest_185 : decode cX11_digest 185 = .ok (.aload_n 0, 1) := by decide +kernel
theorem dX11_digest_186 : decode cX11_digest 186 = .ok (.iload_n 1, 1) := by decide +kernel
theorem dX11_digest_187 : decode cX11_digest 187 = .ok (.iload_n 2, 1) := by decide +kernel
theorem dX11_digest_188 : decode cX11_digest 188 = .ok (.invokevirtual 308, 3) := by decide +kernel
theorem dX11_digest_191 : decode cX11_digest 191 = .ok (.i2l, 1) := by decide +kernel
theorem dX11_digest_192 : decode cX11_digest 192 = .ok (.invokevirtual 388, 3) := by decide +kernel
theorem dX11_digest_195 : decode cX11_digest 195 = .ok (.iinc 2 1, 3) := by decide +kernel
theorem dX11_digest_198 : decode cX11_digest 198 = .ok (.goto (-20), 3) := by decide +kernel
theorem dX11_digest_201 : decode cX11_digest 201 = .ok (.iconst 0, 1) := by decide +kernel
theorem dX11_digest_202 : decode cX11_digest 202 = .ok (.istore_n 2, 1) := by decide +kernel
theorem dX11_digest_203 : decode cX11_digest 203 = .ok (.iload_n 2, 1) := by decide +kernel
theorem dX11_digest_204 : decode cX11_digest 204 = .ok (.iconst 4, 1) := by decide +kernel
theorem dX11_digest_205 : decode cX11_digest 205 = .ok (.if_icmp .ge 37, 3) := by decide +kernel
theorem dX11_digest_208 : decode cX11_digest 208 = .ok (.aload_n 0, 1) := by decide +kernel
theorem dX11_digest_209 : decode cX11_digest 209 = .ok (.getfield 19, 3) := by decide +kernel
theorem dX11_digest_212 : decode cX11_digest 212 = .ok (.iload_n 1, 1) := by decide +kernel
theorem dX11_digest_213 : decode cX11_digest 213 = .ok (.invokevirtual 90, 3) := by decide +kernel
theorem dX11_digest_216 : decode cX11_digest 216 = .ok (.checkcast 122, 3) := by decide +kernel
theorem dX11_digest_219 : decode cX11_digest 219 = .ok (.getfield 124, 3) := by decide +kernel
theorem dX11_digest_222 : decode cX11_digest 222 = .ok (.ifCond .ne 20, 3) := by decide +kernel
theorem dX11_digest_225 : decode cX11_digest 225 = .ok (.aload_n 0, 1) := by decide +kernel
theorem dX11_digest_226 : decode cX11_digest 226 = .ok (.aload_n 0, 1) := by decide +kernel
theorem dX11_digest_227 : decode cX11_digest 227 = .ok (.iload_n 1, 1) := by decide +kernel
theorem dX11_digest_228 : decode cX11_digest 228 = .ok (.iload_n 2, 1) := by decide +kernel
theorem dX11_digest_229 : decode cX11_digest 229 = .ok (.invokevirtual 317, 3) := by decide +kernel
theorem dX11_digest_232 : decode cX11_digest 232 = .ok (.i2l, 1) := by decide +kernel
theorem dX11_digest_233 : decode cX11_digest 233 = .ok (.invokevirtual 388, 3) := by decide +kernel
theorem dX11_digest_236 : decode cX11_digest 236 = .ok (.iinc 2 1, 3) := by decide +kernel
theorem dX11_digest_239 : decode cX11_digest 239 = .ok (.goto (-36), 3) := by decide +kernel
theorem dX11_digest_242 : decode cX11_digest 242 = .ok (.aload_n 0, 1) := by decide +kernel
theorem dX11_digest_243 : decode cX11_digest 243 = .ok (.aload_n 0, 1) := by decide +kernel
theorem dX11_digest_244 : decode cX11_digest 244 = .ok (.aload_n 0, 1) := by decide +kernel
theorem dX11_digest_245 : decode cX11_digest 245 = .ok (.getfield 19, 3) := by decide +kernel
theorem dX11_digest_248 : decode cX11_digest 248 = .ok (.iload_n 1, 1) := by decide +kernel
theorem dX11_digest_249 : decode cX11_digest 249 = .ok (.invokevirtual 90, 3) := by decide +kernel
theorem dX11_digest_252 : decode cX11_digest 252 = .ok (.checkcast 122, 3) := by decide +kernel
theorem dX11_digest_255 : decode cX11_digest 255 = .ok (.getfield 160, 3) := by decide +kernel
theorem dX11_digest_258 : decode cX11_digest 258 = .ok (.invokevirtual 270, 3) := by decide +kernel
theorem dX11_digest_261 : decode cX11_digest 261 = .ok (.arraylength, 1) := by decide +kernel
theorem dX11_digest_262 : decode cX11_digest 262 = .ok (.i2l, 1) := by decide +kernel
theorem dX11_digest_263 : decode cX11_digest 263 = .ok (.invokevirtual 388, 3) := by decide +kernel
theorem dX11_digest_266 : decode cX11_digest 266 = .ok (.iinc 1 1, 3) := by decide +kernel
theorem dX11_digest_269 : decode cX11_digest 269 = .ok (.goto (-104), 3) := by decide +kernel
theorem dX11_digest_272 : decode cX11_digest 272 = .ok (.aload_n 0, 1) := by decide +kernel
theorem dX11_digest_273 : decode cX11_digest 273 = .ok (.aload_n 0, 1) := by decide +kernel
theorem dX11_digest_274 : decode cX11_digest 274 = .ok (.iconst 1, 1) := by decide +kernel
theorem dX11_digest_275 : decode cX11_digest 275 = .ok (.aload_n 0, 1) := by decide +kernel
theorem dX11_digest_276 : decode cX11_digest 276 = .ok (.getfield 10, 3) := by decide +kernel
theorem dX11_digest_279 : decode cX11_digest 279 = .ok (.invokevirtual 48, 3) := by decide +kernel
theorem dX11_digest_282 : decode cX11_digest 282 = .ok (.ishl, 1) := by decide +kernel
theorem dX11_digest_283 : decode cX11_digest 283 = .ok (.iconst 1, 1) := by decide +kernel
theorem dX11_digest_284 : decode cX11_digest 284 = .ok (.isub, 1) := by decide +kernel
theorem dX11_digest_285 : decode cX11_digest 285 = .ok (.invokevirtual 320, 3) := by decide +kernel
theorem dX11_digest_288 : decode cX11_digest 288 = .ok (.i2l, 1) := by decide +kernel
theorem dX11_digest_289 : decode cX11_digest 289 = .ok (.invokevirtual 388, 3) := by decide +kernel
theorem dX11_digest_292 : decode cX11_digest 292 = .ok (.aload_n 0, 1) := by decide +kernel
theorem dX11_digest_293 : decode cX11_digest 293 = .ok (.aload_n 0, 1) := by decide +kernel
theorem dX11_digest_294 : decode cX11_digest 294 = .ok (.iconst 0, 1) := by decide +kernel
theorem dX11_digest_295 : decode cX11_digest 295 = .ok (.iconst 5, 1) := by decide +kernel
theorem dX11_digest_296 : decode cX11_digest 296 = .ok (.invokevirtual 109, 3) := by decide +kernel
theorem dX11_digest_299 : decode cX11_digest 299 = .ok (.i2l, 1) := by decide +kernel
theorem dX11_digest_300 : decode cX11_digest 300 = .ok (.invokevirtual 388, 3) := by decide +kernel
theorem dX11_digest_303 : decode cX11_digest 303 = .ok (.aload_n 0, 1) := by decide +kernel
theorem dX11_digest_304 : decode cX11_digest 304 = .ok (.aload_n 0, 1) := by decide +kernel
theorem dX11_digest_305 : decode cX11_digest 305 = .ok (.invokevirtual 377, 3) := by decide +kernel
theorem dX11_digest_308 : decode cX11_digest 308 = .ok (.ifCond .eq 7, 3) := by decide +kernel
theorem dX11_digest_311 : decode cX11_digest 311 = .ok (.lconst 1, 1) := by decide +kernel
theorem dX11_digest_312 : decode cX11_digest 312 = .ok (.goto 4, 3) := by decide +kernel
theorem dX11_digest_315 : decode cX11_digest 315 = .ok (.lconst 0, 1) := by decide +kernel
theorem dX11_digest_316 : decode cX11_digest 316 = .ok (.invokevirtual 388, 3) := by decide +kernel
theorem dX11_digest_319 : decode cX11_digest 319 = .ok (.aload_n 0, 1) := by decide +kernel
theorem dX11_digest_320 : decode cX11_digest 320 = .ok (.getfield 380, 3) := by decide +kernel
theorem dX11_digest_323 : decode cX11_digest 323 = .ok (.lreturn, 1) := by decide +kernel
set_option maxRecDepth 20000 in
theorem ggJ5_init_d00df_J2_newBytesFor_77867 : GoodIn wsJ5_init_d00df wsJ2_newBytesFor_77867 := goodIn_r _ [11, 5, 12, 13, 10, 14, 15] rfl (by decide +kernel)
set_option maxRecDepth 20000 in
theorem gJ5_init_d00df_J2_newBytesFor_77867 : GoodIn wsJ5_init_d00df (va_wsS RJ5 26 yJ2_newBytesFor_77867 wsJ2_newBytesFor_77867) := goodIn_app (goodIn_of _ (by decide +kernel)) ggJ5_init_d00df_J2_newBytesFor_77867
theorem dJ5_init_d00df_0 : decode cJ5_init_d00df 0 = .ok (.aload_n 0, 1) := by decide +kernel
theorem dJ5_init_d00df_1 : decode cJ5_init_d00df 1 = .ok (.invokespecial 3, 3) := by decide +kernel
theorem dJ5_init_d00df_4 : decode cJ5_init_d00df 4 = .ok (.getstatic 18, 3) := by decide +kernel
theorem dJ5_init_d00df_7 : decode cJ5_init_d00df 7 = .ok (.ifCond .eq 18, 3) := by decide +kernel
theorem dJ5_init_d00df_10 : decode cJ5_init_d00df 10 = .ok (.aload_n 0, 1) := by decide +kernel
theorem dJ5_init_d00df_11 : decode cJ5_init_d00df 11 = .ok (.iload_n 1, 1) := by decide +kernel
theorem dJ5_init_d00df_12 : decode cJ5_init_d00df 12 = .ok (.newarray .byte, 2) := by decide +kernel
theorem dJ5_init_d00df_14 : decode cJ5_init_d00df 14 = .ok (.putfield 15, 3) := by decide +kernel
theorem dJ5_init_d00df_17 : decode cJ5_init_d00df 17 = .ok (.aload_n 0, 1) := by decide +kernel
theorem dJ5_init_d00df_18 : decode cJ5_init_d00df 18 = .ok (.iconst 0, 1) := by decide +kernel
theorem dJ5_init_d00df_19 : decode cJ5_init_d00df 19 = .ok (.putfield 22, 3) := by decide +kernel
theorem dJ5_init_d00df_22 : decode cJ5_init_d00df 22 = .ok (.goto 16, 3) := by decide +kernel
theorem dJ5_init_d00df_25 : decode cJ5_init_d00df 25 = .ok (.aload_n 0, 1) := by decide +kernel
theorem dJ5_init_d00df_26 : decode cJ5_init_d00df 26 = .ok (.iload_n 1, 1) := by decide +kernel
theorem dJ5_init_d00df_27 : decode cJ5_init_d00df 27 = .ok (.invokestatic 26, 3) := by decide +kernel
theorem dJ5_init_d00df_30 : decode cJ5_init_d00df 30 = .ok (.putfield 15, 3) := by decide +kernel
theorem dJ5_init_d00df_33 : decode cJ5_init_d00df 33 = .ok (.aload_n 0, 1) := by decide +kernel
theorem dJ5_init_d00df_34 : decode cJ5_init_d00df 34 = .ok (.iconst 1, 1) := by decide +kernel
theorem dJ5_init_d00df_35 : decode cJ5_init_d00df 35 = .ok (.putfield 22, 3) := by decide +kernel
theorem dJ5_init_d00df_38 : decode cJ5_init_d00df 38 = .ok (.return_, 1) := by decide +kernel
theorem dJ5_length_8abf5_0 : decode cJ5_length_8abf5 0 = .ok (.aload_n 0, 1) := by decide +kernel
theorem dJ5_length_8abf5_1 : decode cJ5_length_8abf5 1 = .ok (.getfield 79, 3) := by decide +kernel
theorem dJ5_length_8abf5_4 : decode cJ5_length_8abf5 4 = .ok (.ireturn, 1) := by decide +kernel
set_option maxRecDepth 20000 in
theorem ggJ5_ensureCapacityInternal_d00df_J5_newCapacity_0f7a4 : GoodIn wsJ5_ensureCapacityInternal_d00df wsJ5_newCapacity_0f7a4 := goodIn_r _ [8, 1, 2, 9, 10, 11, 12, 13, 14, 15, 16, 17, 18, 19, 20, 21, 40, 41, 42, 43] rfl (by decide +kernel)
set_option maxRecDepth 20000 in
theorem gJ5_ensureCapacityInternal_d00df_J5_newCapacity_0f7a4_u104J4 : GoodIn wsJ5_ensureCapacityInternal_d00df (va_wsU RJ5 104 RJ4 "java/lang/AbstractStringBuilder" ⟨"java/lang/AbstractStringBuilder", "newCapacity", "(I)I"⟩ yJ5_newCapacity_0f7a4 wsJ5_newCapacity_0f7a4) := goodIn_app (goodIn_of _ (by decide +kernel)) ggJ5_ensureCapacityInternal_d00df_J5_newCapacity_0f7a4
set_option maxRecDepth 20000 in
theorem ggJ5_ensureCapacityInternal_d00df_J7_copyOf_9075b : GoodIn wsJ5_ensureCapacityInternal_d00df wsJ7_copyOf_9075b := goodIn_r _ [25, 26, 27, 28, 29, 30, 31, 32, 33, 34, 16, 35, 36, 37, 38, 39] rfl (by decide +kernel)
set_option maxRecDepth 20000 in
theorem gJ5_ensureCapacityInternal_d00df_J7_copyOf_9075b : GoodIn wsJ5_ensureCapacityInternal_d00df (va_wsS RJ5 108 yJ7_copyOf_9075b wsJ7_copyOf_9075b) := goodIn_app (goodIn_of _ (by decide +kernel)) ggJ5_ensureCapacityInternal_d00df_J7_copyOf_9075b
theorem dJ5_ensureCapacityInternal_d00df_0 : decode cJ5_ensureCapacityInternal_d00df 0 = .ok (.aload_n 0, 1) := by decide +kernel
theorem dJ5_ensureCapacityInternal_d00df_1 : decode cJ5_ensureCapacityInternal_d00df 1 = .ok (.getfield 15, 3) := by decide +kernel
theorem dJ5_ensureCapacityInternal_d00df_4 : decode cJ5_ensureCapacityInternal_d00df 4 = .ok (.arraylength, 1) := by decide +kernel
theorem dJ5_ensureCapacityInternal_d00df_5 : decode cJ5_ensureCapacityInternal_d00df 5 = .ok (.aload_n 0, 1) := by decide +kernel
theorem dJ5_ensureCapacityInternal_d00df_6 : decode cJ5_ensureCapacityInternal_d00df 6 = .ok (.getfield 22, 3) := by decide +kernel
theorem dJ5_ensureCapacityInternal_d00df_9 : decode cJ5_ensureCapacityInternal_d00df 9 = .ok (.ishr, 1) := by decide +kernel
theorem dJ5_ensureCapacityInternal_d00df_10 : decode cJ5_ensureCapacityInternal_d00df 10 = .ok (.istore_n 2, 1) := by decide +kernel
theorem dJ5_ensureCapacityInternal_d00df_11 : decode cJ5_ensureCapacityInternal_d00df 11 = .ok (.iload_n 1, 1) := by decide +kernel
theorem dJ5_ensureCapacityInternal_d00df_12 : decode cJ5_ensureCapacityInternal_d00df 12 = .ok (.iload_n 2, 1) := by decide +kernel
theorem dJ5_ensureCapacityInternal_d00df_13 : decode cJ5_ensureCapacityInternal_d00df 13 = .ok (.isub, 1) := by decide +kernel
theorem dJ5_ensureCapacityInternal_d00df_14 : decode cJ5_ensureCapacityInternal_d00df 14 = .ok (.ifCond .le 24, 3) := by decide +kernel
theorem dJ5_ensureCapacityInternal_d00df_17 : decode cJ5_ensureCapacityInternal_d00df 17 = .ok (.aload_n 0, 1) := by decide +kernel
theorem dJ5_ensureCapacityInternal_d00df_18 : decode cJ5_ensureCapacityInternal_d00df 18 = .ok (.aload_n 0, 1) := by decide +kernel
theorem dJ5_ensureCapacityInternal_d00df_19 : decode cJ5_ensureCapacityInternal_d00df 19 = .ok (.getfield 15, 3) := by decide +kernel
theorem dJ5_ensureCapacityInternal_d00df_22 : decode cJ5_ensureCapacityInternal_d00df 22 = .ok (.aload_n 0, 1) := by decide +kernel
theorem dJ5_ensureCapacityInternal_d00df_23 : decode cJ5_ensureCapacityInternal_d00df 23 = .ok (.iload_n 1, 1) := by decide +kernel
theorem dJ5_ensureCapacityInternal_d00df_24 : decode cJ5_ensureCapacityInternal_d00df 24 = .ok (.invokevirtual 104, 3) := by decide +kernel
theorem dJ5_ensureCapacityInternal_d00df_27 : decode cJ5_ensureCapacityInternal_d00df 27 = .ok (.aload_n 0, 1) := by decide +kernel
theorem dJ5_ensureCapacityInternal_d00df_28 : decode cJ5_ensureCapacityInternal_d00df 28 = .ok (.getfield 22, 3) := by decide +kernel
theorem dJ5_ensureCapacityInternal_d00df_31 : decode cJ5_ensureCapacityInternal_d00df 31 = .ok (.ishl, 1) := by decide +kernel
theorem dJ5_ensureCapacityInternal_d00df_32 : decode cJ5_ensureCapacityInternal_d00df 32 = .ok (.invokestatic 108, 3) := by decide +kernel
theorem dJ5_ensureCapacityInternal_d00df_35 : decode cJ5_ensureCapacityInternal_d00df 35 = .ok (.putfield 15, 3) := by decide +kernel
theorem dJ5_ensureCapacityInternal_d00df_38 : decode cJ5_ensureCapacityInternal_d00df 38 = .ok (.return_, 1) := by decide +kernel
set_option maxRecDepth 20000 in
theorem ggJ5_newCapacity_0f7a4_J8_newLength_cabcc : GoodIn wsJ5_newCapacity_0f7a4 wsJ8_newLength_cabcc := goodIn_r _ [7, 8, 9, 10, 11, 12, 13, 14, 6, 15] rfl (by decide +kernel)
set_option maxRecDepth 20000 in
theorem gJ5_newCapacity_0f7a4_J8_newLength_cabcc : GoodIn wsJ5_newCapacity_0f7a4 (va_wsS RJ5 114 yJ8_newLength_cabcc wsJ8_newLength_cabcc) := goodIn_app (goodIn_of _ (by decide +kernel)) ggJ5_newCapacity_0f7a4_J8_newLength_cabcc
theorem dJ5_newCapacity_0f7a4_0 : decode cJ5_newCapacity_0f7a4 0 = .ok (.aload_n 0, 1) := by decide +kernel
theorem dJ5_newCapacity_0f7a4_1 : decode cJ5_newCapacity_0f7a4 1 = .ok (.getfield 15, 3) := by decide +kernel
theorem dJ5_newCapacity_0f7a4_4 : decode cJ5_newCapacity_0f7a4 4 = .ok (.arraylength, 1) := by decide +kernel
theorem dJ5_newCapacity_0f7a4_5 : decode cJ5_newCapacity_0f7a4 5 = .ok (.istore_n 2, 1) := by decide +kernel
theorem dJ5_newCapacity_0f7a4_6 : decode cJ5_newCapacity_0f7a4 6 = .ok (.iload_n 1, 1) := by decide +kernel
theorem dJ5_newCapacity_0f7a4_7 : decode cJ5_newCapacity_0f7a4 7 = .ok (.aload_n 0, 1) := by decide +kernel
theorem dJ5_newCapacity_0f7a4_8 : decode cJ5_newCapacity_0f7a4 8 = .ok (.getfield 22, 3) := by decide +kernel
theorem dJ5_newCapacity_0f7a4_11 : decode cJ5_newCapacity_0f7a4 11 = .ok (.ishl, 1) := by decide +kernel
theorem dJ5_newCapacity_0f7a4_12 : decode cJ5_newCapacity_0f7a4 12 = .ok (.istore_n 3, 1) := by decide +kernel
theorem dJ5_newCapacity_0f7a4_13 : decode cJ5_newCapacity_0f7a4 13 = .ok (.iload_n 3, 1) := by decide +kernel
theorem dJ5_newCapacity_0f7a4_14 : decode cJ5_newCapacity_0f7a4 14 = .ok (.iload_n 2, 1) := by decide +kernel
theorem dJ5_newCapacity_0f7a4_15 : decode cJ5_newCapacity_0f7a4 15 = .ok (.isub, 1) := by decide +kernel
theorem dJ5_newCapacity_0f7a4_16 : decode cJ5_newCapacity_0f7a4 16 = .ok (.istore 4, 2) := by decide +kernel
theorem dJ5_newCapacity_0f7a4_18 : decode cJ5_newCapacity_0f7a4 18 = .ok (.iload_n 2, 1) := by decide +kernel
theorem dJ5_newCapacity_0f7a4_19 : decode cJ5_newCapacity_0f7a4 19 = .ok (.iload 4, 2) := by decide +kernel
theorem dJ5_newCapacity_0f7a4_21 : decode cJ5_newCapacity_0f7a4 21 = .ok (.iload_n 2, 1) := by decide +kernel
theorem dJ5_newCapacity_0f7a4_22 : decode cJ5_newCapacity_0f7a4 22 = .ok (.iconst 2, 1) := by decide +kernel
theorem dJ5_newCapacity_0f7a4_23 : decode cJ5_newCapacity_0f7a4 23 = .ok (.aload_n 0, 1) := by decide +kernel
theorem dJ5_newCapacity_0f7a4_24 : decode cJ5_newCapacity_0f7a4 24 = .ok (.getfield 22, 3) := by decide +kernel
theorem dJ5_newCapacity_0f7a4_27 : decode cJ5_newCapacity_0f7a4 27 = .ok (.ishl, 1) := by decide +kernel
theorem dJ5_newCapacity_0f7a4_28 : decode cJ5_newCapacity_0f7a4 28 = .ok (.iadd, 1) := by decide +kernel
theorem dJ5_newCapacity_0f7a4_29 : decode cJ5_newCapacity_0f7a4 29 = .ok (.invokestatic 114, 3) := by decide +kernel
theorem dJ5_newCapacity_0f7a4_32 : decode cJ5_newCapacity_0f7a4 32 = .ok (.istore 5, 2) := by decide +kernel
theorem dJ5_newCapacity_0f7a4_34 : decode cJ5_newCapacity_0f7a4 34 = .ok (.iload 5, 2) := by decide +kernel
theorem dJ5_newCapacity_0f7a4_36 : decode cJ5_newCapacity_0f7a4 36 = .ok (.ldc 39, 2) := by decide +kernel
theorem dJ5_newCapacity_0f7a4_38 : decode cJ5_newCapacity_0f7a4 38 = .ok (.if_icmp .ne 13, 3) := by decide +kernel
theorem dJ5_newCapacity_0f7a4_41 : decode cJ5_newCapacity_0f7a4 41 = .ok (.new 120, 3) := by decide +kernel
theorem dJ5_newCapacity_0f7a4_44 : decode cJ5_newCapacity_0f7a4 44 = .ok (.dup, 1) := by decide +kernel
theorem dJ5_newCapacity_0f7a4_45 : decode cJ5_newCapacity_0f7a4 45 = .ok (.ldc 122, 2) := by decide +kernel
theorem dJ5_newCapacity_0f7a4_47 : decode cJ5_newCapacity_0f7a4 47 = .ok (.invokespecial 124, 3) := by decide +kernel
theorem dJ5_newCapacity_0f7a4_50 : decode cJ5_newCapacity_0f7a4 50 = .ok (.athrow, 1) := by decide +kernel
theorem dJ5_newCapacity_0f7a4_51 : decode cJ5_newCapacity_0f7a4 51 = .ok (.iload 5, 2) := by decide +kernel
theorem dJ5_newCapacity_0f7a4_53 : decode cJ5_newCapacity_0f7a4 53 = .ok (.aload_n 0, 1) := by decide +kernel
theorem dJ5_newCapacity_0f7a4_54 : decode cJ5_newCapacity_0f7a4 54 = .ok (.getfield 22, 3) := by decide +kernel
theorem dJ5_newCapacity_0f7a4_57 : decode cJ5_newCapacity_0f7a4 57 = .ok (.ishr, 1) := by decide +kernel
theorem dJ5_newCapacity_0f7a4_58 : decode cJ5_newCapacity_0f7a4 58 = .ok (.ireturn, 1) := by decide +kernel
set_option maxRecDepth 20000 in
theorem ggJ5_inflate_da8c8_J5_isLatin1_aae02 : GoodIn wsJ5_inflate_da8c8 wsJ5_isLatin1_aae02 := goodIn_r _ [9, 10, 3, 48, 49, 50, 51] rfl (by decide +kernel)
set_option maxRecDepth 20000 in
theorem gJ5_inflate_da8c8_J5_isLatin1_aae02_u83J4 : GoodIn wsJ5_inflate_da8c8 (va_wsU RJ5 83 RJ4 "java/lang/AbstractStringBuilder" ⟨"java/lang/AbstractStringBuilder", "isLatin1", "()Z"⟩ yJ5_isLatin1_aae02 wsJ5_isLatin1_aae02) := goodIn_app (goodIn_of _ (by decide +kernel)) ggJ5_inflate_da8c8_J5_isLatin1_aae02
set_option maxRecDepth 20000 in
theorem ggJ5_inflate_da8c8_J2_newBytesFor_77867 : GoodIn wsJ5_inflate_da8c8 wsJ2_newBytesFor_77867 := goodIn_r _ [14, 15, 16, 17, 13, 18, 19] rfl (by decide +kernel)
set_option maxRecDepth 20000 in
theorem gJ5_inflate_da8c8_J2_newBytesFor_77867 : GoodIn wsJ5_inflate_da8c8 (va_wsS RJ5 26 yJ2_newBytesFor_77867 wsJ2_newBytesFor_77867) := goodIn_app (goodIn_of _ (by decide +kernel)) ggJ5_inflate_da8c8_J2_newBytesFor_77867
set_option maxRecDepth 20000 in
theorem ggJ5_inflate_da8c8_J1_inflate_0e8fd : GoodIn wsJ5_inflate_da8c8 wsJ1_inflate_0e8fd := goodIn_r _ [23, 24, 25, 13, 26, 27, 28, 29, 30, 31, 32, 33, 34, 35, 36, 37, 38, 39, 40, 41, 42, 43, 44, 45, 46, 47] rfl (by decide +kernel)
set_option maxRecDepth 20000 in
theorem gJ5_inflate_da8c8_J1_inflate_0e8fd : GoodIn wsJ5_inflate_da8c8 (va_wsS RJ5 125 yJ1_inflate_0e8fd wsJ1_inflate_0e8fd) := goodIn_app (goodIn_of _ (by decide +kernel)) ggJ5_inflate_da8c8_J1_inflate_0e8fd
theorem dJ5_inflate_da8c8_0 : decode cJ5_inflate_da8c8 0 = .ok (.aload_n 0, 1) := by decide +kernel
theorem dJ5_inflate_da8c8_1 : decode cJ5_inflate_da8c8 1 = .ok (.invokevirtual 83, 3) := by decide +kernel
theorem dJ5_inflate_da8c8_4 : decode cJ5_inflate_da8c8 4 = .ok (.ifCond .ne 4, 3) := by decide +kernel
theorem dJ5_inflate_da8c8_7 : decode cJ5_inflate_da8c8 7 = .ok (.return_, 1) := by decide +kernel
theorem dJ5_inflate_da8c8_8 : decode cJ5_inflate_da8c8 8 = .ok (.aload_n 0, 1) := by decide +kernel
theorem dJ5_inflate_da8c8_9 : decode cJ5_inflate_da8c8 9 = .ok (.getfield 15, 3) := by decide +kernel
theorem dJ5_inflate_da8c8_12 : decode cJ5_inflate_da8c8 12 = .ok (.arraylength, 1) := by decide +kernel
theorem dJ5_inflate_da8c8_13 : decode cJ5_inflate_da8c8 13 = .ok (.invokestatic 26, 3) := by decide +kernel
theorem dJ5_inflate_da8c8_16 : decode cJ5_inflate_da8c8 16 = .ok (.astore_n 1, 1) := by decide +kernel
theorem dJ5_inflate_da8c8_17 : decode cJ5_inflate_da8c8 17 = .ok (.aload_n 0, 1) := by decide +kernel
theorem dJ5_inflate_da8c8_18 : decode cJ5_inflate_da8c8 18 = .ok (.getfield 15, 3) := by decide +kernel
theorem dJ5_inflate_da8c8_21 : decode cJ5_inflate_da8c8 21 = .ok (.iconst 0, 1) := by decide +kernel
theorem dJ5_inflate_da8c8_22 : decode cJ5_inflate_da8c8 22 = .ok (.aload_n 1, 1) := by decide +kernel
theorem dJ5_inflate_da8c8_23 : decode cJ5_inflate_da8c8 23 = .ok (.iconst 0, 1) := by decide +kernel
theorem dJ5_inflate_da8c8_24 : decode cJ5_inflate_da8c8 24 = .ok (.aload_n 0, 1) := by decide +kernel
theorem dJ5_inflate_da8c8_25 : decode cJ5_inflate_da8c8 25 = .ok (.getfield 79, 3) := by decide +kernel
theorem dJ5_inflate_da8c8_28 : decode cJ5_inflate_da8c8 28 = .ok (.invokestatic 125, 3) := by decide +kernel
theorem dJ5_inflate_da8c8_31 : decode cJ5_inflate_da8c8 31 = .ok (.aload_n 0, 1) := by decide +kernel
theorem dJ5_inflate_da8c8_32 : decode cJ5_inflate_da8c8 32 = .ok (.aload_n 1, 1) := by decide +kernel
theorem dJ5_inflate_da8c8_33 : decode cJ5_inflate_da8c8 33 = .ok (.putfield 15, 3) := by decide +kernel
theorem dJ5_inflate_da8c8_36 : decode cJ5_inflate_da8c8 36 = .ok (.aload_n 0, 1) := by decide +kernel
theorem dJ5_inflate_da8c8_37 : decode cJ5_inflate_da8c8 37 = .ok (.iconst 1, 1) := by decide +kernel
theorem dJ5_inflate_da8c8_38 : decode cJ5_inflate_da8c8 38 = .ok (.putfield 22, 3) := by decide +kernel
theorem dJ5_inflate_da8c8_41 : decode cJ5_inflate_da8c8 41 = .ok (.return_, 1) := by decide +kernel
set_option maxRecDepth 20000 in
theorem ggJ5_append_cf1ce_J5_appendNull_278bc : GoodIn wsJ5_append_cf1ce wsJ5_appendNull_278bc := goodIn_r _ [7, 1, 8, 9, 10, 11, 12, 6, 13, 14, 15, 16, 17, 18, 19, 20, 21, 22, 23, 24, 25, 26, 27, 28, 29, 30, 31, 32, 33, 34, 35, 36, 37, 38, 39, 40, 41, 42, 43, 44, 45, 46, 47, 48, 49, 50, 51, 52, 53, 54, 55, 56, 57, 58, 59, 60, 61, 62, 63, 64, 65, 66, 67, 68, 69, 70, 71, 72, 73, 74, 75, 76, 77, 78, 79, 80, 81, 138, 139, 140, 141] rfl (by decide +kernel)
set_option maxRecDepth 20000 in
theorem gJ5_append_cf1ce_J5_appendNull_278bc_u204J4 : GoodIn wsJ5_append_cf1ce (va_wsU RJ5 204 RJ4 "java/lang/AbstractStringBuilder" ⟨"java/lang/AbstractStringBuilder", "appendNull", "()Ljava/lang/AbstractStringBuilder;"⟩ yJ5_appendNull_278bc wsJ5_appendNull_278bc) := goodIn_app (goodIn_of _ (by decide +kernel)) ggJ5_append_cf1ce_J5_appendNull_278bc
set_option maxRecDepth 20000 in
theorem ggJ5_append_cf1ce_J0_length_8abf5 : GoodIn wsJ5_append_cf1ce wsJ0_length_8abf5 := goodIn_r _ [85, 86, 87, 88, 89, 70, 90, 91, 92, 142, 143, 144, 145] rfl (by decide +kernel)
set_option maxRecDepth 20000 in
theorem gJ5_append_cf1ce_J0_length_8abf5 : GoodIn wsJ5_append_cf1ce (wsV RJ5 32 RJ0 yJ0_length_8abf5 wsJ0_length_8abf5) := goodIn_app (goodIn_of _ (by decide +kernel)) ggJ5_append_cf1ce_J0_length_8abf5
set_option maxRecDepth 20000 in
theorem ggJ5_append_cf1ce_J5_ensureCapacityInternal_d00df : GoodIn wsJ5_append_cf1ce wsJ5_ensureCapacityInternal_d00df := goodIn_r _ [13, 8, 14, 15, 16, 17, 18, 6, 19, 20, 21, 22, 23, 24, 25, 26, 27, 28, 29, 30, 31, 32, 33, 34, 35, 36, 37, 38, 39, 40, 41, 42, 43, 44, 45, 46, 47, 48, 49, 50, 138, 139, 140, 141] rfl (by decide +kernel)
set_option maxRecDepth 20000 in
theorem gJ5_append_cf1ce_J5_ensureCapacityInternal_d00df_u100J4 : GoodIn wsJ5_append_cf1ce (va_wsU RJ5 100 RJ4 "java/lang/AbstractStringBuilder" ⟨"java/lang/AbstractStringBuilder", "ensureCapacityInternal", "(I)V"⟩ yJ5_ensureCapacityInternal_d00df wsJ5_ensureCapacityInternal_d00df) := goodIn_app (goodIn_of _ (by decide +kernel)) ggJ5_append_cf1ce_J5_ensureCapacityInternal_d00df
set_option maxRecDepth 20000 in
theorem ggJ5_append_cf1ce_J5_putStringAt_47b60 : GoodIn wsJ5_append_cf1ce wsJ5_putStringAt_47b60 := goodIn_r _ [97, 8, 14, 98, 99, 100, 101, 6, 102, 56, 103, 88, 89, 70, 90, 91, 92, 104, 105, 106, 107, 108, 1, 51, 52, 53, 54, 55, 109, 110, 59, 111, 43, 112, 113, 114, 115, 116, 117, 118, 119, 120, 121, 122, 123, 124, 125, 65, 66, 67, 126, 127, 128, 72, 129, 130, 75, 131, 77, 78, 79, 61, 80, 81, 132, 133, 134, 135, 86, 136, 48, 49, 50, 87, 137, 138, 139, 140, 141, 142, 143, 144, 145] rfl (by decide +kernel)
set_option maxRecDepth 20000 in
theorem gJ5_append_cf1ce_J5_putStringAt_47b60_u208J4 : GoodIn wsJ5_append_cf1ce (va_wsU RJ5 208 RJ4 "java/lang/AbstractStringBuilder" ⟨"java/lang/AbstractStringBuilder", "putStringAt", "(ILjava/lang/String;)V"⟩ yJ5_putStringAt_47b60 wsJ5_putStringAt_47b60) := goodIn_app (goodIn_of _ (by decide +kernel)) ggJ5_append_cf1ce_J5_putStringAt_47b60
theorem dJ5_append_cf1ce_0 : decode cJ5_append_cf1ce 0 = .ok (.aload_n 1, 1) := by decide +kernel
theorem dJ5_append_cf1ce_1 : decode cJ5_append_cf1ce 1 = .ok (.ifnonnull 8, 3) := by decide +kernel
theorem dJ5_append_cf1ce_4 : decode cJ5_append_cf1ce 4 = .ok (.aload_n 0, 1) := by decide +kernel
theorem dJ5_append_cf1ce_5 : decode cJ5_append_cf1ce 5 = .ok (.invokevirtual 204, 3) := by decide +kernel
theorem dJ5_append_cf1ce_8 : decode cJ5_append_cf1ce 8 = .ok (.areturn, 1) := by decide +kernel
theorem dJ5_append_cf1ce_9 : decode cJ5_append_cf1ce 9 = .ok (.aload_n 1, 1) := by decide +kernel
theorem dJ5_append_cf1ce_10 : decode cJ5_append_cf1ce 10 = .ok (.invokevirtual 32, 3) := by decide +kernel
theorem dJ5_append_cf1ce_13 : decode cJ5_append_cf1ce 13 = .ok (.istore_n 2, 1) := by decide +kernel
theorem dJ5_append_cf1ce_14 : decode cJ5_append_cf1ce 14 = .ok (.aload_n 0, 1) := by decide +kernel
theorem dJ5_append_cf1ce_15 : decode cJ5_append_cf1ce 15 = .ok (.aload_n 0, 1) := by decide +kernel
theorem dJ5_append_cf1ce_16 : decode cJ5_append_cf1ce 16 = .ok (.getfield 79, 3) := by decide +kernel
theorem dJ5_append_cf1ce_19 : decode cJ5_append_cf1ce 19 = .ok (.iload_n 2, 1) := by decide +kernel
theorem dJ5_append_cf1ce_20 : decode cJ5_append_cf1ce 20 = .ok (.iadd, 1) := by decide +kernel
theorem dJ5_append_cf1ce_21 : decode cJ5_append_cf1ce 21 = .ok (.invokevirtual 100, 3) := by decide +kernel
theorem dJ5_append_cf1ce_24 : decode cJ5_append_cf1ce 24 = .ok (.aload_n 0, 1) := by decide +kernel
theorem dJ5_append_cf1ce_25 : decode cJ5_append_cf1ce 25 = .ok (.aload_n 0, 1) := by decide +kernel
theorem dJ5_append_cf1ce_26 : decode cJ5_append_cf1ce 26 = .ok (.getfield 79, 3) := by decide +kernel
theorem dJ5_append_cf1ce_29 : decode cJ5_append_cf1ce 29 = .ok (.aload_n 1, 1) := by decide +kernel
theorem dJ5_append_cf1ce_30 : decode cJ5_append_cf1ce 30 = .ok (.invokevirtual 208, 3) := by decide +kernel
theorem dJ5_append_cf1ce_33 : decode cJ5_append_cf1ce 33 = .ok (.aload_n 0, 1) := by decide +kernel
theorem dJ5_append_cf1ce_34 : decode cJ5_append_cf1ce 34 = .ok (.dup, 1) := by decide +kernel
theorem dJ5_append_cf1ce_35 : decode cJ5_append_cf1ce 35 = .ok (.getfield 79, 3) := by decide +kernel
theorem dJ5_append_cf1ce_38 : decode cJ5_append_cf1ce 38 = .ok (.iload_n 2, 1) := by decide +kernel
theorem dJ5_append_cf1ce_39 : decode cJ5_append_cf1ce 39 = .ok (.iadd, 1) := by decide +kernel
theorem dJ5_append_cf1ce_40 : decode cJ5_append_cf1ce 40 = .ok (.putfield 79, 3) := by decide +kernel
theorem dJ5_append_cf1ce_43 : decode cJ5_append_cf1ce 43 = .ok (.aload_n 0, 1) := by decide +kernel
theorem dJ5_append_cf1ce_44 : decode cJ5_append_cf1ce 44 = .ok (.areturn, 1) := by decide +kernel
set_option maxRecDepth 20000 in
theorem ggJ5_appendNull_278bc_J5_ensureCapacityInternal_d00df : GoodIn wsJ5_appendNull_278bc wsJ5_ensureCapacityInternal_d00df := goodIn_r _ [8, 2, 9, 10, 11, 12, 13, 7, 14, 15, 16, 17, 18, 19, 20, 21, 22, 23, 24, 25, 26, 27, 28, 29, 30, 31, 32, 33, 34, 35, 36, 37, 38, 39, 40, 41, 42, 43, 44, 45, 77, 78, 79, 80] rfl (by decide +kernel)
set_option maxRecDepth 20000 in
theorem gJ5_appendNull_278bc_J5_ensureCapacityInternal_d00df_u100J4 : GoodIn wsJ5_appendNull_278bc (va_wsU RJ5 100 RJ4 "java/lang/AbstractStringBuilder" ⟨"java/lang/AbstractStringBuilder", "ensureCapacityInternal", "(I)V"⟩ yJ5_ensureCapacityInternal_d00df wsJ5_ensureCapacityInternal_d00df) := goodIn_app (goodIn_of _ (by decide +kernel)) ggJ5_appendNull_278bc_J5_ensureCapacityInternal_d00df
set_option maxRecDepth 20000 in
theorem ggJ5_appendNull_278bc_J5_isLatin1_aae02 : GoodIn wsJ5_appendNull_278bc wsJ5_isLatin1_aae02 := goodIn_r _ [50, 51, 9, 77, 78, 79, 80] rfl (by decide +kernel)
set_option maxRecDepth 20000 in
theorem gJ5_appendNull_278bc_J5_isLatin1_aae02_u83J4 : GoodIn wsJ5_appendNull_278bc (va_wsU RJ5 83 RJ4 "java/lang/AbstractStringBuilder" ⟨"java/lang/AbstractStringBuilder", "isLatin1", "()Z"⟩ yJ5_isLatin1_aae02 wsJ5_isLatin1_aae02) := goodIn_app (goodIn_of _ (by decide +kernel)) ggJ5_appendNull_278bc_J5_isLatin1_aae02
set_option maxRecDepth 20000 in
theorem ggJ5_appendNull_278bc_J2_putCharsAt_cd4e5 : GoodIn wsJ5_appendNull_278bc wsJ2_putCharsAt_cd4e5 := goodIn_r _ [55, 56, 57, 58, 54, 59, 60, 61, 62, 63, 64, 65, 66, 67, 68, 69, 70, 71, 72, 73, 74, 75, 76] rfl (by decide +kernel)
set_option maxRecDepth 20000 in
theorem gJ5_appendNull_278bc_J2_putCharsAt_cd4e5 : GoodIn wsJ5_appendNull_278bc (va_wsS RJ5 226 yJ2_putCharsAt_cd4e5 wsJ2_putCharsAt_cd4e5) := goodIn_app (goodIn_of _ (by decide +kernel)) ggJ5_appendNull_278bc_J2_putCharsAt_cd4e5
theorem dJ5_appendNull_278bc_0 : decode cJ5_appendNull_278bc 0 = .ok (.aload_n 0, 1) := by decide +kernel
theorem dJ5_appendNull_278bc_1 : decode cJ5_appendNull_278bc 1 = .ok (.aload_n 0, 1) := by decide +kernel
theorem dJ5_appendNull_278bc_2 : decode cJ5_appendNull_278bc 2 = .ok (.getfield 79, 3) := by decide +kernel
theorem dJ5_appendNull_278bc_5 : decode cJ5_appendNull_278bc 5 = .ok (.iconst 4, 1) := by decide +kernel
theorem dJ5_appendNull_278bc_6 : decode cJ5_appendNull_278bc 6 = .ok (.iadd, 1) := by decide +kernel
theorem dJ5_appendNull_278bc_7 : decode cJ5_appendNull_278bc 7 = .ok (.invokevirtual 100, 3) := by decide +kernel
theorem dJ5_appendNull_278bc_10 : decode cJ5_appendNull_278bc 10 = .ok (.aload_n 0, 1) := by decide +kernel
theorem dJ5_appendNull_278bc_11 : decode cJ5_appendNull_278bc 11 = .ok (.getfield 79, 3) := by decide +kernel
theorem dJ5_appendNull_278bc_14 : decode cJ5_appendNull_278bc 14 = .ok (.istore_n 1, 1) := by decide +kernel
theorem dJ5_appendNull_278bc_15 : decode cJ5_appendNull_278bc 15 = .ok (.aload_n 0, 1) := by decide +kernel
theorem dJ5_appendNull_278bc_16 : decode cJ5_appendNull_278bc 16 = .ok (.getfield 15, 3) := by decide +kernel
theorem dJ5_appendNull_278bc_19 : decode cJ5_appendNull_278bc 19 = .ok (.astore_n 2, 1) := by decide +kernel
theorem dJ5_appendNull_278bc_20 : decode cJ5_appendNull_278bc 20 = .ok (.aload_n 0, 1) := by decide +kernel
theorem dJ5_appendNull_278bc_21 : decode cJ5_appendNull_278bc 21 = .ok (.invokevirtual 83, 3) := by decide +kernel
theorem dJ5_appendNull_278bc_24 : decode cJ5_appendNull_278bc 24 = .ok (.ifCond .eq 38, 3) := by decide +kernel
theorem dJ5_appendNull_278bc_27 : decode cJ5_appendNull_278bc 27 = .ok (.aload_n 2, 1) := by decide +kernel
theorem dJ5_appendNull_278bc_28 : decode cJ5_appendNull_278bc 28 = .ok (.iload_n 1, 1) := by decide +kernel
theorem dJ5_appendNull_278bc_29 : decode cJ5_appendNull_278bc 29 = .ok (.iinc 1 1, 3) := by decide +kernel
theorem dJ5_appendNull_278bc_32 : decode cJ5_appendNull_278bc 32 = .ok (.bipush 110, 2) := by decide +kernel
theorem dJ5_appendNull_278bc_34 : decode cJ5_appendNull_278bc 34 = .ok (.bastore, 1) := by decide +kernel
theorem dJ5_appendNull_278bc_35 : decode cJ5_appendNull_278bc 35 = .ok (.aload_n 2, 1) := by decide +kernel
theorem dJ5_appendNull_278bc_36 : decode cJ5_appendNull_278bc 36 = .ok (.iload_n 1, 1) := by decide +kernel
theorem dJ5_appendNull_278bc_37 : decode cJ5_appendNull_278bc 37 = .ok (.iinc 1 1, 3) := by decide +kernel
theorem dJ5_appendNull_278bc_40 : decode cJ5_appendNull_278bc 40 = .ok (.bipush 117, 2) := by decide +kernel
theorem dJ5_appendNull_278bc_42 : decode cJ5_appendNull_278bc 42 = .ok (.bastore, 1) := by decide +kernel
theorem dJ5_appendNull_278bc_43 : decode cJ5_appendNull_278bc 43 = .ok (.aload_n 2, 1) := by decide +kernel
theorem dJ5_appendNull_278bc_44 : decode cJ5_appendNull_278bc 44 = .ok (.iload_n 1, 1) := by decide +kernel
theorem dJ5_appendNull_278bc_45 : decode cJ5_appendNull_278bc 45 = .ok (.iinc 1 1, 3) := by decide +kernel
theorem dJ5_appendNull_278bc_48 : decode cJ5_appendNull_278bc 48 = .ok (.bipush 108, 2) := by decide +kernel
theorem dJ5_appendNull_278bc_50 : decode cJ5_appendNull_278bc 50 = .ok (.bastore, 1) := by decide +kernel
theorem dJ5_appendNull_278bc_51 : decode cJ5_appendNull_278bc 51 = .ok (.aload_n 2, 1) := by decide +kernel
theorem dJ5_appendNull_278bc_52 : decode cJ5_appendNull_278bc 52 = .ok (.iload_n 1, 1) := by decide +kernel
theorem dJ5_appendNull_278bc_53 : decode cJ5_appendNull_278bc 53 = .ok (.iinc 1 1, 3) := by decide +kernel
theorem dJ5_appendNull_278bc_56 : decode cJ5_appendNull_278bc 56 = .ok (.bipush 108, 2) := by decide +kernel
theorem dJ5_appendNull_278bc_58 : decode cJ5_appendNull_278bc 58 = .ok (.bastore, 1) := by decide +kernel
theorem dJ5_appendNull_278bc_59 : decode cJ5_appendNull_278bc 59 = .ok (.goto 17, 3) := by decide +kernel
theorem dJ5_appendNull_278bc_62 : decode cJ5_appendNull_278bc 62 = .ok (.aload_n 2, 1) := by decide +kernel
theorem dJ5_appendNull_278bc_63 : decode cJ5_appendNull_278bc 63 = .ok (.iload_n 1, 1) := by decide +kernel
theorem dJ5_appendNull_278bc_64 : decode cJ5_appendNull_278bc 64 = .ok (.bipush 110, 2) := by decide +kernel
theorem dJ5_appendNull_278bc_66 : decode cJ5_appendNull_278bc 66 = .ok (.bipush 117, 2) := by decide +kernel
theorem dJ5_appendNull_278bc_68 : decode cJ5_appendNull_278bc 68 = .ok (.bipush 108, 2) := by decide +kernel
theorem dJ5_appendNull_278bc_70 : decode cJ5_appendNull_278bc 70 = .ok (.bipush 108, 2) := by decide +kernel
theorem dJ5_appendNull_278bc_72 : decode cJ5_appendNull_278bc 72 = .ok (.invokestatic 226, 3) := by decide +kernel
theorem dJ5_appendNull_278bc_75 : decode cJ5_appendNull_278bc 75 = .ok (.istore_n 1, 1) := by decide +kernel
theorem dJ5_appendNull_278bc_76 : decode cJ5_appendNull_278bc 76 = .ok (.aload_n 0, 1) := by decide +kernel
theorem dJ5_appendNull_278bc_77 : decode cJ5_appendNull_278bc 77 = .ok (.iload_n 1, 1) := by decide +kernel
theorem dJ5_appendNull_278bc_78 : decode cJ5_appendNull_278bc 78 = .ok (.putfield 79, 3) := by decide +kernel
theorem dJ5_appendNull_278bc_81 : decode cJ5_appendNull_278bc 81 = .ok (.aload_n 0, 1) := by decide +kernel
theorem dJ5_appendNull_278bc_82 : decode cJ5_appendNull_278bc 82 = .ok (.areturn, 1) := by decide +kernel
set_option maxRecDepth 20000 in
theorem ggJ5_append_3fe6f_J5_ensureCapacityInternal_d00df : GoodIn wsJ5_append_3fe6f wsJ5_ensureCapacityInternal_d00df := goodIn_r _ [8, 2, 9, 10, 11, 12, 13, 7, 14, 15, 16, 17, 18, 19, 20, 21, 22, 23, 24, 25, 26, 27, 28, 29, 30, 31, 32, 33, 34, 35, 36, 37, 38, 39, 40, 41, 42, 43, 44, 45, 108, 109, 110, 111] rfl (by decide +kernel)
set_option maxRecDepth 20000 in
theorem gJ5_append_3fe6f_J5_ensureCapacityInternal_d00df_u100J4 : GoodIn wsJ5_append_3fe6f (va_wsU RJ5 100 RJ4 "java/lang/AbstractStringBuilder" ⟨"java/lang/AbstractStringBuilder", "ensureCapacityInternal", "(I)V"⟩ yJ5_ensureCapacityInternal_d00df wsJ5_ensureCapacityInternal_d00df) := goodIn_app (goodIn_of _ (by decide +kernel)) ggJ5_append_3fe6f_J5_ensureCapacityInternal_d00df
set_option maxRecDepth 20000 in
theorem ggJ5_append_3fe6f_J5_isLatin1_aae02 : GoodIn wsJ5_append_3fe6f wsJ5_isLatin1_aae02 := goodIn_r _ [50, 51, 9, 108, 109, 110, 111] rfl (by decide +kernel)
set_option maxRecDepth 20000 in
theorem gJ5_append_3fe6f_J5_isLatin1_aae02_u83J4 : GoodIn wsJ5_append_3fe6f (va_wsU RJ5 83 RJ4 "java/lang/AbstractStringBuilder" ⟨"java/lang/AbstractStringBuilder", "isLatin1", "()Z"⟩ yJ5_isLatin1_aae02 wsJ5_isLatin1_aae02) := goodIn_app (goodIn_of _ (by decide +kernel)) ggJ5_append_3fe6f_J5_isLatin1_aae02
set_option maxRecDepth 20000 in
theorem ggJ5_append_3fe6f_J1_canEncode_fc78d : GoodIn wsJ5_append_3fe6f wsJ1_canEncode_fc78d := goodIn_r _ [55] rfl (by decide +kernel)
set_option maxRecDepth 20000 in
theorem gJ5_append_3fe6f_J1_canEncode_fc78d : GoodIn wsJ5_append_3fe6f (va_wsS RJ5 191 yJ1_canEncode_fc78d wsJ1_canEncode_fc78d) := goodIn_app (goodIn_of _ (by decide +kernel)) ggJ5_append_3fe6f_J1_canEncode_fc78d
set_option maxRecDepth 20000 in
theorem ggJ5_append_3fe6f_J5_inflate_da8c8 : GoodIn wsJ5_append_3fe6f wsJ5_inflate_da8c8 := goodIn_r _ [60, 2, 1, 9, 46, 47, 48, 49, 7, 50, 51, 61, 62, 63, 64, 38, 65, 66, 67, 68, 69, 70, 54, 71, 72, 73, 74, 75, 76, 77, 78, 79, 80, 81, 82, 83, 84, 85, 86, 87, 88, 89, 90, 91, 92, 93, 94, 95, 108, 109, 110, 111] rfl (by decide +kernel)
set_option maxRecDepth 20000 in
theorem gJ5_append_3fe6f_J5_inflate_da8c8_u195J4 : GoodIn wsJ5_append_3fe6f (va_wsU RJ5 195 RJ4 "java/lang/AbstractStringBuilder" ⟨"java/lang/AbstractStringBuilder", "inflate", "()V"⟩ yJ5_inflate_da8c8 wsJ5_inflate_da8c8) := goodIn_app (goodIn_of _ (by decide +kernel)) ggJ5_append_3fe6f_J5_inflate_da8c8
set_option maxRecDepth 20000 in
theorem ggJ5_append_3fe6f_J2_putCharSB_b72d1 : GoodIn wsJ5_append_3fe6f wsJ2_putCharSB_b72d1 := goodIn_r _ [98, 99, 100, 63, 101, 78, 79, 80, 102, 103, 83, 104, 85, 105, 106, 88, 107, 90, 91, 92, 93, 94, 95] rfl (by decide +kernel)
set_option maxRecDepth 20000 in
theorem gJ5_append_3fe6f_J2_putCharSB_b72d1 : GoodIn wsJ5_append_3fe6f (va_wsS RJ5 197 yJ2_putCharSB_b72d1 wsJ2_putCharSB_b72d1) := goodIn_app (goodIn_of _ (by decide +kernel)) ggJ5_append_3fe6f_J2_putCharSB_b72d1
theorem dJ5_append_3fe6f_0 : decode cJ5_append_3fe6f 0 = .ok (.aload_n 0, 1) := by decide +kernel
theorem dJ5_append_3fe6f_1 : decode cJ5_append_3fe6f 1 = .ok (.aload_n 0, 1) := by decide +kernel
theorem dJ5_append_3fe6f_2 : decode cJ5_append_3fe6f 2 = .ok (.getfield 79, 3) := by decide +kernel
theorem dJ5_append_3fe6f_5 : decode cJ5_append_3fe6f 5 = .ok (.iconst 1, 1) := by decide +kernel
theorem dJ5_append_3fe6f_6 : decode cJ5_append_3fe6f 6 = .ok (.iadd, 1) := by decide +kernel
theorem dJ5_append_3fe6f_7 : decode cJ5_append_3fe6f 7 = .ok (.invokevirtual 100, 3) := by decide +kernel
theorem dJ5_append_3fe6f_10 : decode cJ5_append_3fe6f 10 = .ok (.aload_n 0, 1) := by decide +kernel
theorem dJ5_append_3fe6f_11 : decode cJ5_append_3fe6f 11 = .ok (.invokevirtual 83, 3) := by decide +kernel
theorem dJ5_append_3fe6f_14 : decode cJ5_append_3fe6f 14 = .ok (.ifCond .eq 31, 3) := by decide +kernel
theorem dJ5_append_3fe6f_17 : decode cJ5_append_3fe6f 17 = .ok (.iload_n 1, 1) := by decide +kernel
theorem dJ5_append_3fe6f_18 : decode cJ5_append_3fe6f 18 = .ok (.invokestatic 191, 3) := by decide +kernel
theorem dJ5_append_3fe6f_21 : decode cJ5_append_3fe6f 21 = .ok (.ifCond .eq 24, 3) := by decide +kernel
theorem dJ5_append_3fe6f_24 : decode cJ5_append_3fe6f 24 = .ok (.aload_n 0, 1) := by decide +kernel
theorem dJ5_append_3fe6f_25 : decode cJ5_append_3fe6f 25 = .ok (.getfield 15, 3) := by decide +kernel
theorem dJ5_append_3fe6f_28 : decode cJ5_append_3fe6f 28 = .ok (.aload_n 0, 1) := by decide +kernel
theorem dJ5_append_3fe6f_29 : decode cJ5_append_3fe6f 29 = .ok (.dup, 1) := by decide +kernel
theorem dJ5_append_3fe6f_30 : decode cJ5_append_3fe6f 30 = .ok (.getfield 79, 3) := by decide +kernel
theorem dJ5_append_3fe6f_33 : decode cJ5_append_3fe6f 33 = .ok (.dup_x1, 1) := by decide +kernel
theorem dJ5_append_3fe6f_34 : decode cJ5_append_3fe6f 34 = .ok (.iconst 1, 1) := by decide +kernel
theorem dJ5_append_3fe6f_35 : decode cJ5_append_3fe6f 35 = .ok (.iadd, 1) := by decide +kernel
theorem dJ5_append_3fe6f_36 : decode cJ5_append_3fe6f 36 = .ok (.putfield 79, 3) := by decide +kernel
theorem dJ5_append_3fe6f_39 : decode cJ5_append_3fe6f 39 = .ok (.iload_n 1, 1) := by decide +kernel
theorem dJ5_append_3fe6f_40 : decode cJ5_append_3fe6f 40 = .ok (.i2b, 1) := by decide +kernel
theorem dJ5_append_3fe6f_41 : decode cJ5_append_3fe6f 41 = .ok (.bastore, 1) := by decide +kernel
theorem dJ5_append_3fe6f_42 : decode cJ5_append_3fe6f 42 = .ok (.goto 33, 3) := by decide +kernel
theorem dJ5_append_3fe6f_45 : decode cJ5_append_3fe6f 45 = .ok (.aload_n 0, 1) := by decide +kernel
theorem dJ5_append_3fe6f_46 : decode cJ5_append_3fe6f 46 = .ok (.invokevirtual 83, 3) := by decide +kernel
theorem dJ5_append_3fe6f_49 : decode cJ5_append_3fe6f 49 = .ok (.ifCond .eq 7, 3) := by decide +kernel
theorem dJ5_append_3fe6f_52 : decode cJ5_append_3fe6f 52 = .ok (.aload_n 0, 1) := by decide +kernel
theorem dJ5_append_3fe6f_53 : decode cJ5_append_3fe6f 53 = .ok (.invokevirtual 195, 3) := by decide +kernel
theorem dJ5_append_3fe6f_56 : decode cJ5_append_3fe6f 56 = .ok (.aload_n 0, 1) := by decide +kernel
theorem dJ5_append_3fe6f_57 : decode cJ5_append_3fe6f 57 = .ok (.getfield 15, 3) := by decide +kernel
theorem dJ5_append_3fe6f_60 : decode cJ5_append_3fe6f 60 = .ok (.aload_n 0, 1) := by decide +kernel
theorem dJ5_append_3fe6f_61 : decode cJ5_append_3fe6f 61 = .ok (.dup, 1) := by decide +kernel
theorem dJ5_append_3fe6f_62 : decode cJ5_append_3fe6f 62 = .ok (.getfield 79, 3) := by decide +kernel
theorem dJ5_append_3fe6f_65 : decode cJ5_append_3fe6f 65 = .ok (.dup_x1, 1) := by decide +kernel
theorem dJ5_append_3fe6f_66 : decode cJ5_append_3fe6f 66 = .ok (.iconst 1, 1) := by decide +kernel
theorem dJ5_append_3fe6f_67 : decode cJ5_append_3fe6f 67 = .ok (.iadd, 1) := by decide +kernel
theorem dJ5_append_3fe6f_68 : decode cJ5_append_3fe6f 68 = .ok (.putfield 79, 3) := by decide +kernel
theorem dJ5_append_3fe6f_71 : decode cJ5_append_3fe6f 71 = .ok (.iload_n 1, 1) := by decide +kernel
theorem dJ5_append_3fe6f_72 : decode cJ5_append_3fe6f 72 = .ok (.invokestatic 197, 3) := by decide +kernel
theorem dJ5_append_3fe6f_75 : decode cJ5_append_3fe6f 75 = .ok (.aload_n 0, 1) := by decide +kernel
theorem dJ5_append_3fe6f_76 : decode cJ5_append_3fe6f 76 = .ok (.areturn, 1) := by decide +kernel
set_option maxRecDepth 20000 in
theorem ggJ5_append_c97b9_J6_stringSize_0f7a4 : GoodIn wsJ5_append_c97b9 wsJ6_stringSize_0f7a4 := goodIn_r _ [6] rfl (by decide +kernel)
set_option maxRecDepth 20000 in
theorem gJ5_append_c97b9_J6_stringSize_0f7a4 : GoodIn wsJ5_append_c97b9 (va_wsS RJ5 245 yJ6_stringSize_0f7a4 wsJ6_stringSize_0f7a4) := goodIn_app (goodIn_of _ (by decide +kernel)) ggJ5_append_c97b9_J6_stringSize_0f7a4
set_option maxRecDepth 20000 in
theorem ggJ5_append_c97b9_J5_ensureCapacityInternal_d00df : GoodIn wsJ5_append_c97b9 wsJ5_ensureCapacityInternal_d00df := goodIn_r _ [12, 2, 13, 14, 15, 16, 17, 11, 18, 19, 20, 21, 22, 23, 24, 25, 26, 27, 28, 29, 30, 31, 32, 33, 34, 35, 36, 37, 38, 39, 40, 41, 42, 43, 44, 45, 46, 47, 48, 49, 91, 92, 93, 94] rfl (by decide +kernel)
set_option maxRecDepth 20000 in
theorem gJ5_append_c97b9_J5_ensureCapacityInternal_d00df_u100J4 : GoodIn wsJ5_append_c97b9 (va_wsU RJ5 100 RJ4 "java/lang/AbstractStringBuilder" ⟨"java/lang/AbstractStringBuilder", "ensureCapacityInternal", "(I)V"⟩ yJ5_ensureCapacityInternal_d00df wsJ5_ensureCapacityInternal_d00df) := goodIn_app (goodIn_of _ (by decide +kernel)) ggJ5_append_c97b9_J5_ensureCapacityInternal_d00df
set_option maxRecDepth 20000 in
theorem ggJ5_append_c97b9_J5_isLatin1_aae02 : GoodIn wsJ5_append_c97b9 wsJ5_isLatin1_aae02 := goodIn_r _ [54, 55, 13, 91, 92, 93, 94] rfl (by decide +kernel)
set_option maxRecDepth 20000 in
theorem gJ5_append_c97b9_J5_isLatin1_aae02_u83J4 : GoodIn wsJ5_append_c97b9 (va_wsU RJ5 83 RJ4 "java/lang/AbstractStringBuilder" ⟨"java/lang/AbstractStringBuilder", "isLatin1", "()Z"⟩ yJ5_isLatin1_aae02 wsJ5_isLatin1_aae02) := goodIn_app (goodIn_of _ (by decide +kernel)) ggJ5_append_c97b9_J5_isLatin1_aae02
set_option maxRecDepth 20000 in
theorem ggJ5_append_c97b9_J6_getChars_ba4f3 : GoodIn wsJ5_append_c97b9 wsJ6_getChars_ba4f3 := goodIn_r _ [58, 59, 60] rfl (by decide +kernel)
set_option maxRecDepth 20000 in
theorem gJ5_append_c97b9_J6_getChars_ba4f3 : GoodIn wsJ5_append_c97b9 (va_wsS RJ5 248 yJ6_getChars_ba4f3 wsJ6_getChars_ba4f3) := goodIn_app (goodIn_of _ (by decide +kernel)) ggJ5_append_c97b9_J6_getChars_ba4f3
set_option maxRecDepth 20000 in
theorem ggJ5_append_c97b9_J2_getChars_46870 : GoodIn wsJ5_append_c97b9 wsJ2_getChars_46870 := goodIn_r _ [64, 65, 66, 67, 63, 68, 69, 70, 71, 72, 73, 74, 75, 76, 77, 78, 79, 80, 81, 82, 83, 84, 85, 86, 87, 88, 89, 90] rfl (by decide +kernel)
set_option maxRecDepth 20000 in
theorem gJ5_append_c97b9_J2_getChars_46870 : GoodIn wsJ5_append_c97b9 (va_wsS RJ5 251 yJ2_getChars_46870 wsJ2_getChars_46870) := goodIn_app (goodIn_of _ (by decide +kernel)) ggJ5_append_c97b9_J2_getChars_46870
theorem dJ5_append_c97b9_0 : decode cJ5_append_c97b9 0 = .ok (.aload_n 0, 1) := by decide +kernel
theorem dJ5_append_c97b9_1 : decode cJ5_append_c97b9 1 = .ok (.getfield 79, 3) := by decide +kernel
theorem dJ5_append_c97b9_4 : decode cJ5_append_c97b9 4 = .ok (.istore_n 2, 1) := by decide +kernel
theorem dJ5_append_c97b9_5 : decode cJ5_append_c97b9 5 = .ok (.iload_n 2, 1) := by decide +kernel
theorem dJ5_append_c97b9_6 : decode cJ5_append_c97b9 6 = .ok (.iload_n 1, 1) := by decide +kernel
theorem dJ5_append_c97b9_7 : decode cJ5_append_c97b9 7 = .ok (.invokestatic 245, 3) := by decide +kernel
theorem dJ5_append_c97b9_10 : decode cJ5_append_c97b9 10 = .ok (.iadd, 1) := by decide +kernel
theorem dJ5_append_c97b9_11 : decode cJ5_append_c97b9 11 = .ok (.istore_n 3, 1) := by decide +kernel
theorem dJ5_append_c97b9_12 : decode cJ5_append_c97b9 12 = .ok (.aload_n 0, 1) := by decide +kernel
theorem dJ5_append_c97b9_13 : decode cJ5_append_c97b9 13 = .ok (.iload_n 3, 1) := by decide +kernel
theorem dJ5_append_c97b9_14 : decode cJ5_append_c97b9 14 = .ok (.invokevirtual 100, 3) := by decide +kernel
theorem dJ5_append_c97b9_17 : decode cJ5_append_c97b9 17 = .ok (.aload_n 0, 1) := by decide +kernel
theorem dJ5_append_c97b9_18 : decode cJ5_append_c97b9 18 = .ok (.invokevirtual 83, 3) := by decide +kernel
theorem dJ5_append_c97b9_21 : decode cJ5_append_c97b9 21 = .ok (.ifCond .eq 16, 3) := by decide +kernel
theorem dJ5_append_c97b9_24 : decode cJ5_append_c97b9 24 = .ok (.iload_n 1, 1) := by decide +kernel
theorem dJ5_append_c97b9_25 : decode cJ5_append_c97b9 25 = .ok (.iload_n 3, 1) := by decide +kernel
theorem dJ5_append_c97b9_26 : decode cJ5_append_c97b9 26 = .ok (.aload_n 0, 1) := by decide +kernel
theorem dJ5_append_c97b9_27 : decode cJ5_append_c97b9 27 = .ok (.getfield 15, 3) := by decide +kernel
theorem dJ5_append_c97b9_30 : decode cJ5_append_c97b9 30 = .ok (.invokestatic 248, 3) := by decide +kernel
theorem dJ5_append_c97b9_33 : decode cJ5_append_c97b9 33 = .ok (.pop, 1) := by decide +kernel
theorem dJ5_append_c97b9_34 : decode cJ5_append_c97b9 34 = .ok (.goto 14, 3) := by decide +kernel
theorem dJ5_append_c97b9_37 : decode cJ5_append_c97b9 37 = .ok (.iload_n 1, 1) := by decide +kernel
theorem dJ5_append_c97b9_38 : decode cJ5_append_c97b9 38 = .ok (.iload_n 2, 1) := by decide +kernel
theorem dJ5_append_c97b9_39 : decode cJ5_append_c97b9 39 = .ok (.iload_n 3, 1) := by decide +kernel
theorem dJ5_append_c97b9_40 : decode cJ5_append_c97b9 40 = .ok (.aload_n 0, 1) := by decide +kernel
theorem dJ5_append_c97b9_41 : decode cJ5_append_c97b9 41 = .ok (.getfield 15, 3) := by decide +kernel
theorem dJ5_append_c97b9_44 : decode cJ5_append_c97b9 44 = .ok (.invokestatic 251, 3) := by decide +kernel
theorem dJ5_append_c97b9_47 : decode cJ5_append_c97b9 47 = .ok (.pop, 1) := by decide +kernel
theorem dJ5_append_c97b9_48 : decode cJ5_append_c97b9 48 = .ok (.aload_n 0, 1) := by decide +kernel
theorem dJ5_append_c97b9_49 : decode cJ5_append_c97b9 49 = .ok (.iload_n 3, 1) := by decide +kernel
theorem dJ5_append_c97b9_50 : decode cJ5_append_c97b9 50 = .ok (.putfield 79, 3) := by decide +kernel
theorem dJ5_append_c97b9_53 : decode cJ5_append_c97b9 53 = .ok (.aload_n 0, 1) := by decide +kernel
theorem dJ5_append_c97b9_54 : decode cJ5_append_c97b9 54 = .ok (.areturn, 1) := by decide +kernel
theorem dJ5_getValue_6d5f1_0 : decode cJ5_getValue_6d5f1 0 = .ok (.aload_n 0, 1) := by decide +kernel
theorem dJ5_getValue_6d5f1_1 : decode cJ5_getValue_6d5f1 1 = .ok (.getfield 15, 3) := by decide +kernel
theorem dJ5_getValue_6d5f1_4 : decode cJ5_getValue_6d5f1 4 = .ok (.areturn, 1) := by decide +kernel
theorem dJ5_isLatin1_aae02_0 : decode cJ5_isLatin1_aae02 0 = .ok (.getstatic 18, 3) := by decide +kernel
theorem dJ5_isLatin1_aae02_3 : decode cJ5_isLatin1_aae02 3 = .ok (.ifCond .eq 14, 3) := by decide +kernel
theorem dJ5_isLatin1_aae02_6 : decode cJ5_isLatin1_aae02 6 = .ok (.aload_n 0, 1) := by decide +kernel
theorem dJ5_isLatin1_aae02_7 : decode cJ5_isLatin1_aae02 7 = .ok (.getfield 22, 3) := by decide +kernel
theorem dJ5_isLatin1_aae02_10 : decode cJ5_isLatin1_aae02 10 = .ok (.ifCond .ne 7, 3) := by decide +kernel
theorem dJ5_isLatin1_aae02_13 : decode cJ5_isLatin1_aae02 13 = .ok (.iconst 1, 1) := by decide +kernel
theorem dJ5_isLatin1_aae02_14 : decode cJ5_isLatin1_aae02 14 = .ok (.goto 4, 3) := by decide +kernel
theorem dJ5_isLatin1_aae02_17 : decode cJ5_isLatin1_aae02 17 = .ok (.iconst 0, 1) := by decide +kernel
theorem dJ5_isLatin1_aae02_18 : decode cJ5_isLatin1_aae02 18 = .ok (.ireturn, 1) := by decide +kernel
set_option maxRecDepth 20000 in
theorem ggJ5_inflateIfNeededFor_a7421_J0_coder_7d493 : GoodIn wsJ5_inflateIfNeededFor_a7421 wsJ0_coder_7d493 := goodIn_r _ [7, 8, 9, 63, 64, 65, 66] rfl (by decide +kernel)
set_option maxRecDepth 20000 in
theorem gJ5_inflateIfNeededFor_a7421_J0_coder_7d493 : GoodIn wsJ5_inflateIfNeededFor_a7421 (wsV RJ5 40 RJ0 yJ0_coder_7d493 wsJ0_coder_7d493) := goodIn_app (goodIn_of _ (by decide +kernel)) ggJ5_inflateIfNeededFor_a7421_J0_coder_7d493
set_option maxRecDepth 20000 in
theorem ggJ5_inflateIfNeededFor_a7421_J5_inflate_da8c8 : GoodIn wsJ5_inflateIfNeededFor_a7421 wsJ5_inflate_da8c8 := goodIn_r _ [15, 16, 17, 2, 18, 19, 20, 21, 14, 22, 1, 23, 24, 25, 26, 27, 28, 29, 30, 31, 32, 33, 34, 35, 36, 37, 38, 39, 40, 41, 42, 43, 44, 45, 46, 6, 47, 48, 49, 50, 51, 52, 53, 54, 55, 56, 57, 58, 59, 60, 61, 62] rfl (by decide +kernel)
set_option maxRecDepth 20000 in
theorem gJ5_inflateIfNeededFor_a7421_J5_inflate_da8c8_u195J4 : GoodIn wsJ5_inflateIfNeededFor_a7421 (va_wsU RJ5 195 RJ4 "java/lang/AbstractStringBuilder" ⟨"java/lang/AbstractStringBuilder", "inflate", "()V"⟩ yJ5_inflate_da8c8 wsJ5_inflate_da8c8) := goodIn_app (goodIn_of _ (by decide +kernel)) ggJ5_inflateIfNeededFor_a7421_J5_inflate_da8c8
theorem dJ5_inflateIfNeededFor_a7421_0 : decode cJ5_inflateIfNeededFor_a7421 0 = .ok (.getstatic 18, 3) := by decide +kernel
theorem dJ5_inflateIfNeededFor_a7421_3 : decode cJ5_inflateIfNeededFor_a7421 3 = .ok (.ifCond .eq 18, 3) := by decide +kernel
theorem dJ5_inflateIfNeededFor_a7421_6 : decode cJ5_inflateIfNeededFor_a7421 6 = .ok (.aload_n 0, 1) := by decide +kernel
theorem dJ5_inflateIfNeededFor_a7421_7 : decode cJ5_inflateIfNeededFor_a7421 7 = .ok (.getfield 22, 3) := by decide +kernel
theorem dJ5_inflateIfNeededFor_a7421_10 : decode cJ5_inflateIfNeededFor_a7421 10 = .ok (.aload_n 1, 1) := by decide +kernel
theorem dJ5_inflateIfNeededFor_a7421_11 : decode cJ5_inflateIfNeededFor_a7421 11 = .ok (.invokevirtual 40, 3) := by decide +kernel
theorem dJ5_inflateIfNeededFor_a7421_14 : decode cJ5_inflateIfNeededFor_a7421 14 = .ok (.if_icmp .eq 7, 3) := by decide +kernel
theorem dJ5_inflateIfNeededFor_a7421_17 : decode cJ5_inflateIfNeededFor_a7421 17 = .ok (.aload_n 0, 1) := by decide +kernel
theorem dJ5_inflateIfNeededFor_a7421_18 : decode cJ5_inflateIfNeededFor_a7421 18 = .ok (.invokevirtual 195, 3) := by decide +kernel
theorem dJ5_inflateIfNeededFor_a7421_21 : decode cJ5_inflateIfNeededFor_a7421 21 = .ok (.return_, 1) := by decide +kernel
set_option maxRecDepth 20000 in
theorem ggJ5_putStringAt_47b60_J5_inflateIfNeededFor_a7421 : GoodIn wsJ5_putStringAt_47b60 wsJ5_inflateIfNeededFor_a7421 := goodIn_r _ [8, 9, 2, 10, 11, 12, 13, 14, 15, 16, 17, 18, 19, 20, 7, 21, 1, 22, 23, 24, 25, 26, 27, 28, 29, 30, 31, 32, 33, 34, 35, 36, 37, 38, 39, 40, 41, 42, 43, 44, 45, 46, 47, 48, 49, 50, 51, 52, 53, 54, 55, 56, 57, 58, 59, 60, 61, 62, 63, 75, 76, 77, 78, 79, 80, 81, 82] rfl (by decide +kernel)
set_option maxRecDepth 20000 in
theorem gJ5_putStringAt_47b60_J5_inflateIfNeededFor_a7421_u397J4 : GoodIn wsJ5_putStringAt_47b60 (va_wsU RJ5 397 RJ4 "java/lang/AbstractStringBuilder" ⟨"java/lang/AbstractStringBuilder", "inflateIfNeededFor", "(Ljava/lang/String;)V"⟩ yJ5_inflateIfNeededFor_a7421 wsJ5_inflateIfNeededFor_a7421) := goodIn_app (goodIn_of _ (by decide +kernel)) ggJ5_putStringAt_47b60_J5_inflateIfNeededFor_a7421
set_option maxRecDepth 20000 in
theorem ggJ5_putStringAt_47b60_J0_getBytes_840e7 : GoodIn wsJ5_putStringAt_47b60 wsJ0_getBytes_840e7 := goodIn_r _ [67, 68, 69, 70, 71, 72, 73, 11, 12, 13, 14, 15, 16, 74, 38, 39, 40, 41, 42, 30, 43, 44, 45, 46, 47, 48, 49, 50, 51, 52, 53, 54, 55, 56, 57, 58, 59, 60, 61, 62, 63, 79, 80, 81, 82] rfl (by decide +kernel)
set_option maxRecDepth 20000 in
theorem gJ5_putStringAt_47b60_J0_getBytes_840e7 : GoodIn wsJ5_putStringAt_47b60 (wsV RJ5 399 RJ0 yJ0_getBytes_840e7 wsJ0_getBytes_840e7) := goodIn_app (goodIn_of _ (by decide +kernel)) ggJ5_putStringAt_47b60_J0_getBytes_840e7
theorem dJ5_putStringAt_47b60_0 : decode cJ5_putStringAt_47b60 0 = .ok (.aload_n 0, 1) := by decide +kernel
theorem dJ5_putStringAt_47b60_1 : decode cJ5_putStringAt_47b60 1 = .ok (.aload_n 2, 1) := by decide +kernel
theorem dJ5_putStringAt_47b60_2 : decode cJ5_putStringAt_47b60 2 = .ok (.invokevirtual 397, 3) := by decide +kernel
theorem dJ5_putStringAt_47b60_5 : decode cJ5_putStringAt_47b60 5 = .ok (.aload_n 2, 1) := by decide +kernel
theorem dJ5_putStringAt_47b60_6 : decode cJ5_putStringAt_47b60 6 = .ok (.aload_n 0, 1) := by decide +kernel
theorem dJ5_putStringAt_47b60_7 : decode cJ5_putStringAt_47b60 7 = .ok (.getfield 15, 3) := by decide +kernel
theorem dJ5_putStringAt_47b60_10 : decode cJ5_putStringAt_47b60 10 = .ok (.iload_n 1, 1) := by decide +kernel
theorem dJ5_putStringAt_47b60_11 : decode cJ5_putStringAt_47b60 11 = .ok (.aload_n 0, 1) := by decide +kernel
theorem dJ5_putStringAt_47b60_12 : decode cJ5_putStringAt_47b60 12 = .ok (.getfield 22, 3) := by decide +kernel
theorem dJ5_putStringAt_47b60_15 : decode cJ5_putStringAt_47b60 15 = .ok (.invokevirtual 399, 3) := by decide +kernel
theorem dJ5_putStringAt_47b60_18 : decode cJ5_putStringAt_47b60 18 = .ok (.return_, 1) := by decide +kernel
theorem dJ6_getChars_ba4f3_0 : decode cJ6_getChars_ba4f3 0 = .ok (.iload_n 1, 1) := by decide +kernel
theorem dJ6_getChars_ba4f3_1 : decode cJ6_getChars_ba4f3 1 = .ok (.istore 5, 2) := by decide +kernel
theorem dJ6_getChars_ba4f3_3 : decode cJ6_getChars_ba4f3 3 = .ok (.iload_n 0, 1) := by decide +kernel
theorem dJ6_getChars_ba4f3_4 : decode cJ6_getChars_ba4f3 4 = .ok (.ifCond .ge 7, 3) := by decide +kernel
theorem dJ6_getChars_ba4f3_7 : decode cJ6_getChars_ba4f3 7 = .ok (.iconst 1, 1) := by decide +kernel
theorem dJ6_getChars_ba4f3_8 : decode cJ6_getChars_ba4f3 8 = .ok (.goto 4, 3) := by decide +kernel
theorem dJ6_getChars_ba4f3_11 : decode cJ6_getChars_ba4f3 11 = .ok (.iconst 0, 1) := by decide +kernel
theorem dJ6_getChars_ba4f3_12 : decode cJ6_getChars_ba4f3 12 = .ok (.istore 6, 2) := by decide +kernel
theorem dJ6_getChars_ba4f3_14 : decode cJ6_getChars_ba4f3 14 = .ok (.iload 6, 2) := by decide +kernel
theorem dJ6_getChars_ba4f3_16 : decode cJ6_getChars_ba4f3 16 = .ok (.ifCond .ne 6, 3) := by decide +kernel
theorem dJ6_getChars_ba4f3_19 : decode cJ6_getChars_ba4f3 19 = .ok (.iload_n 0, 1) := by decide +kernel
theorem dJ6_getChars_ba4f3_20 : decode cJ6_getChars_ba4f3 20 = .ok (.ineg, 1) := by decide +kernel
theorem dJ6_getChars_ba4f3_21 : decode cJ6_getChars_ba4f3 21 = .ok (.istore_n 0, 1) := by decide +kernel
theorem dJ6_getChars_ba4f3_22 : decode cJ6_getChars_ba4f3 22 = .ok (.iload_n 0, 1) := by decide +kernel
theorem dJ6_getChars_ba4f3_23 : decode cJ6_getChars_ba4f3 23 = .ok (.bipush (-100), 2) := by decide +kernel
theorem dJ6_getChars_ba4f3_25 : decode cJ6_getChars_ba4f3 25 = .ok (.if_icmp .gt 47, 3) := by decide +kernel
theorem dJ6_getChars_ba4f3_28 : decode cJ6_getChars_ba4f3 28 = .ok (.iload_n 0, 1) := by decide +kernel
theorem dJ6_getChars_ba4f3_29 : decode cJ6_getChars_ba4f3 29 = .ok (.bipush 100, 2) := by decide +kernel
theorem dJ6_getChars_ba4f3_31 : decode cJ6_getChars_ba4f3 31 = .ok (.idiv, 1) := by decide +kernel
theorem dJ6_getChars_ba4f3_32 : decode cJ6_getChars_ba4f3 32 = .ok (.istore_n 3, 1) := by decide +kernel
theorem dJ6_getChars_ba4f3_33 : decode cJ6_getChars_ba4f3 33 = .ok (.iload_n 3, 1) := by decide +kernel
theorem dJ6_getChars_ba4f3_34 : decode cJ6_getChars_ba4f3 34 = .ok (.bipush 100, 2) := by decide +kernel
theorem dJ6_getChars_ba4f3_36 : decode cJ6_getChars_ba4f3 36 = .ok (.imul, 1) := by decide +kernel
theorem dJ6_getChars_ba4f3_37 : decode cJ6_getChars_ba4f3 37 = .ok (.iload_n 0, 1) := by decide +kernel
theorem dJ6_getChars_ba4f3_38 : decode cJ6_getChars_ba4f3 38 = .ok (.isub, 1) := by decide +kernel
theorem dJ6_getChars_ba4f3_39 : decode cJ6_getChars_ba4f3 39 = .ok (.istore 4, 2) := by decide +kernel
theorem dJ6_getChars_ba4f3_41 : decode cJ6_getChars_ba4f3 41 = .ok (.iload_n 3, 1) := by decide +kernel
theorem dJ6_getChars_ba4f3_42 : decode cJ6_getChars_ba4f3 42 = .ok (.istore_n 0, 1) := by decide +kernel
theorem dJ6_getChars_ba4f3_43 : decode cJ6_getChars_ba4f3 43 = .ok (.aload_n 2, 1) := by decide +kernel
theorem dJ6_getChars_ba4f3_44 : decode cJ6_getChars_ba4f3 44 = .ok (.iinc 5 (-1), 3) := by decide +kernel
theorem dJ6_getChars_ba4f3_47 : decode cJ6_getChars_ba4f3 47 = .ok (.iload 5, 2) := by decide +kernel
theorem dJ6_getChars_ba4f3_49 : decode cJ6_getChars_ba4f3 49 = .ok (.getstatic 83, 3) := by decide +kernel
theorem dJ6_getChars_ba4f3_52 : decode cJ6_getChars_ba4f3 52 = .ok (.iload 4, 2) := by decide +kernel
theorem dJ6_getChars_ba4f3_54 : decode cJ6_getChars_ba4f3 54 = .ok (.baload, 1) := by decide +kernel
theorem dJ6_getChars_ba4f3_55 : decode cJ6_getChars_ba4f3 55 = .ok (.bastore, 1) := by decide +kernel
theorem dJ6_getChars_ba4f3_56 : decode cJ6_getChars_ba4f3 56 = .ok (.aload_n 2, 1) := by decide +kernel
theorem dJ6_getChars_ba4f3_57 : decode cJ6_getChars_ba4f3 57 = .ok (.iinc 5 (-1), 3) := by decide +kernel
theorem dJ6_getChars_ba4f3_60 : decode cJ6_getChars_ba4f3 60 = .ok (.iload 5, 2) := by decide +kernel
theorem dJ6_getChars_ba4f3_62 : decode cJ6_getChars_ba4f3 62 = .ok (.getstatic 87, 3) := by decide +kernel
theorem dJ6_getChars_ba4f3_65 : decode cJ6_getChars_ba4f3 65 = .ok (.iload 4, 2) := by decide +kernel
theorem dJ6_getChars_ba4f3_67 : decode cJ6_getChars_ba4f3 67 = .ok (.baload, 1) := by decide +kernel
theorem dJ6_getChars_ba4f3_68 : decode cJ6_getChars_ba4f3 68 = .ok (.bastore, 1) := by decide +kernel
theorem dJ6_getChars_ba4f3_69 : decode cJ6_getChars_ba4f3 69 = .ok (.goto (-47), 3) := by decide +kernel
theorem dJ6_getChars_ba4f3_72 : decode cJ6_getChars_ba4f3 72 = .ok (.aload_n 2, 1) := by decide +kernel
theorem dJ6_getChars_ba4f3_73 : decode cJ6_getChars_ba4f3 73 = .ok (.iinc 5 (-1), 3) := by decide +kernel
theorem dJ6_getChars_ba4f3_76 : decode cJ6_getChars_ba4f3 76 = .ok (.iload 5, 2) := by decide +kernel
theorem dJ6_getChars_ba4f3_78 : decode cJ6_getChars_ba4f3 78 = .ok (.getstatic 83, 3) := by decide +kernel
theorem dJ6_getChars_ba4f3_81 : decode cJ6_getChars_ba4f3 81 = .ok (.iload_n 0, 1) := by decide +kernel
theorem dJ6_getChars_ba4f3_82 : decode cJ6_getChars_ba4f3 82 = .ok (.ineg, 1) := by decide +kernel
theorem dJ6_getChars_ba4f3_83 : decode cJ6_getChars_ba4f3 83 = .ok (.baload, 1) := by decide +kernel
theorem dJ6_getChars_ba4f3_84 : decode cJ6_getChars_ba4f3 84 = .ok (.bastore, 1) := by decide +kernel
theorem dJ6_getChars_ba4f3_85 : decode cJ6_getChars_ba4f3 85 = .ok (.iload_n 0, 1) := by decide +kernel
theorem dJ6_getChars_ba4f3_86 : decode cJ6_getChars_ba4f3 86 = .ok (.bipush (-9), 2) := by decide +kernel
theorem dJ6_getChars_ba4f3_88 : decode cJ6_getChars_ba4f3 88 = .ok (.if_icmp .ge 16, 3) := by decide +kernel
theorem dJ6_getChars_ba4f3_91 : decode cJ6_getChars_ba4f3 91 = .ok (.aload_n 2, 1) := by decide +kernel
theorem dJ6_getChars_ba4f3_92 : decode cJ6_getChars_ba4f3 92 = .ok (.iinc 5 (-1), 3) := by decide +kernel
theorem dJ6_getChars_ba4f3_95 : decode cJ6_getChars_ba4f3 95 = .ok (.iload 5, 2) := by decide +kernel
theorem dJ6_getChars_ba4f3_97 : decode cJ6_getChars_ba4f3 97 = .ok (.getstatic 87, 3) := by decide +kernel
theorem dJ6_getChars_ba4f3_100 : decode cJ6_getChars_ba4f3 100 = .ok (.iload_n 0, 1) := by decide +kernel
theorem dJ6_getChars_ba4f3_101 : decode cJ6_getChars_ba4f3 101 = .ok (.ineg, 1) := by decide +kernel
theorem dJ6_getChars_ba4f3_102 : decode cJ6_getChars_ba4f3 102 = .ok (.baload, 1) := by decide +kernel
theorem dJ6_getChars_ba4f3_103 : decode cJ6_getChars_ba4f3 103 = .ok (.bastore, 1) := by decide +kernel
theorem dJ6_getChars_ba4f3_104 : decode cJ6_getChars_ba4f3 104 = .ok (.iload 6, 2) := by decide +kernel
theorem dJ6_getChars_ba4f3_106 : decode cJ6_getChars_ba4f3 106 = .ok (.ifCond .eq 12, 3) := by decide +kernel
theorem dJ6_getChars_ba4f3_109 : decode cJ6_getChars_ba4f3 109 = .ok (.aload_n 2, 1) := by decide +kernel
theorem dJ6_getChars_ba4f3_110 : decode cJ6_getChars_ba4f3 110 = .ok (.iinc 5 (-1), 3) := by decide +kernel
theorem dJ6_getChars_ba4f3_113 : decode cJ6_getChars_ba4f3 113 = .ok (.iload 5, 2) := by decide +kernel
theorem dJ6_getChars_ba4f3_115 : decode cJ6_getChars_ba4f3 115 = .ok (.bipush 45, 2) := by decide +kernel
theorem dJ6_getChars_ba4f3_117 : decode cJ6_getChars_ba4f3 117 = .ok (.bastore, 1) := by decide +kernel
theorem dJ6_getChars_ba4f3_118 : decode cJ6_getChars_ba4f3 118 = .ok (.iload 5, 2) := by decide +kernel
theorem dJ6_getChars_ba4f3_120 : decode cJ6_getChars_ba4f3 120 = .ok (.ireturn, 1) := by decide +kernel
theorem dJ6_stringSize_0f7a4_0 : decode cJ6_stringSize_0f7a4 0 = .ok (.iconst 1, 1) := by decide +kernel
theorem dJ6_stringSize_0f7a4_1 : decode cJ6_stringSize_0f7a4 1 = .ok (.istore_n 1, 1) := by decide +kernel
theorem dJ6_stringSize_0f7a4_2 : decode cJ6_stringSize_0f7a4 2 = .ok (.iload_n 0, 1) := by decide +kernel
theorem dJ6_stringSize_0f7a4_3 : decode cJ6_stringSize_0f7a4 3 = .ok (.ifCond .lt 8, 3) := by decide +kernel
theorem dJ6_stringSize_0f7a4_6 : decode cJ6_stringSize_0f7a4 6 = .ok (.iconst 0, 1) := by decide +kernel
theorem dJ6_stringSize_0f7a4_7 : decode cJ6_stringSize_0f7a4 7 = .ok (.istore_n 1, 1) := by decide +kernel
theorem dJ6_stringSize_0f7a4_8 : decode cJ6_stringSize_0f7a4 8 = .ok (.iload_n 0, 1) := by decide +kernel
theorem dJ6_stringSize_0f7a4_9 : decode cJ6_stringSize_0f7a4 9 = .ok (.ineg, 1) := by decide +kernel
theorem dJ6_stringSize_0f7a4_10 : decode cJ6_stringSize_0f7a4 10 = .ok (.istore_n 0, 1) := by decide +kernel
theorem dJ6_stringSize_0f7a4_11 : decode cJ6_stringSize_0f7a4 11 = .ok (.bipush (-10), 2) := by decide +kernel
theorem dJ6_stringSize_0f7a4_13 : decode cJ6_stringSize_0f7a4 13 = .ok (.istore_n 2, 1) := by decide +kernel
theorem dJ6_stringSize_0f7a4_14 : decode cJ6_stringSize_0f7a4 14 = .ok (.iconst 1, 1) := by decide +kernel
theorem dJ6_stringSize_0f7a4_15 : decode cJ6_stringSize_0f7a4 15 = .ok (.istore_n 3, 1) := by decide +kernel
theorem dJ6_stringSize_0f7a4_16 : decode cJ6_stringSize_0f7a4 16 = .ok (.iload_n 3, 1) := by decide +kernel
theorem dJ6_stringSize_0f7a4_17 : decode cJ6_stringSize_0f7a4 17 = .ok (.bipush 10, 2) := by decide +kernel
theorem dJ6_stringSize_0f7a4_19 : decode cJ6_stringSize_0f7a4 19 = .ok (.if_icmp .ge 23, 3) := by decide +kernel
theorem dJ6_stringSize_0f7a4_22 : decode cJ6_stringSize_0f7a4 22 = .ok (.iload_n 0, 1) := by decide +kernel
theorem dJ6_stringSize_0f7a4_23 : decode cJ6_stringSize_0f7a4 23 = .ok (.iload_n 2, 1) := by decide +kernel
theorem dJ6_stringSize_0f7a4_24 : decode cJ6_stringSize_0f7a4 24 = .ok (.if_icmp .le 7, 3) := by decide +kernel
theorem dJ6_stringSize_0f7a4_27 : decode cJ6_stringSize_0f7a4 27 = .ok (.iload_n 3, 1) := by decide +kernel
theorem dJ6_stringSize_0f7a4_28 : decode cJ6_stringSize_0f7a4 28 = .ok (.iload_n 1, 1) := by decide +kernel
theorem dJ6_stringSize_0f7a4_29 : decode cJ6_stringSize_0f7a4 29 = .ok (.iadd, 1) := by decide +kernel
theorem dJ6_stringSize_0f7a4_30 : decode cJ6_stringSize_0f7a4 30 = .ok (.ireturn, 1) := by decide +kernel
theorem dJ6_stringSize_0f7a4_31 : decode cJ6_stringSize_0f7a4 31 = .ok (.bipush 10, 2) := by decide +kernel
theorem dJ6_stringSize_0f7a4_33 : decode cJ6_stringSize_0f7a4 33 = .ok (.iload_n 2, 1) := by decide +kernel
theorem dJ6_stringSize_0f7a4_34 : decode cJ6_stringSize_0f7a4 34 = .ok (.imul, 1) := by decide +kernel
theorem dJ6_stringSize_0f7a4_35 : decode cJ6_stringSize_0f7a4 35 = .ok (.istore_n 2, 1) := by decide +kernel
theorem dJ6_stringSize_0f7a4_36 : decode cJ6_stringSize_0f7a4 36 = .ok (.iinc 3 1, 3) := by decide +kernel
theorem dJ6_stringSize_0f7a4_39 : decode cJ6_stringSize_0f7a4 39 = .ok (.goto (-23), 3) := by decide +kernel
theorem dJ6_stringSize_0f7a4_42 : decode cJ6_stringSize_0f7a4 42 = .ok (.bipush 10, 2) := by decide +kernel
theorem dJ6_stringSize_0f7a4_44 : decode cJ6_stringSize_0f7a4 44 = .ok (.iload_n 1, 1) := by decide +kernel
theorem dJ6_stringSize_0f7a4_45 : decode cJ6_stringSize_0f7a4 45 = .ok (.iadd, 1) := by decide +kernel
theorem dJ6_stringSize_0f7a4_46 : decode cJ6_stringSize_0f7a4 46 = .ok (.ireturn, 1) := by decide +kernel
set_option maxRecDepth 20000 in
theorem ggJ6_valueOf_2dffe_J6_init_d00df : GoodIn wsJ6_valueOf_2dffe wsJ6_init_d00df := goodIn_r _ [8, 9, 10, 11, 12, 13, 14, 15, 16, 17] rfl (by decide +kernel)
set_option maxRecDepth 20000 in
theorem gJ6_valueOf_2dffe_J6_init_d00df : GoodIn wsJ6_valueOf_2dffe (wsJ6_init_d00df) := ggJ6_valueOf_2dffe_J6_init_d00df
theorem dJ6_valueOf_2dffe_0 : decode cJ6_valueOf_2dffe 0 = .ok (.iload_n 0, 1) := by decide +kernel
theorem dJ6_valueOf_2dffe_1 : decode cJ6_valueOf_2dffe 1 = .ok (.bipush (-128), 2) := by decide +kernel
theorem dJ6_valueOf_2dffe_3 : decode cJ6_valueOf_2dffe 3 = .ok (.if_icmp .lt 20, 3) := by decide +kernel
theorem dJ6_valueOf_2dffe_6 : decode cJ6_valueOf_2dffe 6 = .ok (.iload_n 0, 1) := by decide +kernel
theorem dJ6_valueOf_2dffe_7 : decode cJ6_valueOf_2dffe 7 = .ok (.getstatic 191, 3) := by decide +kernel
theorem dJ6_valueOf_2dffe_10 : decode cJ6_valueOf_2dffe 10 = .ok (.if_icmp .gt 13, 3) := by decide +kernel
theorem dJ6_valueOf_2dffe_13 : decode cJ6_valueOf_2dffe 13 = .ok (.getstatic 195, 3) := by decide +kernel
theorem dJ6_valueOf_2dffe_16 : decode cJ6_valueOf_2dffe 16 = .ok (.iload_n 0, 1) := by decide +kernel
theorem dJ6_valueOf_2dffe_17 : decode cJ6_valueOf_2dffe 17 = .ok (.sipush 128, 3) := by decide +kernel
theorem dJ6_valueOf_2dffe_20 : decode cJ6_valueOf_2dffe 20 = .ok (.iadd, 1) := by decide +kernel
theorem dJ6_valueOf_2dffe_21 : decode cJ6_valueOf_2dffe 21 = .ok (.aaload, 1) := by decide +kernel
theorem dJ6_valueOf_2dffe_22 : decode cJ6_valueOf_2dffe 22 = .ok (.areturn, 1) := by decide +kernel
theorem dJ6_valueOf_2dffe_23 : decode cJ6_valueOf_2dffe 23 = .ok (.new 1, 3) := by decide +kernel
theorem dJ6_valueOf_2dffe_26 : decode cJ6_valueOf_2dffe 26 = .ok (.dup, 1) := by decide +kernel
theorem dJ6_valueOf_2dffe_27 : decode cJ6_valueOf_2dffe 27 = .ok (.iload_n 0, 1) := by decide +kernel
theorem dJ6_valueOf_2dffe_28 : decode cJ6_valueOf_2dffe 28 = .ok (.invokespecial 199, 3) := by decide +kernel
theorem dJ6_valueOf_2dffe_31 : decode cJ6_valueOf_2dffe 31 = .ok (.areturn, 1) := by decide +kernel
set_option maxRecDepth 20000 in
theorem ggJ6_init_d00df_Jxd2413_init_da8c8 : GoodIn wsJ6_init_d00df wsJxd2413_init_da8c8 := goodIn_r _ [5, 6, 7, 8] rfl (by decide +kernel)
set_option maxRecDepth 20000 in
theorem gJ6_init_d00df_Jxd2413_init_da8c8 : GoodIn wsJ6_init_d00df (wsJxd2413_init_da8c8) := ggJ6_init_d00df_Jxd2413_init_da8c8
theorem dJ6_init_d00df_0 : decode cJ6_init_d00df 0 = .ok (.aload_n 0, 1) := by decide +kernel
theorem dJ6_init_d00df_1 : decode cJ6_init_d00df 1 = .ok (.invokespecial 202, 3) := by decide +kernel
theorem dJ6_init_d00df_4 : decode cJ6_init_d00df 4 = .ok (.aload_n 0, 1) := by decide +kernel
theorem dJ6_init_d00df_5 : decode cJ6_init_d00df 5 = .ok (.iload_n 1, 1) := by decide +kernel
theorem dJ6_init_d00df_6 : decode cJ6_init_d00df 6 = .ok (.putfield 205, 3) := by decide +kernel
theorem dJ6_init_d00df_9 : decode cJ6_init_d00df 9 = .ok (.return_, 1) := by decide +kernel
theorem dJ6_intValue_8abf5_0 : decode cJ6_intValue_8abf5 0 = .ok (.aload_n 0, 1) := by decide +kernel
theorem dJ6_intValue_8abf5_1 : decode cJ6_intValue_8abf5 1 = .ok (.getfield 205, 3) := by decide +kernel
theorem dJ6_intValue_8abf5_4 : decode cJ6_intValue_8abf5 4 = .ok (.ireturn, 1) := by decide +kernel
theorem dJ9_abs_0f7a4_0 : decode cJ9_abs_0f7a4 0 = .ok (.iload_n 0, 1) := by decide +kernel
theorem dJ9_abs_0f7a4_1 : decode cJ9_abs_0f7a4 1 = .ok (.ifCond .ge 8, 3) := by decide +kernel
theorem dJ9_abs_0f7a4_4 : decode cJ9_abs_0f7a4 4 = .ok (.iload_n 0, 1) := by decide +kernel
theorem dJ9_abs_0f7a4_5 : decode cJ9_abs_0f7a4 5 = .ok (.ineg, 1) := by decide +kernel
