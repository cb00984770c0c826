theorem dX7_ofBand_32 : decode cX7_ofBand 32 = .ok (.aload_n 0, 1) := dz_aload_n_0 (y0 zE_cX7_ofBand 0 32 (by decide +kernel))
theorem dX7_ofBand_33 : decode cX7_ofBand 33 = .ok (.getfield 23, 3) := dz_getfield (yu2 zE_cX7_ofBand 0 33 (by decide +kernel))
theorem dX7_ofBand_36 : decode cX7_ofBand 36 = .ok (.iload_n 1, 1) := dz_iload_n_1 (y0 zE_cX7_ofBand 0 36 (by decide +kernel))
theorem dX7_ofBand_37 : decode cX7_ofBand 37 = .ok (.aaload, 1) := dz_aaload (y0 zE_cX7_ofBand 0 37 (by decide +kernel))
theorem dX7_ofBand_38 : decode cX7_ofBand 38 = .ok (.getfield 327, 3) := dz_getfield (yu2 zE_cX7_ofBand 0 38 (by decide +kernel))
theorem dX7_ofBand_41 : decode cX7_ofBand 41 = .ok (.iload_n 2, 1) := dz_iload_n_2 (y0 zE_cX7_ofBand 0 41 (by decide +kernel))
theorem dX7_ofBand_42 : decode cX7_ofBand 42 = .ok (.iaload, 1) := dz_iaload (y0 zE_cX7_ofBand 0 42 (by decide +kernel))
theorem dX7_ofBand_43 : decode cX7_ofBand 43 = .ok (.ireturn, 1) := dz_ireturn (y0 zE_cX7_ofBand 0 43 (by decide +kernel))
theorem dX7_ofBand_44 : decode cX7_ofBand 44 = .ok (.iload_n 2, 1) := dz_iload_n_2 (y0 zE_cX7_ofBand 0 44 (by decide +kernel))
theorem dX7_ofBand_45 : decode cX7_ofBand 45 = .ok (.bipush 6, 2) := dz_bipush (ys1 zE_cX7_ofBand 0 45 (by decide +kernel))
theorem dX7_ofBand_47 : decode cX7_ofBand 47 = .ok (.if_icmp .ne 13, 3) := dz_if_icmp_ne (ys2 zE_cX7_ofBand 0 47 (by decide +kernel))
theorem dX7_ofBand_50 : decode cX7_ofBand 50 = .ok (.aload_n 0, 1) := dz_aload_n_0 (y0 zE_cX7_ofBand 0 50 (by decide +kernel))
theorem dX7_ofBand_51 : decode cX7_ofBand 51 = .ok (.getfield 23, 3) := dz_getfield (yu2 zE_cX7_ofBand 0 51 (by decide +kernel))
theorem dX7_ofBand_54 : decode cX7_ofBand 54 = .ok (.iload_n 1, 1) := dz_iload_n_1 (y0 zE_cX7_ofBand 0 54 (by decide +kernel))
theorem dX7_ofBand_55 : decode cX7_ofBand 55 = .ok (.aaload, 1) := dz_aaload (y0 zE_cX7_ofBand 0 55 (by decide +kernel))
theorem dX7_ofBand_56 : decode cX7_ofBand 56 = .ok (.getfield 330, 3) := dz_getfield (yu2 zE_cX7_ofBand 0 56 (by decide +kernel))
theorem dX7_ofBand_59 : decode cX7_ofBand 59 = .ok (.ireturn, 1) := dz_ireturn (y0 zE_cX7_ofBand 0 59 (by decide +kernel))
theorem dX7_ofBand_60 : decode cX7_ofBand 60 = .ok (.aload_n 0, 1) := dz_aload_n_0 (y0 zE_cX7_ofBand 0 60 (by decide +kernel))
theorem dX7_ofBand_61 : decode cX7_ofBand 61 = .ok (.iload_n 1, 1) := dz_iload_n_1 (y0 zE_cX7_ofBand 0 61 (by decide +kernel))
theorem dX7_ofBand_62 : decode cX7_ofBand 62 = .ok (.iload_n 2, 1) := dz_iload_n_2 (y0 zE_cX7_ofBand 0 62 (by decide +kernel))
theorem dX7_ofBand_63 : decode cX7_ofBand 63 = .ok (.bipush 8, 2) := dz_bipush (ys1 zE_cX7_ofBand 0 63 (by decide +kernel))
theorem dX7_ofBand_65 : decode cX7_ofBand 65 = .ok (.if_icmp .ne 7, 3) := dz_if_icmp_ne (ys2 zE_cX7_ofBand 1 1 (by decide +kernel))
theorem dX7_ofBand_68 : decode cX7_ofBand 68 = .ok (.iconst 1, 1) := dz_iconst_1 (y0 zE_cX7_ofBand 1 4 (by decide +kernel))
theorem dX7_ofBand_69 : decode cX7_ofBand 69 = .ok (.goto 4, 3) := dz_goto (ys2 zE_cX7_ofBand 1 5 (by decide +kernel))
theorem dX7_ofBand_72 : decode cX7_ofBand 72 = .ok (.iconst 0, 1) := dz_iconst_0 (y0 zE_cX7_ofBand 1 8 (by decide +kernel))
theorem dX7_ofBand_73 : decode cX7_ofBand 73 = .ok (.invokevirtual 333, 3) := dz_invokevirtual (yu2 zE_cX7_ofBand 1 9 (by decide +kernel))
theorem dX7_ofBand_76 : decode cX7_ofBand 76 = .ok (.ireturn, 1) := dz_ireturn (y0 zE_cX7_ofBand 1 12 (by decide +kernel))
theorem gd_wsX7_ofWedding : wsX7_ofWedding.all goodWord = true := by decide +kernel
set_option maxRecDepth 20000 in
theorem ggX7_ofWedding_X7_checkWedding : GoodIn wsX7_ofWedding wsX7_checkWedding := goodIn_ca (gi_q gd_wsX7_ofWedding _ [(19, 4), (43, 15)] rfl) (gi_sub gd_wsX7_ofWedding (fun _ h => List.mem_cons_of_mem _ (List.mem_append_right _ h)))
set_option maxRecDepth 20000 in
theorem gX7_ofWedding_X7_checkWedding : GoodIn wsX7_ofWedding (wsV RX7 214 RX7 yX7_checkWedding wsX7_checkWedding) := goodIn_app (gi_q gd_wsX7_ofWedding _ [(15, 4)] rfl) ggX7_ofWedding_X7_checkWedding
set_option maxRecDepth 20000 in
theorem ggX7_ofWedding_X7_placeInQueue : GoodIn wsX7_ofWedding wsX7_placeInQueue := gi_q gd_wsX7_ofWedding _ [(26, 1), (3, 1), (10, 1), (27, 3), (18, 1), (30, 1), (4, 2), (43, 27)] rfl
set_option maxRecDepth 20000 in
theorem gX7_ofWedding_X7_placeInQueue : GoodIn wsX7_ofWedding (wsV RX7 337 RX7 yX7_placeInQueue wsX7_placeInQueue) := goodIn_app (gi_q gd_wsX7_ofWedding _ [(23, 3), (18, 1)] rfl) ggX7_ofWedding_X7_placeInQueue
set_option maxRecDepth 20000 in
theorem ggX7_ofWedding_X6_quarters : GoodIn wsX7_ofWedding wsX6_quarters := gi_q gd_wsX7_ofWedding _ [(35, 8), (58, 12)] rfl
set_option maxRecDepth 20000 in
theorem gX7_ofWedding_X6_quarters : GoodIn wsX7_ofWedding (wsV RX7 287 RX6 yX6_quarters wsX6_quarters) := goodIn_app (gi_q gd_wsX7_ofWedding _ [(31, 4)] rfl) ggX7_ofWedding_X6_quarters
def zT_cX7_ofWedding : List (List Nat) := [[42, 27, 182, 0, 214, 42, 180, 0, 29, 27, 50, 78, 28, 170, 0, 0, 0, 0, 0, 133, 0, 0, 0, 0, 0, 0, 0, 12, 0, 0, 0, 67, 0, 0, 0, 72, 0, 0, 0, 77, 0, 0, 0, 82, 0, 0, 0, 87, 0, 0, 0, 92, 0, 0, 0, 97, 0, 0, 0, 102, 0, 0, 0, 107, 0, 0, 0, 112], [0, 0, 0, 112, 0, 0, 0, 117, 0, 0, 0, 122, 0, 0, 0, 128, 45, 180, 0, 193, 172, 45, 180, 0, 196, 172, 45, 180, 0, 199, 172, 45, 180, 0, 202, 172, 45, 180, 0, 205, 172, 45, 180, 0, 208, 172, 45, 180, 0, 233, 172, 45, 180, 0, 239, 172, 45, 180, 0, 247, 172, 45, 180, 1, 28, 172, 45, 180], [28, 172, 45, 180, 1, 4, 172, 42, 27, 182, 1, 81, 172, 45, 182, 1, 31, 172, 187, 0, 101, 89, 19, 1, 84, 183, 0, 105, 191]]
theorem zE_cX7_ofWedding : zTab cX7_ofWedding.data.toList zT_cX7_ofWedding = true := by decide +kernel
theorem dX7_ofWedding_0 : decode cX7_ofWedding 0 = .ok (.aload_n 0, 1) := dz_aload_n_0 (y0 zE_cX7_ofWedding 0 0 (by decide +kernel))
theorem dX7_ofWedding_1 : decode cX7_ofWedding 1 = .ok (.iload_n 1, 1) := dz_iload_n_1 (y0 zE_cX7_ofWedding 0 1 (by decide +kernel))
theorem dX7_ofWedding_2 : decode cX7_ofWedding 2 = .ok (.invokevirtual 214, 3) := dz_invokevirtual (yu2 zE_cX7_ofWedding 0 2 (by decide +kernel))
theorem dX7_ofWedding_5 : decode cX7_ofWedding 5 = .ok (.aload_n 0, 1) := dz_aload_n_0 (y0 zE_cX7_ofWedding 0 5 (by decide +kernel))
theorem dX7_ofWedding_6 : decode cX7_ofWedding 6 = .ok (.getfield 29, 3) := dz_getfield (yu2 zE_cX7_ofWedding 0 6 (by decide +kernel))
theorem dX7_ofWedding_9 : decode cX7_ofWedding 9 = .ok (.iload_n 1, 1) := dz_iload_n_1 (y0 zE_cX7_ofWedding 0 9 (by decide +kernel))
theorem dX7_ofWedding_10 : decode cX7_ofWedding 10 = .ok (.aaload, 1) := dz_aaload (y0 zE_cX7_ofWedding 0 10 (by decide +kernel))
theorem dX7_ofWedding_11 : decode cX7_ofWedding 11 = .ok (.astore_n 3, 1) := dz_astore_n_3 (y0 zE_cX7_ofWedding 0 11 (by decide +kernel))
theorem dX7_ofWedding_12 : decode cX7_ofWedding 12 = .ok (.iload_n 2, 1) := dz_iload_n_2 (y0 zE_cX7_ofWedding 0 12 (by decide +kernel))
theorem dX7_ofWedding_13 : decode cX7_ofWedding 13 = .ok (.tableswitch 133 0 12 #[67, 72, 77, 82, 87, 92, 97, 102, 107, 112, 117, 122, 128], 67) := dkT (by decide +kernel)
theorem dX7_ofWedding_80 : decode cX7_ofWedding 80 = .ok (.aload_n 3, 1) := dz_aload_n_3 (y0 zE_cX7_ofWedding 1 16 (by decide +kernel))
theorem dX7_ofWedding_81 : decode cX7_ofWedding 81 = .ok (.getfield 193, 3) := dz_getfield (yu2 zE_cX7_ofWedding 1 17 (by decide +kernel))
theorem dX7_ofWedding_84 : decode cX7_ofWedding 84 = .ok (.ireturn, 1) := dz_ireturn (y0 zE_cX7_ofWedding 1 20 (by decide +kernel))
theorem dX7_ofWedding_85 : decode cX7_ofWedding 85 = .ok (.aload_n 3, 1) := dz_aload_n_3 (y0 zE_cX7_ofWedding 1 21 (by decide +kernel))
theorem dX7_ofWedding_86 : decode cX7_ofWedding 86 = .ok (.getfield 196, 3) := dz_getfield (yu2 zE_cX7_ofWedding 1 22 (by decide +kernel))
theorem dX7_ofWedding_89 : decode cX7_ofWedding 89 = .ok (.ireturn, 1) := dz_ireturn (y0 zE_cX7_ofWedding 1 25 (by decide +kernel))
theorem dX7_ofWedding_90 : decode cX7_ofWedding 90 = .ok (.aload_n 3, 1) := dz_aload_n_3 (y0 zE_cX7_ofWedding 1 26 (by decide +kernel))
theorem dX7_ofWedding_91 : decode cX7_ofWedding 91 = .ok (.getfield 199, 3) := dz_getfield (yu2 zE_cX7_ofWedding 1 27 (by decide +kernel))
theorem dX7_ofWedding_94 : decode cX7_ofWedding 94 = .ok (.ireturn, 1) := dz_ireturn (y0 zE_cX7_ofWedding 1 30 (by decide +kernel))
theorem dX7_ofWedding_95 : decode cX7_ofWedding 95 = .ok (.aload_n 3, 1) := dz_aload_n_3 (y0 zE_cX7_ofWedding 1 31 (by decide +kernel))
theorem dX7_ofWedding_96 : decode cX7_ofWedding 96 = .ok (.getfield 202, 3) := dz_getfield (yu2 zE_cX7_ofWedding 1 32 (by decide +kernel))
theorem dX7_ofWedding_99 : decode cX7_ofWedding 99 = .ok (.ireturn, 1) := dz_ireturn (y0 zE_cX7_ofWedding 1 35 (by decide +kernel))
theorem dX7_ofWedding_100 : decode cX7_ofWedding 100 = .ok (.aload_n 3, 1) := dz_aload_n_3 (y0 zE_cX7_ofWedding 1 36 (by decide +kernel))
theorem dX7_ofWedding_101 : decode cX7_ofWedding 101 = .ok (.getfield 205, 3) := dz_getfield (yu2 zE_cX7_ofWedding 1 37 (by decide +kernel))
theorem dX7_ofWedding_104 : decode cX7_ofWedding 104 = .ok (.ireturn, 1) := dz_ireturn (y0 zE_cX7_ofWedding 1 40 (by decide +kernel))
theorem dX7_ofWedding_105 : decode cX7_ofWedding 105 = .ok (.aload_n 3, 1) := dz_aload_n_3 (y0 zE_cX7_ofWedding 1 41 (by decide +kernel))
theorem dX7_ofWedding_106 : decode cX7_ofWedding 106 = .ok (.getfield 208, 3) := dz_getfield (yu2 zE_cX7_ofWedding 1 42 (by decide +kernel))
theorem dX7_ofWedding_109 : decode cX7_ofWedding 109 = .ok (.ireturn, 1) := dz_ireturn (y0 zE_cX7_ofWedding 1 45 (by decide +kernel))
theorem dX7_ofWedding_110 : decode cX7_ofWedding 110 = .ok (.aload_n 3, 1) := dz_aload_n_3 (y0 zE_cX7_ofWedding 1 46 (by decide +kernel))
theorem dX7_ofWedding_111 : decode cX7_ofWedding 111 = .ok (.getfield 233, 3) := dz_getfield (yu2 zE_cX7_ofWedding 1 47 (by decide +kernel))
theorem dX7_ofWedding_114 : decode cX7_ofWedding 114 = .ok (.ireturn, 1) := dz_ireturn (y0 zE_cX7_ofWedding 1 50 (by decide +kernel))
theorem dX7_ofWedding_115 : decode cX7_ofWedding 115 = .ok (.aload_n 3, 1) := dz_aload_n_3 (y0 zE_cX7_ofWedding 1 51 (by decide +kernel))
theorem dX7_ofWedding_116 : decode cX7_ofWedding 116 = .ok (.getfield 239, 3) := dz_getfield (yu2 zE_cX7_ofWedding 1 52 (by decide +kernel))
theorem dX7_ofWedding_119 : decode cX7_ofWedding 119 = .ok (.ireturn, 1) := dz_ireturn (y0 zE_cX7_ofWedding 1 55 (by decide +kernel))
theorem dX7_ofWedding_120 : decode cX7_ofWedding 120 = .ok (.aload_n 3, 1) := dz_aload_n_3 (y0 zE_cX7_ofWedding 1 56 (by decide +kernel))
theorem dX7_ofWedding_121 : decode cX7_ofWedding 121 = .ok (.getfield 247, 3) := dz_getfield (yu2 zE_cX7_ofWedding 1 57 (by decide +kernel))
theorem dX7_ofWedding_124 : decode cX7_ofWedding 124 = .ok (.ireturn, 1) := dz_ireturn (y0 zE_cX7_ofWedding 1 60 (by decide +kernel))
theorem dX7_ofWedding_125 : decode cX7_ofWedding 125 = .ok (.aload_n 3, 1) := dz_aload_n_3 (y0 zE_cX7_ofWedding 1 61 (by decide +kernel))
theorem dX7_ofWedding_126 : decode cX7_ofWedding 126 = .ok (.getfield 284, 3) := dz_getfield (yu2 zE_cX7_ofWedding 1 62 (by decide +kernel))
theorem dX7_ofWedding_129 : decode cX7_ofWedding 129 = .ok (.ireturn, 1) := dz_ireturn (y0 zE_cX7_ofWedding 2 1 (by decide +kernel))
theorem dX7_ofWedding_130 : decode cX7_ofWedding 130 = .ok (.aload_n 3, 1) := dz_aload_n_3 (y0 zE_cX7_ofWedding 2 2 (by decide +kernel))
theorem dX7_ofWedding_131 : decode cX7_ofWedding 131 = .ok (.getfield 260, 3) := dz_getfield (yu2 zE_cX7_ofWedding 2 3 (by decide +kernel))
theorem dX7_ofWedding_134 : decode cX7_ofWedding 134 = .ok (.ireturn, 1) := dz_ireturn (y0 zE_cX7_ofWedding 2 6 (by decide +kernel))
theorem dX7_ofWedding_135 : decode cX7_ofWedding 135 = .ok (.aload_n 0, 1) := dz_aload_n_0 (y0 zE_cX7_ofWedding 2 7 (by decide +kernel))
theorem dX7_ofWedding_136 : decode cX7_ofWedding 136 = .ok (.iload_n 1, 1) := dz_iload_n_1 (y0 zE_cX7_ofWedding 2 8 (by decide +kernel))
theorem dX7_ofWedding_137 : decode cX7_ofWedding 137 = .ok (.invokevirtual 337, 3) := dz_invokevirtual (yu2 zE_cX7_ofWedding 2 9 (by decide +kernel))
theorem dX7_ofWedding_140 : decode cX7_ofWedding 140 = .ok (.ireturn, 1) := dz_ireturn (y0 zE_cX7_ofWedding 2 12 (by decide +kernel))
theorem dX7_ofWedding_141 : decode cX7_ofWedding 141 = .ok (.aload_n 3, 1) := dz_aload_n_3 (y0 zE_cX7_ofWedding 2 13 (by decide +kernel))
theorem dX7_ofWedding_142 : decode cX7_ofWedding 142 = .ok (.invokevirtual 287, 3) := dz_invokevirtual (yu2 zE_cX7_ofWedding 2 14 (by decide +kernel))
theorem dX7_ofWedding_145 : decode cX7_ofWedding 145 = .ok (.ireturn, 1) := dz_ireturn (y0 zE_cX7_ofWedding 2 17 (by decide +kernel))
theorem dX7_ofWedding_146 : decode cX7_ofWedding 146 = .ok (.new 101, 3) := dz_new (yu2 zE_cX7_ofWedding 2 18 (by decide +kernel))
theorem dX7_ofWedding_149 : decode cX7_ofWedding 149 = .ok (.dup, 1) := dz_dup (y0 zE_cX7_ofWedding 2 21 (by decide +kernel))
theorem dX7_ofWedding_150 : decode cX7_ofWedding 150 = .ok (.ldc_w 340, 3) := dz_ldc_w (yu2 zE_cX7_ofWedding 2 22 (by decide +kernel))
theorem dX7_ofWedding_153 : decode cX7_ofWedding 153 = .ok (.invokespecial 105, 3) := dz_invokespecial (yu2 zE_cX7_ofWedding 2 25 (by decide +kernel))
theorem dX7_ofWedding_156 : decode cX7_ofWedding 156 = .ok (.athrow, 1) := dz_athrow (y0 zE_cX7_ofWedding 2 28 (by decide +kernel))
theorem gd_wsX7_drive : wsX7_drive.all goodWord = true := by decide +kernel
set_option maxRecDepth 20000 in
theorem ggX7_drive_X7_checkTown : GoodIn wsX7_drive wsX7_checkTown := goodIn_ca (gi_q gd_wsX7_drive _ [(5, 5), (4, 1), (10, 1)] rfl) (gi_sub gd_wsX7_drive (fun _ h => List.mem_cons_of_mem _ (List.mem_append_right _ h)))
set_option maxRecDepth 20000 in
theorem gX7_drive_X7_checkTown : GoodIn wsX7_drive (va_wsS RX7 157 yX7_checkTown wsX7_checkTown) := goodIn_app (gi_q gd_wsX7_drive _ [(2, 3)] rfl) ggX7_drive_X7_checkTown
set_option maxRecDepth 20000 in
theorem ggX7_drive_X4_between : GoodIn wsX7_drive wsX4_between := gi_q gd_wsX7_drive _ [(15, 2), (32, 2)] rfl
set_option maxRecDepth 20000 in
theorem gX7_drive_X4_between : GoodIn wsX7_drive (wsV RX7 166 RX4 yX4_between wsX4_between) := goodIn_app (gi_q gd_wsX7_drive _ [(11, 4)] rfl) ggX7_drive_X4_between
theorem dX7_drive_0 : decode cX7_drive 0 = .ok (.iload_n 1, 1) := dkT (by decide +kernel)
theorem dX7_drive_1 : decode cX7_drive 1 = .ok (.invokestatic 157, 3) := dkT (by decide +kernel)
theorem dX7_drive_4 : decode cX7_drive 4 = .ok (.iload_n 2, 1) := dkT (by decide +kernel)
theorem dX7_drive_5 : decode cX7_drive 5 = .ok (.invokestatic 157, 3) := dkT (by decide +kernel)
theorem dX7_drive_8 : decode cX7_drive 8 = .ok (.aload_n 0, 1) := dkT (by decide +kernel)
theorem dX7_drive_9 : decode cX7_drive 9 = .ok (.getfield 36, 3) := dkT (by decide +kernel)
theorem dX7_drive_12 : decode cX7_drive 12 = .ok (.iload_n 1, 1) := dkT (by decide +kernel)
theorem dX7_drive_13 : decode cX7_drive 13 = .ok (.iload_n 2, 1) := dkT (by decide +kernel)
theorem dX7_drive_14 : decode cX7_drive 14 = .ok (.invokevirtual 166, 3) := dkT (by decide +kernel)
theorem dX7_drive_17 : decode cX7_drive 17 = .ok (.ireturn, 1) := dkT (by decide +kernel)
theorem gd_wsX7_free : wsX7_free.all goodWord = true := by decide +kernel
set_option maxRecDepth 20000 in
theorem ggX7_free_X7_checkPlayer : GoodIn wsX7_free wsX7_checkPlayer := goodIn_ca (gi_q gd_wsX7_free _ [(5, 4), (54, 15)] rfl) (gi_sub gd_wsX7_free (fun _ h => List.mem_cons_of_mem _ (List.mem_append_right _ h)))
set_option maxRecDepth 20000 in
theorem gX7_free_X7_checkPlayer : GoodIn wsX7_free (wsV RX7 123 RX7 yX7_checkPlayer wsX7_checkPlayer) := goodIn_app (gi_q gd_wsX7_free _ [(1, 4)] rfl) ggX7_free_X7_checkPlayer
set_option maxRecDepth 20000 in
theorem ggX7_free_X7_checkWedding : GoodIn wsX7_free wsX7_checkWedding := goodIn_ca (gi_q gd_wsX7_free _ [(12, 1), (6, 2), (13, 1), (54, 15)] rfl) (gi_sub gd_wsX7_free (fun _ h => List.mem_cons_of_mem _ (List.mem_append_right _ h)))
set_option maxRecDepth 20000 in
theorem gX7_free_X7_checkWedding : GoodIn wsX7_free (wsV RX7 214 RX7 yX7_checkWedding wsX7_checkWedding) := goodIn_app (gi_q gd_wsX7_free _ [(9, 3), (4, 1)] rfl) ggX7_free_X7_checkWedding
set_option maxRecDepth 20000 in
theorem ggX7_free_X7_stageAsFixed : GoodIn wsX7_free wsX7_stageAsFixed := gi_q gd_wsX7_free _ [(17, 1), (13, 1), (18, 4), (54, 27)] rfl
set_option maxRecDepth 20000 in
theorem gX7_free_X7_stageAsFixed : GoodIn wsX7_free (wsV RX7 342 RX7 yX7_stageAsFixed wsX7_stageAsFixed) := goodIn_app (gi_q gd_wsX7_free _ [(14, 3), (4, 1)] rfl) ggX7_free_X7_stageAsFixed
set_option maxRecDepth 20000 in
theorem ggX7_free_X7_isFreeFor : GoodIn wsX7_free wsX7_isFreeFor := gi_q gd_wsX7_free _ [(25, 1), (19, 1), (26, 6), (13, 1), (18, 1), (32, 9), (4, 1), (41, 50)] rfl
set_option maxRecDepth 20000 in
theorem gX7_free_X7_isFreeFor : GoodIn wsX7_free (wsV RX7 345 RX7 yX7_isFreeFor wsX7_isFreeFor) := goodIn_app (gi_q gd_wsX7_free _ [(22, 3), (4, 1)] rfl) ggX7_free_X7_isFreeFor
theorem dX7_free_0 : decode cX7_free 0 = .ok (.aload_n 0, 1) := dkT (by decide +kernel)
theorem dX7_free_1 : decode cX7_free 1 = .ok (.iload_n 1, 1) := dkT (by decide +kernel)
theorem dX7_free_2 : decode cX7_free 2 = .ok (.invokevirtual 123, 3) := dkT (by decide +kernel)
theorem dX7_free_5 : decode cX7_free 5 = .ok (.aload_n 0, 1) := dkT (by decide +kernel)
theorem dX7_free_6 : decode cX7_free 6 = .ok (.iload_n 2, 1) := dkT (by decide +kernel)
theorem dX7_free_7 : decode cX7_free 7 = .ok (.invokevirtual 214, 3) := dkT (by decide +kernel)
theorem dX7_free_10 : decode cX7_free 10 = .ok (.aload_n 0, 1) := dkT (by decide +kernel)
theorem dX7_free_11 : decode cX7_free 11 = .ok (.invokevirtual 342, 3) := dkT (by decide +kernel)
theorem dX7_free_14 : decode cX7_free 14 = .ok (.aload_n 0, 1) := dkT (by decide +kernel)
theorem dX7_free_15 : decode cX7_free 15 = .ok (.iload_n 1, 1) := dkT (by decide +kernel)
theorem dX7_free_16 : decode cX7_free 16 = .ok (.iload_n 2, 1) := dkT (by decide +kernel)
theorem dX7_free_17 : decode cX7_free 17 = .ok (.invokevirtual 345, 3) := dkT (by decide +kernel)
theorem dX7_free_20 : decode cX7_free 20 = .ok (.ireturn, 1) := dkT (by decide +kernel)
theorem gd_wsX7_filling : wsX7_filling.all goodWord = true := by decide +kernel
set_option maxRecDepth 20000 in
theorem ggX7_filling_X7_checkWedding : GoodIn wsX7_filling wsX7_checkWedding := goodIn_ca (gi_q gd_wsX7_filling _ [(12, 4), (125, 15)] rfl) (gi_sub gd_wsX7_filling (fun _ h => List.mem_cons_of_mem _ (List.mem_append_right _ h)))
set_option maxRecDepth 20000 in
theorem gX7_filling_X7_checkWedding : GoodIn wsX7_filling (wsV RX7 214 RX7 yX7_checkWedding wsX7_checkWedding) := goodIn_app (gi_q gd_wsX7_filling _ [(8, 4)] rfl) ggX7_filling_X7_checkWedding
set_option maxRecDepth 20000 in
theorem ggX7_filling_X7_surveyNow : GoodIn wsX7_filling wsX7_surveyNow := gi_q gd_wsX7_filling _ [(19, 4), (11, 1), (23, 1), (15, 1), (24, 48), (3, 1), (72, 2), (6, 2), (74, 66), (146, 25), (140, 6)] rfl
set_option maxRecDepth 20000 in
theorem gX7_filling_X7_surveyNow : GoodIn wsX7_filling (wsV RX7 222 RX7 yX7_surveyNow wsX7_surveyNow) := goodIn_app (gi_q gd_wsX7_filling _ [(16, 3), (11, 1)] rfl) ggX7_filling_X7_surveyNow
def zT_cX7_filling : List (List Nat) := [[42, 27, 182, 0, 214, 28, 155, 0, 8, 28, 6, 164, 0, 14, 187, 0, 101, 89, 19, 1, 92, 183, 0, 105, 191, 42, 27, 182, 0, 222, 28, 170, 0, 0, 0, 49, 0, 0, 0, 0, 0, 0, 0, 2, 0, 0, 0, 25, 0, 0, 0, 33, 0, 0, 0, 41, 42, 180, 0, 70, 180, 0, 236, 172, 42, 180, 0, 70], [42, 180, 0, 70, 180, 0, 241, 172, 42, 180, 0, 70, 180, 0, 225, 172, 42, 180, 0, 70, 180, 1, 94, 172]]
theorem zE_cX7_filling : zTab cX7_filling.data.toList zT_cX7_filling = true := by decide +kernel
theorem dX7_filling_0 : decode cX7_filling 0 = .ok (.aload_n 0, 1) := dz_aload_n_0 (y0 zE_cX7_filling 0 0 (by decide +kernel))
theorem dX7_filling_1 : decode cX7_filling 1 = .ok (.iload_n 1, 1) := dz_iload_n_1 (y0 zE_cX7_filling 0 1 (by decide +kernel))
theorem dX7_filling_2 : decode cX7_filling 2 = .ok (.invokevirtual 214, 3) := dz_invokevirtual (yu2 zE_cX7_filling 0 2 (by decide +kernel))
theorem dX7_filling_5 : decode cX7_filling 5 = .ok (.iload_n 2, 1) := dz_iload_n_2 (y0 zE_cX7_filling 0 5 (by decide +kernel))
theorem dX7_filling_6 : decode cX7_filling 6 = .ok (.ifCond .lt 8, 3) := dz_ifCond_lt (ys2 zE_cX7_filling 0 6 (by decide +kernel))
theorem dX7_filling_9 : decode cX7_filling 9 = .ok (.iload_n 2, 1) := dz_iload_n_2 (y0 zE_cX7_filling 0 9 (by decide +kernel))
theorem dX7_filling_10 : decode cX7_filling 10 = .ok (.iconst 3, 1) := dz_iconst_3 (y0 zE_cX7_filling 0 10 (by decide +kernel))
theorem dX7_filling_11 : decode cX7_filling 11 = .ok (.if_icmp .le 14, 3) := dz_if_icmp_le (ys2 zE_cX7_filling 0 11 (by decide +kernel))
theorem dX7_filling_14 : decode cX7_filling 14 = .ok (.new 101, 3) := dz_new (yu2 zE_cX7_filling 0 14 (by decide +kernel))
theorem dX7_filling_17 : decode cX7_filling 17 = .ok (.dup, 1) := dz_dup (y0 zE_cX7_filling 0 17 (by decide +kernel))
theorem dX7_filling_18 : decode cX7_filling 18 = .ok (.ldc_w 348, 3) := dz_ldc_w (yu2 zE_cX7_filling 0 18 (by decide +kernel))
theorem dX7_filling_21 : decode cX7_filling 21 = .ok (.invokespecial 105, 3) := dz_invokespecial (yu2 zE_cX7_filling 0 21 (by decide +kernel))
theorem dX7_filling_24 : decode cX7_filling 24 = .ok (.athrow, 1) := dz_athrow (y0 zE_cX7_filling 0 24 (by decide +kernel))
theorem dX7_filling_25 : decode cX7_filling 25 = .ok (.aload_n 0, 1) := dz_aload_n_0 (y0 zE_cX7_filling 0 25 (by decide +kernel))
theorem dX7_filling_26 : decode cX7_filling 26 = .ok (.iload_n 1, 1) := dz_iload_n_1 (y0 zE_cX7_filling 0 26 (by decide +kernel))
theorem dX7_filling_27 : decode cX7_filling 27 = .ok (.invokevirtual 222, 3) := dz_invokevirtual (yu2 zE_cX7_filling 0 27 (by decide +kernel))
theorem dX7_filling_30 : decode cX7_filling 30 = .ok (.iload_n 2, 1) := dz_iload_n_2 (y0 zE_cX7_filling 0 30 (by decide +kernel))
theorem dX7_filling_31 : decode cX7_filling 31 = .ok (.tableswitch 49 0 2 #[25, 33, 41], 25) := dkT (by decide +kernel)
theorem dX7_filling_56 : decode cX7_filling 56 = .ok (.aload_n 0, 1) := dz_aload_n_0 (y0 zE_cX7_filling 0 56 (by decide +kernel))
theorem dX7_filling_57 : decode cX7_filling 57 = .ok (.getfield 70, 3) := dz_getfield (yu2 zE_cX7_filling 0 57 (by decide +kernel))
theorem dX7_filling_60 : decode cX7_filling 60 = .ok (.getfield 236, 3) := dz_getfield (yu2 zE_cX7_filling 0 60 (by decide +kernel))
theorem dX7_filling_63 : decode cX7_filling 63 = .ok (.ireturn, 1) := dz_ireturn (y0 zE_cX7_filling 0 63 (by decide +kernel))
theorem dX7_filling_64 : decode cX7_filling 64 = .ok (.aload_n 0, 1) := dz_aload_n_0 (y0 zE_cX7_filling 1 0 (by decide +kernel))
theorem dX7_filling_65 : decode cX7_filling 65 = .ok (.getfield 70, 3) := dz_getfield (yu2 zE_cX7_filling 1 1 (by decide +kernel))
theorem dX7_filling_68 : decode cX7_filling 68 = .ok (.getfield 241, 3) := dz_getfield (yu2 zE_cX7_filling 1 4 (by decide +kernel))
theorem dX7_filling_71 : decode cX7_filling 71 = .ok (.ireturn, 1) := dz_ireturn (y0 zE_cX7_filling 1 7 (by decide +kernel))
theorem dX7_filling_72 : decode cX7_filling 72 = .ok (.aload_n 0, 1) := dz_aload_n_0 (y0 zE_cX7_filling 1 8 (by decide +kernel))
theorem dX7_filling_73 : decode cX7_filling 73 = .ok (.getfield 70, 3) := dz_getfield (yu2 zE_cX7_filling 1 9 (by decide +kernel))
theorem dX7_filling_76 : decode cX7_filling 76 = .ok (.getfield 225, 3) := dz_getfield (yu2 zE_cX7_filling 1 12 (by decide +kernel))
theorem dX7_filling_79 : decode cX7_filling 79 = .ok (.ireturn, 1) := dz_ireturn (y0 zE_cX7_filling 1 15 (by decide +kernel))
theorem dX7_filling_80 : decode cX7_filling 80 = .ok (.aload_n 0, 1) := dz_aload_n_0 (y0 zE_cX7_filling 1 16 (by decide +kernel))
theorem dX7_filling_81 : decode cX7_filling 81 = .ok (.getfield 70, 3) := dz_getfield (yu2 zE_cX7_filling 1 17 (by decide +kernel))
theorem dX7_filling_84 : decode cX7_filling 84 = .ok (.getfield 350, 3) := dz_getfield (yu2 zE_cX7_filling 1 20 (by decide +kernel))
theorem dX7_filling_87 : decode cX7_filling 87 = .ok (.ireturn, 1) := dz_ireturn (y0 zE_cX7_filling 1 23 (by decide +kernel))
theorem gd_wsX7_set : wsX7_set.all goodWord = true := by decide +kernel
set_option maxRecDepth 20000 in
theorem ggX7_set_X7_playableFor : GoodIn wsX7_set wsX7_playableFor := gi_q gd_wsX7_set _ [(12, 1), (3, 1), (13, 4), (11, 1), (17, 8), (61, 15), (83, 8)] rfl
set_option maxRecDepth 20000 in
theorem gX7_set_X7_playableFor : GoodIn wsX7_set (wsV RX7 355 RX7 yX7_playableFor wsX7_playableFor) := goodIn_app (gi_q gd_wsX7_set _ [(8, 4)] rfl) ggX7_set_X7_playableFor
set_option maxRecDepth 20000 in
theorem ggX7_set_X1_choose : GoodIn wsX7_set wsX1_choose := gi_q gd_wsX7_set _ [(29, 10), (28, 1), (39, 2), (16, 1), (11, 1), (17, 1), (41, 20), (76, 7), (91, 4)] rfl
set_option maxRecDepth 20000 in
theorem gX7_set_X1_choose : GoodIn wsX7_set (wsV RX7 358 RX1 yX1_choose wsX1_choose) := goodIn_app (gi_q gd_wsX7_set _ [(25, 4)] rfl) ggX7_set_X1_choose
def zT_cX7_set : List (List Nat) := [[27, 155, 0, 13, 27, 4, 42, 180, 0, 44, 120, 161, 0, 14, 187, 0, 101, 89, 19, 1, 97, 183, 0, 105, 191, 42, 180, 0, 77, 42, 180, 0, 17, 42, 27, 182, 1, 99, 182, 1, 102, 28, 153, 0, 13, 42, 180, 0, 77, 180, 1, 106, 167, 0, 10, 42, 180, 0, 77, 180, 1, 107, 172]]
theorem zE_cX7_set : zTab cX7_set.data.toList zT_cX7_set = true := by decide +kernel
theorem dX7_set_0 : decode cX7_set 0 = .ok (.iload_n 1, 1) := dz_iload_n_1 (y0 zE_cX7_set 0 0 (by decide +kernel))
theorem dX7_set_1 : decode cX7_set 1 = .ok (.ifCond .lt 13, 3) := dz_ifCond_lt (ys2 zE_cX7_set 0 1 (by decide +kernel))
theorem dX7_set_4 : decode cX7_set 4 = .ok (.iload_n 1, 1) := dz_iload_n_1 (y0 zE_cX7_set 0 4 (by decide +kernel))
theorem dX7_set_5 : decode cX7_set 5 = .ok (.iconst 1, 1) := dz_iconst_1 (y0 zE_cX7_set 0 5 (by decide +kernel))
theorem dX7_set_6 : decode cX7_set 6 = .ok (.aload_n 0, 1) := dz_aload_n_0 (y0 zE_cX7_set 0 6 (by decide +kernel))
theorem dX7_set_7 : decode cX7_set 7 = .ok (.getfield 44, 3) := dz_getfield (yu2 zE_cX7_set 0 7 (by decide +kernel))
theorem dX7_set_10 : decode cX7_set 10 = .ok (.ishl, 1) := dz_ishl (y0 zE_cX7_set 0 10 (by decide +kernel))
theorem dX7_set_11 : decode cX7_set 11 = .ok (.if_icmp .lt 14, 3) := dz_if_icmp_lt (ys2 zE_cX7_set 0 11 (by decide +kernel))
theorem dX7_set_14 : decode cX7_set 14 = .ok (.new 101, 3) := dz_new (yu2 zE_cX7_set 0 14 (by decide +kernel))
theorem dX7_set_17 : decode cX7_set 17 = .ok (.dup, 1) := dz_dup (y0 zE_cX7_set 0 17 (by decide +kernel))
theorem dX7_set_18 : decode cX7_set 18 = .ok (.ldc_w 353, 3) := dz_ldc_w (yu2 zE_cX7_set 0 18 (by decide +kernel))
theorem dX7_set_21 : decode cX7_set 21 = .ok (.invokespecial 105, 3) := dz_invokespecial (yu2 zE_cX7_set 0 21 (by decide +kernel))
theorem dX7_set_24 : decode cX7_set 24 = .ok (.athrow, 1) := dz_athrow (y0 zE_cX7_set 0 24 (by decide +kernel))
theorem dX7_set_25 : decode cX7_set 25 = .ok (.aload_n 0, 1) := dz_aload_n_0 (y0 zE_cX7_set 0 25 (by decide +kernel))
theorem dX7_set_26 : decode cX7_set 26 = .ok (.getfield 77, 3) := dz_getfield (yu2 zE_cX7_set 0 26 (by decide +kernel))
theorem dX7_set_29 : decode cX7_set 29 = .ok (.aload_n 0, 1) := dz_aload_n_0 (y0 zE_cX7_set 0 29 (by decide +kernel))
theorem dX7_set_30 : decode cX7_set 30 = .ok (.getfield 17, 3) := dz_getfield (yu2 zE_cX7_set 0 30 (by decide +kernel))
theorem dX7_set_33 : decode cX7_set 33 = .ok (.aload_n 0, 1) := dz_aload_n_0 (y0 zE_cX7_set 0 33 (by decide +kernel))
theorem dX7_set_34 : decode cX7_set 34 = .ok (.iload_n 1, 1) := dz_iload_n_1 (y0 zE_cX7_set 0 34 (by decide +kernel))
theorem dX7_set_35 : decode cX7_set 35 = .ok (.invokevirtual 355, 3) := dz_invokevirtual (yu2 zE_cX7_set 0 35 (by decide +kernel))
theorem dX7_set_38 : decode cX7_set 38 = .ok (.invokevirtual 358, 3) := dz_invokevirtual (yu2 zE_cX7_set 0 38 (by decide +kernel))
theorem dX7_set_41 : decode cX7_set 41 = .ok (.iload_n 2, 1) := dz_iload_n_2 (y0 zE_cX7_set 0 41 (by decide +kernel))
theorem dX7_set_42 : decode cX7_set 42 = .ok (.ifCond .eq 13, 3) := dz_ifCond_eq (ys2 zE_cX7_set 0 42 (by decide +kernel))
theorem dX7_set_45 : decode cX7_set 45 = .ok (.aload_n 0, 1) := dz_aload_n_0 (y0 zE_cX7_set 0 45 (by decide +kernel))
theorem dX7_set_46 : decode cX7_set 46 = .ok (.getfield 77, 3) := dz_getfield (yu2 zE_cX7_set 0 46 (by decide +kernel))
theorem dX7_set_49 : decode cX7_set 49 = .ok (.getfield 362, 3) := dz_getfield (yu2 zE_cX7_set 0 49 (by decide +kernel))
theorem dX7_set_52 : decode cX7_set 52 = .ok (.goto 10, 3) := dz_goto (ys2 zE_cX7_set 0 52 (by decide +kernel))
theorem dX7_set_55 : decode cX7_set 55 = .ok (.aload_n 0, 1) := dz_aload_n_0 (y0 zE_cX7_set 0 55 (by decide +kernel))
theorem dX7_set_56 : decode cX7_set 56 = .ok (.getfield 77, 3) := dz_getfield (yu2 zE_cX7_set 0 56 (by decide +kernel))
theorem dX7_set_59 : decode cX7_set 59 = .ok (.getfield 363, 3) := dz_getfield (yu2 zE_cX7_set 0 59 (by decide +kernel))
theorem dX7_set_62 : decode cX7_set 62 = .ok (.ireturn, 1) := dz_ireturn (y0 zE_cX7_set 0 62 (by decide +kernel))
theorem gd_wsX7_songs : wsX7_songs.all goodWord = true := by decide +kernel
set_option maxRecDepth 20000 in
theorem ggX7_songs_X7_checkWedding : GoodIn wsX7_songs wsX7_checkWedding := goodIn_ca (gi_q gd_wsX7_songs _ [(14, 4), (283, 15)] rfl) (gi_sub gd_wsX7_songs (fun _ h => List.mem_cons_of_mem _ (List.mem_append_right _ h)))
set_option maxRecDepth 20000 in
theorem gX7_songs_X7_checkWedding : GoodIn wsX7_songs (wsV RX7 214 RX7 yX7_checkWedding wsX7_checkWedding) := goodIn_app (gi_q gd_wsX7_songs _ [(10, 4)] rfl) ggX7_songs_X7_checkWedding
set_option maxRecDepth 20000 in
theorem ggX7_songs_X7_playableFor : GoodIn wsX7_songs wsX7_playableFor := gi_q gd_wsX7_songs _ [(21, 6), (13, 1), (27, 8), (283, 15), (321, 8)] rfl
set_option maxRecDepth 20000 in
theorem gX7_songs_X7_playableFor : GoodIn wsX7_songs (wsV RX7 355 RX7 yX7_playableFor wsX7_playableFor) := goodIn_app (gi_q gd_wsX7_songs _ [(18, 3), (13, 1)] rfl) ggX7_songs_X7_playableFor
set_option maxRecDepth 20000 in
theorem ggX7_songs_X1_choose : GoodIn wsX7_songs wsX1_choose := gi_q gd_wsX7_songs _ [(39, 10), (38, 1), (49, 2), (26, 1), (13, 1), (27, 1), (51, 20), (310, 7), (329, 4)] rfl
set_option maxRecDepth 20000 in
theorem gX7_songs_X1_choose : GoodIn wsX7_songs (wsV RX7 358 RX1 yX1_choose wsX1_choose) := goodIn_app (gi_q gd_wsX7_songs _ [(35, 4)] rfl) ggX7_songs_X1_choose
set_option maxRecDepth 20000 in
theorem ggX7_songs_J4_init_da8c8 : GoodIn wsX7_songs wsJ4_init_da8c8 := gi_q gd_wsX7_songs _ [(73, 20), (317, 4)] rfl
set_option maxRecDepth 20000 in
theorem gX7_songs_J4_init_da8c8 : GoodIn wsX7_songs (wsJ4_init_da8c8) := ggX7_songs_J4_init_da8c8
set_option maxRecDepth 20000 in
theorem ggX7_songs_J4_append_cf468 : GoodIn wsX7_songs wsJ4_append_cf468 := gi_q gd_wsX7_songs _ [(96, 5), (76, 1), (101, 2), (83, 1), (103, 5), (84, 1), (108, 12), (59, 1), (120, 15), (82, 1), (135, 12), (81, 1), (147, 9), (85, 8), (156, 39), (317, 4)] rfl
set_option maxRecDepth 20000 in
theorem gX7_songs_J4_append_cf468 : GoodIn wsX7_songs (wsV RX7 369 RJ4 yJ4_append_cf468 wsJ4_append_cf468) := goodIn_app (gi_q gd_wsX7_songs _ [(93, 3), (8, 1)] rfl) ggX7_songs_J4_append_cf468
set_option maxRecDepth 20000 in
theorem ggX7_songs_J4_append_bf812 : GoodIn wsX7_songs wsJ4_append_bf812 := gi_q gd_wsX7_songs _ [(198, 3), (99, 1), (201, 1), (76, 1), (202, 1), (102, 1), (83, 1), (203, 2), (30, 1), (205, 1), (103, 5), (84, 1), (108, 12), (59, 1), (120, 15), (82, 1), (135, 12), (81, 1), (206, 7), (87, 1), (213, 1), (180, 1), (214, 3), (165, 3), (217, 2), (170, 1), (219, 1), (172, 1), (220, 2), (175, 1), (222, 6), (177, 3), (181, 2), (317, 4)] rfl
set_option maxRecDepth 20000 in
theorem gX7_songs_J4_append_bf812 : GoodIn wsX7_songs (wsV RX7 376 RJ4 yJ4_append_bf812 wsJ4_append_bf812) := goodIn_app (gi_q gd_wsX7_songs _ [(195, 3), (8, 1)] rfl) ggX7_songs_J4_append_bf812
set_option maxRecDepth 20000 in
theorem ggX7_songs_J4_toString_0e30d : GoodIn wsX7_songs wsJ4_toString_0e30d := gi_q gd_wsX7_songs _ [(231, 3), (170, 1), (234, 7), (79, 2), (241, 8), (76, 1), (249, 1), (83, 1), (250, 5), (8, 1), (255, 2), (99, 1), (257, 2), (102, 1), (259, 1), (143, 4), (81, 1), (84, 1), (260, 2), (127, 1), (262, 1), (129, 6), (263, 3), (82, 1), (135, 2), (59, 1), (137, 5), (266, 4), (7, 1), (270, 2), (87, 1), (272, 4), (162, 8), (171, 6), (276, 3), (180, 3), (89, 4), (279, 4), (333, 4), (317, 4)] rfl
set_option maxRecDepth 20000 in
theorem gX7_songs_J4_toString_0e30d : GoodIn wsX7_songs (wsV RX7 379 RJ4 yJ4_toString_0e30d wsJ4_toString_0e30d) := goodIn_app (gi_q gd_wsX7_songs _ [(228, 3), (8, 1)] rfl) ggX7_songs_J4_toString_0e30d
def zT_cX7_songs : List (List Nat) := [[42, 27, 182, 0, 214, 42, 180, 0, 77, 42, 180, 0, 17, 42, 42, 180, 0, 29, 27, 50, 180, 0, 239, 182, 1, 99, 182, 1, 102, 42, 180, 0, 77, 180, 1, 107, 154, 0, 7, 19, 1, 108, 176, 187, 1, 110, 89, 183, 1, 112, 77, 3, 62, 29, 42, 180, 0, 77, 180, 1, 107, 162, 0, 34, 29, 158, 0, 10], [29, 158, 0, 10, 44, 16, 32, 182, 1, 113, 87, 44, 42, 180, 0, 77, 180, 1, 117, 29, 46, 182, 1, 120, 87, 132, 3, 1, 167, 255, 217, 44, 182, 1, 123, 176]]
theorem zE_cX7_songs : zTab cX7_songs.data.toList zT_cX7_songs = true := by decide +kernel
theorem dX7_songs_0 : decode cX7_songs 0 = .ok (.aload_n 0, 1) := dz_aload_n_0 (y0 zE_cX7_songs 0 0 (by decide +kernel))
theorem dX7_songs_1 : decode cX7_songs 1 = .ok (.iload_n 1, 1) := dz_iload_n_1 (y0 zE_cX7_songs 0 1 (by decide +kernel))
theorem dX7_songs_2 : decode cX7_songs 2 = .ok (.invokevirtual 214, 3) := dz_invokevirtual (yu2 zE_cX7_songs 0 2 (by decide +kernel))
theorem dX7_songs_5 : decode cX7_songs 5 = .ok (.aload_n 0, 1) := dz_aload_n_0 (y0 zE_cX7_songs 0 5 (by decide +kernel))
theorem dX7_songs_6 : decode cX7_songs 6 = .ok (.getfield 77, 3) := dz_getfield (yu2 zE_cX7_songs 0 6 (by decide +kernel))
theorem dX7_songs_9 : decode cX7_songs 9 = .ok (.aload_n 0, 1) := dz_aload_n_0 (y0 zE_cX7_songs 0 9 (by decide +kernel))
theorem dX7_songs_10 : decode cX7_songs 10 = .ok (.getfield 17, 3) := dz_getfield (yu2 zE_cX7_songs 0 10 (by decide +kernel))
theorem dX7_songs_13 : decode cX7_songs 13 = .ok (.aload_n 0, 1) := dz_aload_n_0 (y0 zE_cX7_songs 0 13 (by decide +kernel))
theorem dX7_songs_14 : decode cX7_songs 14 = .ok (.aload_n 0, 1) := dz_aload_n_0 (y0 zE_cX7_songs 0 14 (by decide +kernel))
theorem dX7_songs_15 : decode cX7_songs 15 = .ok (.getfield 29, 3) := dz_getfield (yu2 zE_cX7_songs 0 15 (by decide +kernel))
theorem dX7_songs_18 : decode cX7_songs 18 = .ok (.iload_n 1, 1) := dz_iload_n_1 (y0 zE_cX7_songs 0 18 (by decide +kernel))
theorem dX7_songs_19 : decode cX7_songs 19 = .ok (.aaload, 1) := dz_aaload (y0 zE_cX7_songs 0 19 (by decide +kernel))
theorem dX7_songs_20 : decode cX7_songs 20 = .ok (.getfield 239, 3) := dz_getfield (yu2 zE_cX7_songs 0 20 (by decide +kernel))
theorem dX7_songs_23 : decode cX7_songs 23 = .ok (.invokevirtual 355, 3) := dz_invokevirtual (yu2 zE_cX7_songs 0 23 (by decide +kernel))
theorem dX7_songs_26 : decode cX7_songs 26 = .ok (.invokevirtual 358, 3) := dz_invokevirtual (yu2 zE_cX7_songs 0 26 (by decide +kernel))
theorem dX7_songs_29 : decode cX7_songs 29 = .ok (.aload_n 0, 1) := dz_aload_n_0 (y0 zE_cX7_songs 0 29 (by decide +kernel))
theorem dX7_songs_30 : decode cX7_songs 30 = .ok (.getfield 77, 3) := dz_getfield (yu2 zE_cX7_songs 0 30 (by decide +kernel))
theorem dX7_songs_33 : decode cX7_songs 33 = .ok (.getfield 363, 3) := dz_getfield (yu2 zE_cX7_songs 0 33 (by decide +kernel))
theorem dX7_songs_36 : decode cX7_songs 36 = .ok (.ifCond .ne 7, 3) := dz_ifCond_ne (ys2 zE_cX7_songs 0 36 (by decide +kernel))
theorem dX7_songs_39 : decode cX7_songs 39 = .ok (.ldc_w 364, 3) := dz_ldc_w (yu2 zE_cX7_songs 0 39 (by decide +kernel))
theorem dX7_songs_42 : decode cX7_songs 42 = .ok (.areturn, 1) := dz_areturn (y0 zE_cX7_songs 0 42 (by decide +kernel))
theorem dX7_songs_43 : decode cX7_songs 43 = .ok (.new 366, 3) := dz_new (yu2 zE_cX7_songs 0 43 (by decide +kernel))
theorem dX7_songs_46 : decode cX7_songs 46 = .ok (.dup, 1) := dz_dup (y0 zE_cX7_songs 0 46 (by decide +kernel))
theorem dX7_songs_47 : decode cX7_songs 47 = .ok (.invokespecial 368, 3) := dz_invokespecial (yu2 zE_cX7_songs 0 47 (by decide +kernel))
theorem dX7_songs_50 : decode cX7_songs 50 = .ok (.astore_n 2, 1) := dz_astore_n_2 (y0 zE_cX7_songs 0 50 (by decide +kernel))
theorem dX7_songs_51 : decode cX7_songs 51 = .ok (.iconst 0, 1) := dz_iconst_0 (y0 zE_cX7_songs 0 51 (by decide +kernel))
theorem dX7_songs_52 : decode cX7_songs 52 = .ok (.istore_n 3, 1) := dz_istore_n_3 (y0 zE_cX7_songs 0 52 (by decide +kernel))
theorem dX7_songs_53 : decode cX7_songs 53 = .ok (.iload_n 3, 1) := dz_iload_n_3 (y0 zE_cX7_songs 0 53 (by decide +kernel))
theorem dX7_songs_54 : decode cX7_songs 54 = .ok (.aload_n 0, 1) := dz_aload_n_0 (y0 zE_cX7_songs 0 54 (by decide +kernel))
theorem dX7_songs_55 : decode cX7_songs 55 = .ok (.getfield 77, 3) := dz_getfield (yu2 zE_cX7_songs 0 55 (by decide +kernel))
theorem dX7_songs_58 : decode cX7_songs 58 = .ok (.getfield 363, 3) := dz_getfield (yu2 zE_cX7_songs 0 58 (by decide +kernel))
theorem dX7_songs_61 : decode cX7_songs 61 = .ok (.if_icmp .ge 34, 3) := dz_if_icmp_ge (ys2 zE_cX7_songs 0 61 (by decide +kernel))
theorem dX7_songs_64 : decode cX7_songs 64 = .ok (.iload_n 3, 1) := dz_iload_n_3 (y0 zE_cX7_songs 1 0 (by decide +kernel))
theorem dX7_songs_65 : decode cX7_songs 65 = .ok (.ifCond .le 10, 3) := dz_ifCond_le (ys2 zE_cX7_songs 1 1 (by decide +kernel))
theorem dX7_songs_68 : decode cX7_songs 68 = .ok (.aload_n 2, 1) := dz_aload_n_2 (y0 zE_cX7_songs 1 4 (by decide +kernel))
theorem dX7_songs_69 : decode cX7_songs 69 = .ok (.bipush 32, 2) := dz_bipush (ys1 zE_cX7_songs 1 5 (by decide +kernel))
theorem dX7_songs_71 : decode cX7_songs 71 = .ok (.invokevirtual 369, 3) := dz_invokevirtual (yu2 zE_cX7_songs 1 7 (by decide +kernel))
theorem dX7_songs_74 : decode cX7_songs 74 = .ok (.pop, 1) := dz_pop (y0 zE_cX7_songs 1 10 (by decide +kernel))
theorem dX7_songs_75 : decode cX7_songs 75 = .ok (.aload_n 2, 1) := dz_aload_n_2 (y0 zE_cX7_songs 1 11 (by decide +kernel))
theorem dX7_songs_76 : decode cX7_songs 76 = .ok (.aload_n 0, 1) := dz_aload_n_0 (y0 zE_cX7_songs 1 12 (by decide +kernel))
theorem dX7_songs_77 : decode cX7_songs 77 = .ok (.getfield 77, 3) := dz_getfield (yu2 zE_cX7_songs 1 13 (by decide +kernel))
theorem dX7_songs_80 : decode cX7_songs 80 = .ok (.getfield 373, 3) := dz_getfield (yu2 zE_cX7_songs 1 16 (by decide +kernel))
theorem dX7_songs_83 : decode cX7_songs 83 = .ok (.iload_n 3, 1) := dz_iload_n_3 (y0 zE_cX7_songs 1 19 (by decide +kernel))
theorem dX7_songs_84 : decode cX7_songs 84 = .ok (.iaload, 1) := dz_iaload (y0 zE_cX7_songs 1 20 (by decide +kernel))
theorem dX7_songs_85 : decode cX7_songs 85 = .ok (.invokevirtual 376, 3) := dz_invokevirtual (yu2 zE_cX7_songs 1 21 (by decide +kernel))
theorem dX7_songs_88 : decode cX7_songs 88 = .ok (.pop, 1) := dz_pop (y0 zE_cX7_songs 1 24 (by decide +kernel))
theorem dX7_songs_89 : decode cX7_songs 89 = .ok (.iinc 3 1, 3) := dz_iinc (yii zE_cX7_songs 1 25 (by decide +kernel))
theorem dX7_songs_92 : decode cX7_songs 92 = .ok (.goto (-39), 3) := dz_goto (ys2 zE_cX7_songs 1 28 (by decide +kernel))
theorem dX7_songs_95 : decode cX7_songs 95 = .ok (.aload_n 2, 1) := dz_aload_n_2 (y0 zE_cX7_songs 1 31 (by decide +kernel))
theorem dX7_songs_96 : decode cX7_songs 96 = .ok (.invokevirtual 379, 3) := dz_invokevirtual (yu2 zE_cX7_songs 1 32 (by decide +kernel))
theorem dX7_songs_99 : decode cX7_songs 99 = .ok (.areturn, 1) := dz_areturn (y0 zE_cX7_songs 1 35 (by decide +kernel))
theorem gd_wsX7_desk : wsX7_desk.all goodWord = true := by decide +kernel
set_option maxRecDepth 20000 in
theorem ggX7_desk_X7_countInState : GoodIn wsX7_desk wsX7_countInState := gi_q gd_wsX7_desk _ [(12, 1), (6, 1), (13, 2), (50, 27)] rfl
set_option maxRecDepth 20000 in
theorem gX7_desk_X7_countInState : GoodIn wsX7_desk (wsV RX7 383 RX7 yX7_countInState wsX7_countInState) := goodIn_app (gi_q gd_wsX7_desk _ [(8, 4)] rfl) ggX7_desk_X7_countInState
set_option maxRecDepth 20000 in
theorem ggX7_desk_X7_countFeuds : GoodIn wsX7_desk wsX7_countFeuds := gi_q gd_wsX7_desk _ [(18, 1), (4, 1), (19, 9), (50, 15), (77, 8)] rfl
set_option maxRecDepth 20000 in
theorem gX7_desk_X7_countFeuds : GoodIn wsX7_desk (wsV RX7 386 RX7 yX7_countFeuds wsX7_countFeuds) := goodIn_app (gi_q gd_wsX7_desk _ [(15, 3), (11, 1)] rfl) ggX7_desk_X7_countFeuds
set_option maxRecDepth 20000 in
theorem ggX7_desk_X7_allEarned : GoodIn wsX7_desk wsX7_allEarned := gi_q gd_wsX7_desk _ [(31, 1), (4, 1), (19, 1), (32, 1), (50, 15), (77, 8)] rfl
set_option maxRecDepth 20000 in
theorem gX7_desk_X7_allEarned : GoodIn wsX7_desk (wsV RX7 389 RX7 yX7_allEarned wsX7_allEarned) := goodIn_app (gi_q gd_wsX7_desk _ [(28, 3), (11, 1)] rfl) ggX7_desk_X7_allEarned
set_option maxRecDepth 20000 in
theorem ggX7_desk_X7_countDaysOff : GoodIn wsX7_desk wsX7_countDaysOff := gi_q gd_wsX7_desk _ [(36, 2), (21, 7), (50, 15)] rfl
set_option maxRecDepth 20000 in
theorem gX7_desk_X7_countDaysOff : GoodIn wsX7_desk (wsV RX7 392 RX7 yX7_countDaysOff wsX7_countDaysOff) := goodIn_app (gi_q gd_wsX7_desk _ [(33, 3), (11, 1)] rfl) ggX7_desk_X7_countDaysOff
set_option maxRecDepth 20000 in
theorem ggX7_desk_X7_gapOfHours : GoodIn wsX7_desk wsX7_gapOfHours := gi_q gd_wsX7_desk _ [(41, 1), (4, 1), (19, 1), (42, 23), (77, 8)] rfl
set_option maxRecDepth 20000 in
theorem gX7_desk_X7_gapOfHours : GoodIn wsX7_desk (wsV RX7 395 RX7 yX7_gapOfHours wsX7_gapOfHours) := goodIn_app (gi_q gd_wsX7_desk _ [(38, 3), (11, 1)] rfl) ggX7_desk_X7_gapOfHours
def zT_cX7_desk : List (List Nat) := [[27, 170, 0, 0, 0, 0, 0, 136, 0, 0, 0, 0, 0, 0, 0, 12, 0, 0, 0, 67, 0, 0, 0, 72, 0, 0, 0, 77, 0, 0, 0, 82, 0, 0, 0, 87, 0, 0, 0, 93, 0, 0, 0, 99, 0, 0, 0, 105, 0, 0, 0, 111, 0, 0, 0, 116, 0, 0, 0, 121, 0, 0, 0, 126, 0, 0, 0, 131], [0, 0, 0, 131, 42, 180, 0, 54, 172, 42, 180, 0, 44, 172, 42, 180, 0, 48, 172, 42, 180, 0, 51, 172, 42, 3, 182, 1, 127, 172, 42, 4, 182, 1, 127, 172, 42, 5, 182, 1, 127, 172, 42, 6, 182, 1, 127, 172, 42, 180, 0, 57, 172, 42, 182, 1, 130, 172, 42, 182, 1, 133, 172, 42, 182, 1, 136, 172], [182, 1, 136, 172, 42, 182, 1, 139, 172, 187, 0, 101, 89, 19, 1, 142, 183, 0, 105, 191]]
theorem zE_cX7_desk : zTab cX7_desk.data.toList zT_cX7_desk = true := by decide +kernel
theorem dX7_desk_0 : decode cX7_desk 0 = .ok (.iload_n 1, 1) := dz_iload_n_1 (y0 zE_cX7_desk 0 0 (by decide +kernel))
theorem dX7_desk_1 : decode cX7_desk 1 = .ok (.tableswitch 136 0 12 #[67, 72, 77, 82, 87, 93, 99, 105, 111, 116, 121, 126, 131], 67) := dkT (by decide +kernel)
theorem dX7_desk_68 : decode cX7_desk 68 = .ok (.aload_n 0, 1) := dz_aload_n_0 (y0 zE_cX7_desk 1 4 (by decide +kernel))
theorem dX7_desk_69 : decode cX7_desk 69 = .ok (.getfield 54, 3) := dz_getfield (yu2 zE_cX7_desk 1 5 (by decide +kernel))
theorem dX7_desk_72 : decode cX7_desk 72 = .ok (.ireturn, 1) := dz_ireturn (y0 zE_cX7_desk 1 8 (by decide +kernel))
theorem dX7_desk_73 : decode cX7_desk 73 = .ok (.aload_n 0, 1) := dz_aload_n_0 (y0 zE_cX7_desk 1 9 (by decide +kernel))
theorem dX7_desk_74 : decode cX7_desk 74 = .ok (.getfield 44, 3) := dz_getfield (yu2 zE_cX7_desk 1 10 (by decide +kernel))
theorem dX7_desk_77 : decode cX7_desk 77 = .ok (.ireturn, 1) := dz_ireturn (y0 zE_cX7_desk 1 13 (by decide +kernel))
theorem dX7_desk_78 : decode cX7_desk 78 = .ok (.aload_n 0, 1) := dz_aload_n_0 (y0 zE_cX7_desk 1 14 (by decide +kernel))
theorem dX7_desk_79 : decode cX7_desk 79 = .ok (.getfield 48, 3) := dz_getfield (yu2 zE_cX7_desk 1 15 (by decide +kernel))
theorem dX7_desk_82 : decode cX7_desk 82 = .ok (.ireturn, 1) := dz_ireturn (y0 zE_cX7_desk 1 18 (by decide +kernel))
theorem dX7_desk_83 : decode cX7_desk 83 = .ok (.aload_n 0, 1) := dz_aload_n_0 (y0 zE_cX7_desk 1 19 (by decide +kernel))
theorem dX7_desk_84 : decode cX7_desk 84 = .ok (.getfield 51, 3) := dz_getfield (yu2 zE_cX7_desk 1 20 (by decide +kernel))
theorem dX7_desk_87 : decode cX7_desk 87 = .ok (.ireturn, 1) := dz_ireturn (y0 zE_cX7_desk 1 23 (by decide +kernel))
theorem dX7_desk_88 : decode cX7_desk 88 = .ok (.aload_n 0, 1) := dz_aload_n_0 (y0 zE_cX7_desk 1 24 (by decide +kernel))
theorem dX7_desk_89 : decode cX7_desk 89 = .ok (.iconst 0, 1) := dz_iconst_0 (y0 zE_cX7_desk 1 25 (by decide +kernel))
theorem dX7_desk_90 : decode cX7_desk 90 = .ok (.invokevirtual 383, 3) := dz_invokevirtual (yu2 zE_cX7_desk 1 26 (by decide +kernel))
theorem dX7_desk_93 : decode cX7_desk 93 = .ok (.ireturn, 1) := dz_ireturn (y0 zE_cX7_desk 1 29 (by decide +kernel))
theorem dX7_desk_94 : decode cX7_desk 94 = .ok (.aload_n 0, 1) := dz_aload_n_0 (y0 zE_cX7_desk 1 30 (by decide +kernel))
theorem dX7_desk_95 : decode cX7_desk 95 = .ok (.iconst 1, 1) := dz_iconst_1 (y0 zE_cX7_desk 1 31 (by decide +kernel))
theorem dX7_desk_96 : decode cX7_desk 96 = .ok (.invokevirtual 383, 3) := dz_invokevirtual (yu2 zE_cX7_desk 1 32 (by decide +kernel))
theorem dX7_desk_99 : decode cX7_desk 99 = .ok (.ireturn, 1) := dz_ireturn (y0 zE_cX7_desk 1 35 (by decide +kernel))
theorem dX7_desk_100 : decode cX7_desk 100 = .ok (.aload_n 0, 1) := dz_aload_n_0 (y0 zE_cX7_desk 1 36 (by decide +kernel))
theorem dX7_desk_101 : decode cX7_desk 101 = .ok (.iconst 2, 1) := dz_iconst_2 (y0 zE_cX7_desk 1 37 (by decide +kernel))
theorem dX7_desk_102 : decode cX7_desk 102 = .ok (.invokevirtual 383, 3) := dz_invokevirtual (yu2 zE_cX7_desk 1 38 (by decide +kernel))
theorem dX7_desk_105 : decode cX7_desk 105 = .ok (.ireturn, 1) := dz_ireturn (y0 zE_cX7_desk 1 41 (by decide +kernel))
theorem dX7_desk_106 : decode cX7_desk 106 = .ok (.aload_n 0, 1) := dz_aload_n_0 (y0 zE_cX7_desk 1 42 (by decide +kernel))
theorem dX7_desk_107 : decode cX7_desk 107 = .ok (.iconst 3, 1) := dz_iconst_3 (y0 zE_cX7_desk 1 43 (by decide +kernel))
theorem dX7_desk_108 : decode cX7_desk 108 = .ok (.invokevirtual 383, 3) := dz_invokevirtual (yu2 zE_cX7_desk 1 44 (by decide +kernel))
theorem dX7_desk_111 : decode cX7_desk 111 = .ok (.ireturn, 1) := dz_ireturn (y0 zE_cX7_desk 1 47 (by decide +kernel))
theorem dX7_desk_112 : decode cX7_desk 112 = .ok (.aload_n 0, 1) := dz_aload_n_0 (y0 zE_cX7_desk 1 48 (by decide +kernel))
theorem dX7_desk_113 : decode cX7_desk 113 = .ok (.getfield 57, 3) := dz_getfield (yu2 zE_cX7_desk 1 49 (by decide +kernel))
theorem dX7_desk_116 : decode cX7_desk 116 = .ok (.ireturn, 1) := dz_ireturn (y0 zE_cX7_desk 1 52 (by decide +kernel))
theorem dX7_desk_117 : decode cX7_desk 117 = .ok (.aload_n 0, 1) := dz_aload_n_0 (y0 zE_cX7_desk 1 53 (by decide +kernel))
theorem dX7_desk_118 : decode cX7_desk 118 = .ok (.invokevirtual 386, 3) := dz_invokevirtual (yu2 zE_cX7_desk 1 54 (by decide +kernel))
theorem dX7_desk_121 : decode cX7_desk 121 = .ok (.ireturn, 1) := dz_ireturn (y0 zE_cX7_desk 1 57 (by decide +kernel))
theorem dX7_desk_122 : decode cX7_desk 122 = .ok (.aload_n 0, 1) := dz_aload_n_0 (y0 zE_cX7_desk 1 58 (by decide +kernel))
theorem dX7_desk_123 : decode cX7_desk 123 = .ok (.invokevirtual 389, 3) := dz_invokevirtual (yu2 zE_cX7_desk 1 59 (by decide +kernel))
theorem dX7_desk_126 : decode cX7_desk 126 = .ok (.ireturn, 1) := dz_ireturn (y0 zE_cX7_desk 1 62 (by decide +kernel))
theorem dX7_desk_127 : decode cX7_desk 127 = .ok (.aload_n 0, 1) := dz_aload_n_0 (y0 zE_cX7_desk 1 63 (by decide +kernel))
theorem dX7_desk_128 : decode cX7_desk 128 = .ok (.invokevirtual 392, 3) := dz_invokevirtual (yu2 zE_cX7_desk 2 0 (by decide +kernel))
theorem dX7_desk_131 : decode cX7_desk 131 = .ok (.ireturn, 1) := dz_ireturn (y0 zE_cX7_desk 2 3 (by decide +kernel))
theorem dX7_desk_132 : decode cX7_desk 132 = .ok (.aload_n 0, 1) := dz_aload_n_0 (y0 zE_cX7_desk 2 4 (by decide +kernel))
theorem dX7_desk_133 : decode cX7_desk 133 = .ok (.invokevirtual 395, 3) := dz_invokevirtual (yu2 zE_cX7_desk 2 5 (by decide +kernel))
theorem dX7_desk_136 : decode cX7_desk 136 = .ok (.ireturn, 1) := dz_ireturn (y0 zE_cX7_desk 2 8 (by decide +kernel))
theorem dX7_desk_137 : decode cX7_desk 137 = .ok (.new 101, 3) := dz_new (yu2 zE_cX7_desk 2 9 (by decide +kernel))
theorem dX7_desk_140 : decode cX7_desk 140 = .ok (.dup, 1) := dz_dup (y0 zE_cX7_desk 2 12 (by decide +kernel))
theorem dX7_desk_141 : decode cX7_desk 141 = .ok (.ldc_w 398, 3) := dz_ldc_w (yu2 zE_cX7_desk 2 13 (by decide +kernel))
theorem dX7_desk_144 : decode cX7_desk 144 = .ok (.invokespecial 105, 3) := dz_invokespecial (yu2 zE_cX7_desk 2 16 (by decide +kernel))
theorem dX7_desk_147 : decode cX7_desk 147 = .ok (.athrow, 1) := dz_athrow (y0 zE_cX7_desk 2 19 (by decide +kernel))
theorem gd_wsX7_tell : wsX7_tell.all goodWord = true := by decide +kernel
set_option maxRecDepth 20000 in
theorem ggX7_tell_X7_checkWedding : GoodIn wsX7_tell wsX7_checkWedding := goodIn_ca (gi_q gd_wsX7_tell _ [(13, 4), (260, 15)] rfl) (gi_sub gd_wsX7_tell (fun _ h => List.mem_cons_of_mem _ (List.mem_append_right _ h)))
set_option maxRecDepth 20000 in
theorem gX7_tell_X7_checkWedding : GoodIn wsX7_tell (wsV RX7 214 RX7 yX7_checkWedding wsX7_checkWedding) := goodIn_app (gi_q gd_wsX7_tell _ [(9, 4)] rfl) ggX7_tell_X7_checkWedding
set_option maxRecDepth 20000 in
theorem ggX7_tell_J4_init_da8c8 : GoodIn wsX7_tell wsJ4_init_da8c8 := gi_q gd_wsX7_tell _ [(19, 20), (275, 4)] rfl
set_option maxRecDepth 20000 in
theorem gX7_tell_J4_init_da8c8 : GoodIn wsX7_tell (wsJ4_init_da8c8) := ggX7_tell_J4_init_da8c8
set_option maxRecDepth 20000 in
theorem ggX7_tell_J4_append_bf812 : GoodIn wsX7_tell wsJ4_append_bf812 := gi_q gd_wsX7_tell _ [(42, 5), (22, 1), (47, 2), (29, 1), (49, 9), (30, 1), (58, 28), (28, 1), (86, 12), (27, 1), (98, 7), (33, 1), (105, 27), (275, 4)] rfl
set_option maxRecDepth 20000 in
theorem gX7_tell_J4_append_bf812 : GoodIn wsX7_tell (wsV RX7 376 RJ4 yJ4_append_bf812 wsJ4_append_bf812) := goodIn_app (gi_q gd_wsX7_tell _ [(39, 3), (4, 1)] rfl) ggX7_tell_J4_append_bf812
set_option maxRecDepth 20000 in
theorem ggX7_tell_J4_append_15ec4 : GoodIn wsX7_tell wsJ4_append_15ec4 := gi_q gd_wsX7_tell _ [(135, 3), (45, 1), (138, 1), (22, 1), (139, 1), (48, 1), (140, 5), (29, 1), (53, 5), (30, 1), (58, 28), (28, 1), (86, 12), (27, 1), (145, 2), (33, 1), (147, 1), (106, 16), (127, 5), (148, 27), (31, 2), (34, 5), (175, 22), (275, 4), (291, 4)] rfl
set_option maxRecDepth 20000 in
theorem gX7_tell_J4_append_15ec4 : GoodIn wsX7_tell (wsV RX7 402 RJ4 yJ4_append_15ec4 wsJ4_append_15ec4) := goodIn_app (gi_q gd_wsX7_tell _ [(132, 3), (4, 1)] rfl) ggX7_tell_J4_append_15ec4
set_option maxRecDepth 20000 in
theorem ggX7_tell_X7_nameOfState : GoodIn wsX7_tell wsX7_nameOfState := gi_q gd_wsX7_tell _ [(199, 1)] rfl
set_option maxRecDepth 20000 in
theorem gX7_tell_X7_nameOfState : GoodIn wsX7_tell (va_wsS RX7 409 yX7_nameOfState wsX7_nameOfState) := goodIn_app (gi_q gd_wsX7_tell _ [(197, 2), (12, 1)] rfl) ggX7_tell_X7_nameOfState
set_option maxRecDepth 20000 in
theorem ggX7_tell_X7_appendPlayers : GoodIn wsX7_tell wsX7_appendPlayers := gi_q gd_wsX7_tell _ [(203, 4), (12, 1), (207, 1), (132, 3), (4, 1), (135, 3), (45, 1), (138, 1), (22, 1), (139, 1), (48, 1), (140, 5), (29, 1), (53, 5), (30, 1), (58, 28), (28, 1), (86, 12), (27, 1), (145, 2), (33, 1), (147, 1), (106, 16), (127, 5), (148, 27), (31, 2), (34, 5), (175, 22), (39, 6), (46, 2), (49, 4), (98, 8), (122, 5), (260, 19), (291, 4)] rfl
set_option maxRecDepth 20000 in
theorem gX7_tell_X7_appendPlayers : GoodIn wsX7_tell (wsV RX7 413 RX7 yX7_appendPlayers wsX7_appendPlayers) := goodIn_app (gi_q gd_wsX7_tell _ [(200, 3), (12, 1)] rfl) ggX7_tell_X7_appendPlayers
set_option maxRecDepth 20000 in
theorem ggX7_tell_J4_toString_0e30d : GoodIn wsX7_tell wsJ4_toString_0e30d := gi_q gd_wsX7_tell _ [(211, 3), (115, 1), (214, 7), (25, 2), (158, 1), (152, 1), (157, 1), (221, 5), (22, 1), (226, 1), (29, 1), (227, 5), (4, 1), (232, 2), (45, 1), (234, 2), (48, 1), (236, 1), (94, 4), (27, 1), (30, 1), (237, 2), (78, 1), (239, 1), (80, 6), (240, 3), (28, 1), (86, 2), (70, 1), (88, 5), (243, 4), (3, 1), (247, 2), (33, 1), (249, 4), (182, 3), (110, 3), (185, 3), (117, 1), (188, 2), (120, 1), (190, 1), (253, 3), (106, 1), (130, 2), (35, 4), (256, 4), (291, 4), (275, 4)] rfl
set_option maxRecDepth 20000 in
theorem gX7_tell_J4_toString_0e30d : GoodIn wsX7_tell (wsV RX7 379 RJ4 yJ4_toString_0e30d wsJ4_toString_0e30d) := goodIn_app (gi_q gd_wsX7_tell _ [(208, 3), (4, 1)] rfl) ggX7_tell_J4_toString_0e30d
def zT_cX7_tell : List (List Nat) := [[42, 27, 182, 0, 214, 42, 180, 0, 29, 27, 50, 77, 187, 1, 110, 89, 183, 1, 112, 78, 45, 27, 182, 1, 120, 19, 1, 144, 182, 1, 146, 44, 180, 0, 196, 182, 1, 120, 19, 1, 149, 182, 1, 146, 44, 180, 0, 199, 182, 1, 120, 87, 45, 19, 1, 151, 182, 1, 146, 44, 180, 0, 233, 184, 1, 153, 182, 1], [1, 153, 182, 1, 146, 87, 44, 180, 0, 233, 4, 159, 0, 11, 44, 180, 0, 233, 5, 160, 0, 12, 42, 45, 44, 180, 0, 239, 182, 1, 157, 45, 182, 1, 123, 176]]
theorem zE_cX7_tell : zTab cX7_tell.data.toList zT_cX7_tell = true := by decide +kernel
theorem dX7_tell_0 : decode cX7_tell 0 = .ok (.aload_n 0, 1) := dz_aload_n_0 (y0 zE_cX7_tell 0 0 (by decide +kernel))
theorem dX7_tell_1 : decode cX7_tell 1 = .ok (.iload_n 1, 1) := dz_iload_n_1 (y0 zE_cX7_tell 0 1 (by decide +kernel))
theorem dX7_tell_2 : decode cX7_tell 2 = .ok (.invokevirtual 214, 3) := dz_invokevirtual (yu2 zE_cX7_tell 0 2 (by decide +kernel))
theorem dX7_tell_5 : decode cX7_tell 5 = .ok (.aload_n 0, 1) := dz_aload_n_0 (y0 zE_cX7_tell 0 5 (by decide +kernel))
theorem dX7_tell_6 : decode cX7_tell 6 = .ok (.getfield 29, 3) := dz_getfield (yu2 zE_cX7_tell 0 6 (by decide +kernel))
theorem dX7_tell_9 : decode cX7_tell 9 = .ok (.iload_n 1, 1) := dz_iload_n_1 (y0 zE_cX7_tell 0 9 (by decide +kernel))
theorem dX7_tell_10 : decode cX7_tell 10 = .ok (.aaload, 1) := dz_aaload (y0 zE_cX7_tell 0 10 (by decide +kernel))
theorem dX7_tell_11 : decode cX7_tell 11 = .ok (.astore_n 2, 1) := dz_astore_n_2 (y0 zE_cX7_tell 0 11 (by decide +kernel))
theorem dX7_tell_12 : decode cX7_tell 12 = .ok (.new 366, 3) := dz_new (yu2 zE_cX7_tell 0 12 (by decide +kernel))
theorem dX7_tell_15 : decode cX7_tell 15 = .ok (.dup, 1) := dz_dup (y0 zE_cX7_tell 0 15 (by decide +kernel))
theorem dX7_tell_16 : decode cX7_tell 16 = .ok (.invokespecial 368, 3) := dz_invokespecial (yu2 zE_cX7_tell 0 16 (by decide +kernel))
theorem dX7_tell_19 : decode cX7_tell 19 = .ok (.astore_n 3, 1) := dz_astore_n_3 (y0 zE_cX7_tell 0 19 (by decide +kernel))
theorem dX7_tell_20 : decode cX7_tell 20 = .ok (.aload_n 3, 1) := dz_aload_n_3 (y0 zE_cX7_tell 0 20 (by decide +kernel))
theorem dX7_tell_21 : decode cX7_tell 21 = .ok (.iload_n 1, 1) := dz_iload_n_1 (y0 zE_cX7_tell 0 21 (by decide +kernel))
theorem dX7_tell_22 : decode cX7_tell 22 = .ok (.invokevirtual 376, 3) := dz_invokevirtual (yu2 zE_cX7_tell 0 22 (by decide +kernel))
theorem dX7_tell_25 : decode cX7_tell 25 = .ok (.ldc_w 400, 3) := dz_ldc_w (yu2 zE_cX7_tell 0 25 (by decide +kernel))
theorem dX7_tell_28 : decode cX7_tell 28 = .ok (.invokevirtual 402, 3) := dz_invokevirtual (yu2 zE_cX7_tell 0 28 (by decide +kernel))
theorem dX7_tell_31 : decode cX7_tell 31 = .ok (.aload_n 2, 1) := dz_aload_n_2 (y0 zE_cX7_tell 0 31 (by decide +kernel))
theorem dX7_tell_32 : decode cX7_tell 32 = .ok (.getfield 196, 3) := dz_getfield (yu2 zE_cX7_tell 0 32 (by decide +kernel))
theorem dX7_tell_35 : decode cX7_tell 35 = .ok (.invokevirtual 376, 3) := dz_invokevirtual (yu2 zE_cX7_tell 0 35 (by decide +kernel))
theorem dX7_tell_38 : decode cX7_tell 38 = .ok (.ldc_w 405, 3) := dz_ldc_w (yu2 zE_cX7_tell 0 38 (by decide +kernel))
theorem dX7_tell_41 : decode cX7_tell 41 = .ok (.invokevirtual 402, 3) := dz_invokevirtual (yu2 zE_cX7_tell 0 41 (by decide +kernel))
theorem dX7_tell_44 : decode cX7_tell 44 = .ok (.aload_n 2, 1) := dz_aload_n_2 (y0 zE_cX7_tell 0 44 (by decide +kernel))
theorem dX7_tell_45 : decode cX7_tell 45 = .ok (.getfield 199, 3) := dz_getfield (yu2 zE_cX7_tell 0 45 (by decide +kernel))
theorem dX7_tell_48 : decode cX7_tell 48 = .ok (.invokevirtual 376, 3) := dz_invokevirtual (yu2 zE_cX7_tell 0 48 (by decide +kernel))
theorem dX7_tell_51 : decode cX7_tell 51 = .ok (.pop, 1) := dz_pop (y0 zE_cX7_tell 0 51 (by decide +kernel))
theorem dX7_tell_52 : decode cX7_tell 52 = .ok (.aload_n 3, 1) := dz_aload_n_3 (y0 zE_cX7_tell 0 52 (by decide +kernel))
theorem dX7_tell_53 : decode cX7_tell 53 = .ok (.ldc_w 407, 3) := dz_ldc_w (yu2 zE_cX7_tell 0 53 (by decide +kernel))
theorem dX7_tell_56 : decode cX7_tell 56 = .ok (.invokevirtual 402, 3) := dz_invokevirtual (yu2 zE_cX7_tell 0 56 (by decide +kernel))
theorem dX7_tell_59 : decode cX7_tell 59 = .ok (.aload_n 2, 1) := dz_aload_n_2 (y0 zE_cX7_tell 0 59 (by decide +kernel))
theorem dX7_tell_60 : decode cX7_tell 60 = .ok (.getfield 233, 3) := dz_getfield (yu2 zE_cX7_tell 0 60 (by decide +kernel))
theorem dX7_tell_63 : decode cX7_tell 63 = .ok (.invokestatic 409, 3) := dz_invokestatic (yu2 zE_cX7_tell 0 63 (by decide +kernel))
theorem dX7_tell_66 : decode cX7_tell 66 = .ok (.invokevirtual 402, 3) := dz_invokevirtual (yu2 zE_cX7_tell 1 2 (by decide +kernel))
theorem dX7_tell_69 : decode cX7_tell 69 = .ok (.pop, 1) := dz_pop (y0 zE_cX7_tell 1 5 (by decide +kernel))
theorem dX7_tell_70 : decode cX7_tell 70 = .ok (.aload_n 2, 1) := dz_aload_n_2 (y0 zE_cX7_tell 1 6 (by decide +kernel))
theorem dX7_tell_71 : decode cX7_tell 71 = .ok (.getfield 233, 3) := dz_getfield (yu2 zE_cX7_tell 1 7 (by decide +kernel))
theorem dX7_tell_74 : decode cX7_tell 74 = .ok (.iconst 1, 1) := dz_iconst_1 (y0 zE_cX7_tell 1 10 (by decide +kernel))
theorem dX7_tell_75 : decode cX7_tell 75 = .ok (.if_icmp .eq 11, 3) := dz_if_icmp_eq (ys2 zE_cX7_tell 1 11 (by decide +kernel))
theorem dX7_tell_78 : decode cX7_tell 78 = .ok (.aload_n 2, 1) := dz_aload_n_2 (y0 zE_cX7_tell 1 14 (by decide +kernel))
theorem dX7_tell_79 : decode cX7_tell 79 = .ok (.getfield 233, 3) := dz_getfield (yu2 zE_cX7_tell 1 15 (by decide +kernel))
theorem dX7_tell_82 : decode cX7_tell 82 = .ok (.iconst 2, 1) := dz_iconst_2 (y0 zE_cX7_tell 1 18 (by decide +kernel))
theorem dX7_tell_83 : decode cX7_tell 83 = .ok (.if_icmp .ne 12, 3) := dz_if_icmp_ne (ys2 zE_cX7_tell 1 19 (by decide +kernel))
theorem dX7_tell_86 : decode cX7_tell 86 = .ok (.aload_n 0, 1) := dz_aload_n_0 (y0 zE_cX7_tell 1 22 (by decide +kernel))
theorem dX7_tell_87 : decode cX7_tell 87 = .ok (.aload_n 3, 1) := dz_aload_n_3 (y0 zE_cX7_tell 1 23 (by decide +kernel))
theorem dX7_tell_88 : decode cX7_tell 88 = .ok (.aload_n 2, 1) := dz_aload_n_2 (y0 zE_cX7_tell 1 24 (by decide +kernel))
theorem dX7_tell_89 : decode cX7_tell 89 = .ok (.getfield 239, 3) := dz_getfield (yu2 zE_cX7_tell 1 25 (by decide +kernel))
theorem dX7_tell_92 : decode cX7_tell 92 = .ok (.invokevirtual 413, 3) := dz_invokevirtual (yu2 zE_cX7_tell 1 28 (by decide +kernel))
theorem dX7_tell_95 : decode cX7_tell 95 = .ok (.aload_n 3, 1) := dz_aload_n_3 (y0 zE_cX7_tell 1 31 (by decide +kernel))
theorem dX7_tell_96 : decode cX7_tell 96 = .ok (.invokevirtual 379, 3) := dz_invokevirtual (yu2 zE_cX7_tell 1 32 (by decide +kernel))
theorem dX7_tell_99 : decode cX7_tell 99 = .ok (.areturn, 1) := dz_areturn (y0 zE_cX7_tell 1 35 (by decide +kernel))
theorem gd_wsX7_wouldLose : wsX7_wouldLose.all goodWord = true := by decide +kernel
set_option maxRecDepth 20000 in
theorem ggX7_wouldLose_X7_checkPlayer : GoodIn wsX7_wouldLose wsX7_checkPlayer := goodIn_ca (gi_q gd_wsX7_wouldLose _ [(5, 4), (129, 15)] rfl) (gi_sub gd_wsX7_wouldLose (fun _ h => List.mem_cons_of_mem _ (List.mem_append_left _ (List.mem_append_right _ h))))
set_option maxRecDepth 20000 in
theorem gX7_wouldLose_X7_checkPlayer : GoodIn wsX7_wouldLose (wsV RX7 123 RX7 yX7_checkPlayer wsX7_checkPlayer) := goodIn_app (gi_q gd_wsX7_wouldLose _ [(1, 4)] rfl) ggX7_wouldLose_X7_checkPlayer
set_option maxRecDepth 20000 in
theorem ggX7_wouldLose_X7_checkDayToCome : GoodIn wsX7_wouldLose wsX7_checkDayToCome := goodIn_ca (gi_q gd_wsX7_wouldLose _ [(12, 4), (129, 15)] rfl) (gi_sub gd_wsX7_wouldLose (fun _ h => List.mem_cons_of_mem _ (List.mem_append_right _ h)))
set_option maxRecDepth 20000 in
theorem gX7_wouldLose_X7_checkDayToCome : GoodIn wsX7_wouldLose (wsV RX7 268 RX7 yX7_checkDayToCome wsX7_checkDayToCome) := goodIn_app (gi_q gd_wsX7_wouldLose _ [(9, 3), (4, 1)] rfl) ggX7_wouldLose_X7_checkDayToCome
set_option maxRecDepth 20000 in
theorem ggX7_wouldLose_X7_stageWithout : GoodIn wsX7_wouldLose wsX7_stageWithout := gi_q gd_wsX7_wouldLose _ [(19, 11), (4, 1), (30, 10), (8, 1), (40, 135)] rfl
set_option maxRecDepth 20000 in
theorem gX7_wouldLose_X7_stageWithout : GoodIn wsX7_wouldLose (wsV RX7 271 RX7 yX7_stageWithout wsX7_stageWithout) := goodIn_app (gi_q gd_wsX7_wouldLose _ [(16, 3), (4, 1)] rfl) ggX7_wouldLose_X7_stageWithout
theorem dX7_wouldLose_0 : decode cX7_wouldLose 0 = .ok (.aload_n 0, 1) := dkT (by decide +kernel)
theorem dX7_wouldLose_1 : decode cX7_wouldLose 1 = .ok (.iload_n 1, 1) := dkT (by decide +kernel)
theorem dX7_wouldLose_2 : decode cX7_wouldLose 2 = .ok (.invokevirtual 123, 3) := dkT (by decide +kernel)
theorem dX7_wouldLose_5 : decode cX7_wouldLose 5 = .ok (.aload_n 0, 1) := dkT (by decide +kernel)
theorem dX7_wouldLose_6 : decode cX7_wouldLose 6 = .ok (.iload_n 2, 1) := dkT (by decide +kernel)
theorem dX7_wouldLose_7 : decode cX7_wouldLose 7 = .ok (.invokevirtual 268, 3) := dkT (by decide +kernel)
theorem dX7_wouldLose_10 : decode cX7_wouldLose 10 = .ok (.aload_n 0, 1) := dkT (by decide +kernel)
theorem dX7_wouldLose_11 : decode cX7_wouldLose 11 = .ok (.iload_n 1, 1) := dkT (by decide +kernel)
theorem dX7_wouldLose_12 : decode cX7_wouldLose 12 = .ok (.iload_n 2, 1) := dkT (by decide +kernel)
theorem dX7_wouldLose_13 : decode cX7_wouldLose 13 = .ok (.invokevirtual 271, 3) := dkT (by decide +kernel)
theorem dX7_wouldLose_16 : decode cX7_wouldLose 16 = .ok (.ireturn, 1) := dkT (by decide +kernel)
theorem gd_wsX7_plan : wsX7_plan.all goodWord = true := by decide +kernel
set_option maxRecDepth 20000 in
theorem ggX7_plan_X7_firstOnesOf : GoodIn wsX7_plan wsX7_firstOnesOf := gi_q gd_wsX7_plan _ [(7, 7), (6, 1), (14, 18), (141, 27)] rfl
set_option maxRecDepth 20000 in
theorem gX7_plan_X7_firstOnesOf : GoodIn wsX7_plan (wsV RX7 419 RX7 yX7_firstOnesOf wsX7_firstOnesOf) := goodIn_app (gi_q gd_wsX7_plan _ [(3, 4)] rfl) ggX7_plan_X7_firstOnesOf
set_option maxRecDepth 20000 in
theorem ggX7_plan_J6_bitCount_0f7a4 : GoodIn wsX7_plan wsJ6_bitCount_0f7a4 := gi_q gd_wsX7_plan _ [(28, 4)] rfl
set_option maxRecDepth 20000 in
theorem gX7_plan_J6_bitCount_0f7a4 : GoodIn wsX7_plan (va_wsS RX7 128 yJ6_bitCount_0f7a4 wsJ6_bitCount_0f7a4) := goodIn_app (gi_q gd_wsX7_plan _ [(25, 3)] rfl) ggX7_plan_J6_bitCount_0f7a4
set_option maxRecDepth 20000 in
theorem ggX7_plan_X7_membersAt : GoodIn wsX7_plan wsX7_membersAt := gi_q gd_wsX7_plan _ [(34, 3), (6, 1), (37, 1)] rfl
set_option maxRecDepth 20000 in
theorem gX7_plan_X7_membersAt : GoodIn wsX7_plan (va_wsS RX7 422 yX7_membersAt wsX7_membersAt) := goodIn_app (gi_q gd_wsX7_plan _ [(32, 2), (6, 1)] rfl) ggX7_plan_X7_membersAt
set_option maxRecDepth 20000 in
theorem ggX7_plan_X7_stageAll : GoodIn wsX7_plan wsX7_stageAll := gi_q gd_wsX7_plan _ [(41, 1), (8, 1), (42, 8), (6, 1), (50, 1), (9, 1), (19, 1), (51, 1), (35, 3), (52, 10), (10, 1), (62, 28), (24, 1), (90, 25), (25, 7), (115, 41), (168, 6), (156, 12), (174, 13)] rfl
set_option maxRecDepth 20000 in
theorem gX7_plan_X7_stageAll : GoodIn wsX7_plan (wsV RX7 425 RX7 yX7_stageAll wsX7_stageAll) := goodIn_app (gi_q gd_wsX7_plan _ [(38, 3), (6, 1)] rfl) ggX7_plan_X7_stageAll
def zT_cX7_plan : List (List Nat) := [[27, 155, 0, 10, 27, 17, 1, 109, 164, 0, 14, 187, 0, 101, 89, 19, 1, 161, 183, 0, 105, 191, 42, 27, 182, 1, 163, 62, 3, 54, 4, 3, 54, 5, 4, 54, 6, 21, 6, 4, 29, 184, 0, 128, 120, 162, 0, 40, 29, 21, 6, 184, 1, 166, 54, 7, 42, 21, 7, 182, 1, 169, 54, 8, 21, 8, 21, 5], [21, 8, 21, 5, 164, 0, 11, 21, 8, 54, 5, 21, 7, 54, 4, 132, 6, 1, 167, 255, 211, 28, 153, 0, 8, 21, 4, 167, 0, 5, 21, 5, 172]]
theorem zE_cX7_plan : zTab cX7_plan.data.toList zT_cX7_plan = true := by decide +kernel
theorem dX7_plan_0 : decode cX7_plan 0 = .ok (.iload_n 1, 1) := dz_iload_n_1 (y0 zE_cX7_plan 0 0 (by decide +kernel))
theorem dX7_plan_1 : decode cX7_plan 1 = .ok (.ifCond .lt 10, 3) := dz_ifCond_lt (ys2 zE_cX7_plan 0 1 (by decide +kernel))
theorem dX7_plan_4 : decode cX7_plan 4 = .ok (.iload_n 1, 1) := dz_iload_n_1 (y0 zE_cX7_plan 0 4 (by decide +kernel))
theorem dX7_plan_5 : decode cX7_plan 5 = .ok (.sipush 365, 3) := dz_sipush (ys2 zE_cX7_plan 0 5 (by decide +kernel))
theorem dX7_plan_8 : decode cX7_plan 8 = .ok (.if_icmp .le 14, 3) := dz_if_icmp_le (ys2 zE_cX7_plan 0 8 (by decide +kernel))
theorem dX7_plan_11 : decode cX7_plan 11 = .ok (.new 101, 3) := dz_new (yu2 zE_cX7_plan 0 11 (by decide +kernel))
theorem dX7_plan_14 : decode cX7_plan 14 = .ok (.dup, 1) := dz_dup (y0 zE_cX7_plan 0 14 (by decide +kernel))
theorem dX7_plan_15 : decode cX7_plan 15 = .ok (.ldc_w 417, 3) := dz_ldc_w (yu2 zE_cX7_plan 0 15 (by decide +kernel))
theorem dX7_plan_18 : decode cX7_plan 18 = .ok (.invokespecial 105, 3) := dz_invokespecial (yu2 zE_cX7_plan 0 18 (by decide +kernel))
theorem dX7_plan_21 : decode cX7_plan 21 = .ok (.athrow, 1) := dz_athrow (y0 zE_cX7_plan 0 21 (by decide +kernel))
theorem dX7_plan_22 : decode cX7_plan 22 = .ok (.aload_n 0, 1) := dz_aload_n_0 (y0 zE_cX7_plan 0 22 (by decide +kernel))
theorem dX7_plan_23 : decode cX7_plan 23 = .ok (.iload_n 1, 1) := dz_iload_n_1 (y0 zE_cX7_plan 0 23 (by decide +kernel))
theorem dX7_plan_24 : decode cX7_plan 24 = .ok (.invokevirtual 419, 3) := dz_invokevirtual (yu2 zE_cX7_plan 0 24 (by decide +kernel))
theorem dX7_plan_27 : decode cX7_plan 27 = .ok (.istore_n 3, 1) := dz_istore_n_3 (y0 zE_cX7_plan 0 27 (by decide +kernel))
theorem dX7_plan_28 : decode cX7_plan 28 = .ok (.iconst 0, 1) := dz_iconst_0 (y0 zE_cX7_plan 0 28 (by decide +kernel))
theorem dX7_plan_29 : decode cX7_plan 29 = .ok (.istore 4, 2) := dz_istore (yu1 zE_cX7_plan 0 29 (by decide +kernel))
theorem dX7_plan_31 : decode cX7_plan 31 = .ok (.iconst 0, 1) := dz_iconst_0 (y0 zE_cX7_plan 0 31 (by decide +kernel))
theorem dX7_plan_32 : decode cX7_plan 32 = .ok (.istore 5, 2) := dz_istore (yu1 zE_cX7_plan 0 32 (by decide +kernel))
theorem dX7_plan_34 : decode cX7_plan 34 = .ok (.iconst 1, 1) := dz_iconst_1 (y0 zE_cX7_plan 0 34 (by decide +kernel))
theorem dX7_plan_35 : decode cX7_plan 35 = .ok (.istore 6, 2) := dz_istore (yu1 zE_cX7_plan 0 35 (by decide +kernel))
theorem dX7_plan_37 : decode cX7_plan 37 = .ok (.iload 6, 2) := dz_iload (yu1 zE_cX7_plan 0 37 (by decide +kernel))
theorem dX7_plan_39 : decode cX7_plan 39 = .ok (.iconst 1, 1) := dz_iconst_1 (y0 zE_cX7_plan 0 39 (by decide +kernel))
theorem dX7_plan_40 : decode cX7_plan 40 = .ok (.iload_n 3, 1) := dz_iload_n_3 (y0 zE_cX7_plan 0 40 (by decide +kernel))
theorem dX7_plan_41 : decode cX7_plan 41 = .ok (.invokestatic 128, 3) := dz_invokestatic (yu2 zE_cX7_plan 0 41 (by decide +kernel))
theorem dX7_plan_44 : decode cX7_plan 44 = .ok (.ishl, 1) := dz_ishl (y0 zE_cX7_plan 0 44 (by decide +kernel))
theorem dX7_plan_45 : decode cX7_plan 45 = .ok (.if_icmp .ge 40, 3) := dz_if_icmp_ge (ys2 zE_cX7_plan 0 45 (by decide +kernel))
theorem dX7_plan_48 : decode cX7_plan 48 = .ok (.iload_n 3, 1) := dz_iload_n_3 (y0 zE_cX7_plan 0 48 (by decide +kernel))
theorem dX7_plan_49 : decode cX7_plan 49 = .ok (.iload 6, 2) := dz_iload (yu1 zE_cX7_plan 0 49 (by decide +kernel))
theorem dX7_plan_51 : decode cX7_plan 51 = .ok (.invokestatic 422, 3) := dz_invokestatic (yu2 zE_cX7_plan 0 51 (by decide +kernel))
theorem dX7_plan_54 : decode cX7_plan 54 = .ok (.istore 7, 2) := dz_istore (yu1 zE_cX7_plan 0 54 (by decide +kernel))
theorem dX7_plan_56 : decode cX7_plan 56 = .ok (.aload_n 0, 1) := dz_aload_n_0 (y0 zE_cX7_plan 0 56 (by decide +kernel))
theorem dX7_plan_57 : decode cX7_plan 57 = .ok (.iload 7, 2) := dz_iload (yu1 zE_cX7_plan 0 57 (by decide +kernel))
theorem dX7_plan_59 : decode cX7_plan 59 = .ok (.invokevirtual 425, 3) := dz_invokevirtual (yu2 zE_cX7_plan 0 59 (by decide +kernel))
theorem dX7_plan_62 : decode cX7_plan 62 = .ok (.istore 8, 2) := dz_istore (yu1 zE_cX7_plan 0 62 (by decide +kernel))
theorem dX7_plan_64 : decode cX7_plan 64 = .ok (.iload 8, 2) := dz_iload (yu1 zE_cX7_plan 1 0 (by decide +kernel))
theorem dX7_plan_66 : decode cX7_plan 66 = .ok (.iload 5, 2) := dz_iload (yu1 zE_cX7_plan 1 2 (by decide +kernel))
theorem dX7_plan_68 : decode cX7_plan 68 = .ok (.if_icmp .le 11, 3) := dz_if_icmp_le (ys2 zE_cX7_plan 1 4 (by decide +kernel))
theorem dX7_plan_71 : decode cX7_plan 71 = .ok (.iload 8, 2) := dz_iload (yu1 zE_cX7_plan 1 7 (by decide +kernel))
theorem dX7_plan_73 : decode cX7_plan 73 = .ok (.istore 5, 2) := dz_istore (yu1 zE_cX7_plan 1 9 (by decide +kernel))
theorem dX7_plan_75 : decode cX7_plan 75 = .ok (.iload 7, 2) := dz_iload (yu1 zE_cX7_plan 1 11 (by decide +kernel))
theorem dX7_plan_77 : decode cX7_plan 77 = .ok (.istore 4, 2) := dz_istore (yu1 zE_cX7_plan 1 13 (by decide +kernel))
theorem dX7_plan_79 : decode cX7_plan 79 = .ok (.iinc 6 1, 3) := dz_iinc (yii zE_cX7_plan 1 15 (by decide +kernel))
theorem dX7_plan_82 : decode cX7_plan 82 = .ok (.goto (-45), 3) := dz_goto (ys2 zE_cX7_plan 1 18 (by decide +kernel))
theorem dX7_plan_85 : decode cX7_plan 85 = .ok (.iload_n 2, 1) := dz_iload_n_2 (y0 zE_cX7_plan 1 21 (by decide +kernel))
theorem dX7_plan_86 : decode cX7_plan 86 = .ok (.ifCond .eq 8, 3) := dz_ifCond_eq (ys2 zE_cX7_plan 1 22 (by decide +kernel))
theorem dX7_plan_89 : decode cX7_plan 89 = .ok (.iload 4, 2) := dz_iload (yu1 zE_cX7_plan 1 25 (by decide +kernel))
theorem dX7_plan_91 : decode cX7_plan 91 = .ok (.goto 5, 3) := dz_goto (ys2 zE_cX7_plan 1 27 (by decide +kernel))
theorem dX7_plan_94 : decode cX7_plan 94 = .ok (.iload 5, 2) := dz_iload (yu1 zE_cX7_plan 1 30 (by decide +kernel))
theorem dX7_plan_96 : decode cX7_plan 96 = .ok (.ireturn, 1) := dz_ireturn (y0 zE_cX7_plan 1 32 (by decide +kernel))
theorem gd_wsX7_wouldCancel : wsX7_wouldCancel.all goodWord = true := by decide +kernel
set_option maxRecDepth 20000 in
theorem ggX7_wouldCancel_X7_checkWedding : GoodIn wsX7_wouldCancel wsX7_checkWedding := goodIn_ca (gi_q gd_wsX7_wouldCancel _ [(15, 4), (69, 15)] rfl) (gi_sub gd_wsX7_wouldCancel (fun _ h => List.mem_cons_of_mem _ (List.mem_append_right _ h)))
set_option maxRecDepth 20000 in
theorem gX7_wouldCancel_X7_checkWedding : GoodIn wsX7_wouldCancel (wsV RX7 214 RX7 yX7_checkWedding wsX7_checkWedding) := goodIn_app (gi_q gd_wsX7_wouldCancel _ [(11, 4)] rfl) ggX7_wouldCancel_X7_checkWedding
set_option maxRecDepth 20000 in
theorem ggX7_wouldCancel_X7_owedFor : GoodIn wsX7_wouldCancel wsX7_owedFor := gi_q gd_wsX7_wouldCancel _ [(22, 3), (10, 1), (84, 12), (69, 15)] rfl
set_option maxRecDepth 20000 in
theorem gX7_wouldCancel_X7_owedFor : GoodIn wsX7_wouldCancel (wsV RX7 256 RX7 yX7_owedFor wsX7_owedFor) := goodIn_app (gi_q gd_wsX7_wouldCancel _ [(19, 3), (14, 1)] rfl) ggX7_wouldCancel_X7_owedFor
set_option maxRecDepth 20000 in
theorem ggX7_wouldCancel_X7_extraOf : GoodIn wsX7_wouldCancel wsX7_extraOf := gi_q gd_wsX7_wouldCancel _ [(28, 7), (14, 1), (35, 11), (8, 1), (46, 1), (69, 35)] rfl
set_option maxRecDepth 20000 in
theorem gX7_wouldCancel_X7_extraOf : GoodIn wsX7_wouldCancel (wsV RX7 428 RX7 yX7_extraOf wsX7_extraOf) := goodIn_app (gi_q gd_wsX7_wouldCancel _ [(25, 3), (14, 1)] rfl) ggX7_wouldCancel_X7_extraOf
set_option maxRecDepth 20000 in
theorem ggX7_wouldCancel_X7_allWagesAt : GoodIn wsX7_wouldCancel wsX7_allWagesAt := gi_q gd_wsX7_wouldCancel _ [(50, 1), (29, 3), (33, 2), (14, 1), (35, 1), (51, 4), (32, 1), (55, 8), (6, 4), (63, 6), (36, 11), (69, 37)] rfl
set_option maxRecDepth 20000 in
theorem gX7_wouldCancel_X7_allWagesAt : GoodIn wsX7_wouldCancel (wsV RX7 431 RX7 yX7_allWagesAt wsX7_allWagesAt) := goodIn_app (gi_q gd_wsX7_wouldCancel _ [(47, 3), (14, 1)] rfl) ggX7_wouldCancel_X7_allWagesAt
def zT_cX7_wouldCancel : List (List Nat) := [[42, 27, 182, 0, 214, 42, 180, 0, 29, 27, 50, 77, 44, 180, 0, 233, 4, 159, 0, 14, 187, 0, 106, 89, 19, 1, 26, 183, 0, 110, 191, 3, 42, 44, 182, 1, 0, 44, 180, 1, 4, 100, 184, 1, 7, 62, 44, 180, 0, 247, 44, 180, 1, 4, 100, 42, 44, 182, 1, 172, 96, 42, 44, 182, 1, 175, 100, 54], [1, 175, 100, 54, 4, 29, 21, 4, 100, 172]]
theorem zE_cX7_wouldCancel : zTab cX7_wouldCancel.data.toList zT_cX7_wouldCancel = true := by decide +kernel
theorem dX7_wouldCancel_0 : decode cX7_wouldCancel 0 = .ok (.aload_n 0, 1) := dz_aload_n_0 (y0 zE_cX7_wouldCancel 0 0 (by decide +kernel))
theorem dX7_wouldCancel_1 : decode cX7_wouldCancel 1 = .ok (.iload_n 1, 1) := dz_iload_n_1 (y0 zE_cX7_wouldCancel 0 1 (by decide +kernel))
theorem dX7_wouldCancel_2 : decode cX7_wouldCancel 2 = .ok (.invokevirtual 214, 3) := dz_invokevirtual (yu2 zE_cX7_wouldCancel 0 2 (by decide +kernel))
theorem dX7_wouldCancel_5 : decode cX7_wouldCancel 5 = .ok (.aload_n 0, 1) := dz_aload_n_0 (y0 zE_cX7_wouldCancel 0 5 (by decide +kernel))
theorem dX7_wouldCancel_6 : decode cX7_wouldCancel 6 = .ok (.getfield 29, 3) := dz_getfield (yu2 zE_cX7_wouldCancel 0 6 (by decide +kernel))
theorem dX7_wouldCancel_9 : decode cX7_wouldCancel 9 = .ok (.iload_n 1, 1) := dz_iload_n_1 (y0 zE_cX7_wouldCancel 0 9 (by decide +kernel))
theorem dX7_wouldCancel_10 : decode cX7_wouldCancel 10 = .ok (.aaload, 1) := dz_aaload (y0 zE_cX7_wouldCancel 0 10 (by decide +kernel))
theorem dX7_wouldCancel_11 : decode cX7_wouldCancel 11 = .ok (.astore_n 2, 1) := dz_astore_n_2 (y0 zE_cX7_wouldCancel 0 11 (by decide +kernel))
theorem dX7_wouldCancel_12 : decode cX7_wouldCancel 12 = .ok (.aload_n 2, 1) := dz_aload_n_2 (y0 zE_cX7_wouldCancel 0 12 (by decide +kernel))
theorem dX7_wouldCancel_13 : decode cX7_wouldCancel 13 = .ok (.getfield 233, 3) := dz_getfield (yu2 zE_cX7_wouldCancel 0 13 (by decide +kernel))
theorem dX7_wouldCancel_16 : decode cX7_wouldCancel 16 = .ok (.iconst 1, 1) := dz_iconst_1 (y0 zE_cX7_wouldCancel 0 16 (by decide +kernel))
theorem dX7_wouldCancel_17 : decode cX7_wouldCancel 17 = .ok (.if_icmp .eq 14, 3) := dz_if_icmp_eq (ys2 zE_cX7_wouldCancel 0 17 (by decide +kernel))
theorem dX7_wouldCancel_20 : decode cX7_wouldCancel 20 = .ok (.new 106, 3) := dz_new (yu2 zE_cX7_wouldCancel 0 20 (by decide +kernel))
theorem dX7_wouldCancel_23 : decode cX7_wouldCancel 23 = .ok (.dup, 1) := dz_dup (y0 zE_cX7_wouldCancel 0 23 (by decide +kernel))
theorem dX7_wouldCancel_24 : decode cX7_wouldCancel 24 = .ok (.ldc_w 282, 3) := dz_ldc_w (yu2 zE_cX7_wouldCancel 0 24 (by decide +kernel))
theorem dX7_wouldCancel_27 : decode cX7_wouldCancel 27 = .ok (.invokespecial 110, 3) := dz_invokespecial (yu2 zE_cX7_wouldCancel 0 27 (by decide +kernel))
theorem dX7_wouldCancel_30 : decode cX7_wouldCancel 30 = .ok (.athrow, 1) := dz_athrow (y0 zE_cX7_wouldCancel 0 30 (by decide +kernel))
theorem dX7_wouldCancel_31 : decode cX7_wouldCancel 31 = .ok (.iconst 0, 1) := dz_iconst_0 (y0 zE_cX7_wouldCancel 0 31 (by decide +kernel))
theorem dX7_wouldCancel_32 : decode cX7_wouldCancel 32 = .ok (.aload_n 0, 1) := dz_aload_n_0 (y0 zE_cX7_wouldCancel 0 32 (by decide +kernel))
theorem dX7_wouldCancel_33 : decode cX7_wouldCancel 33 = .ok (.aload_n 2, 1) := dz_aload_n_2 (y0 zE_cX7_wouldCancel 0 33 (by decide +kernel))
theorem dX7_wouldCancel_34 : decode cX7_wouldCancel 34 = .ok (.invokevirtual 256, 3) := dz_invokevirtual (yu2 zE_cX7_wouldCancel 0 34 (by decide +kernel))
theorem dX7_wouldCancel_37 : decode cX7_wouldCancel 37 = .ok (.aload_n 2, 1) := dz_aload_n_2 (y0 zE_cX7_wouldCancel 0 37 (by decide +kernel))
theorem dX7_wouldCancel_38 : decode cX7_wouldCancel 38 = .ok (.getfield 260, 3) := dz_getfield (yu2 zE_cX7_wouldCancel 0 38 (by decide +kernel))
theorem dX7_wouldCancel_41 : decode cX7_wouldCancel 41 = .ok (.isub, 1) := dz_isub (y0 zE_cX7_wouldCancel 0 41 (by decide +kernel))
theorem dX7_wouldCancel_42 : decode cX7_wouldCancel 42 = .ok (.invokestatic 263, 3) := dz_invokestatic (yu2 zE_cX7_wouldCancel 0 42 (by decide +kernel))
theorem dX7_wouldCancel_45 : decode cX7_wouldCancel 45 = .ok (.istore_n 3, 1) := dz_istore_n_3 (y0 zE_cX7_wouldCancel 0 45 (by decide +kernel))
theorem dX7_wouldCancel_46 : decode cX7_wouldCancel 46 = .ok (.aload_n 2, 1) := dz_aload_n_2 (y0 zE_cX7_wouldCancel 0 46 (by decide +kernel))
theorem dX7_wouldCancel_47 : decode cX7_wouldCancel 47 = .ok (.getfield 247, 3) := dz_getfield (yu2 zE_cX7_wouldCancel 0 47 (by decide +kernel))
theorem dX7_wouldCancel_50 : decode cX7_wouldCancel 50 = .ok (.aload_n 2, 1) := dz_aload_n_2 (y0 zE_cX7_wouldCancel 0 50 (by decide +kernel))
theorem dX7_wouldCancel_51 : decode cX7_wouldCancel 51 = .ok (.getfield 260, 3) := dz_getfield (yu2 zE_cX7_wouldCancel 0 51 (by decide +kernel))
theorem dX7_wouldCancel_54 : decode cX7_wouldCancel 54 = .ok (.isub, 1) := dz_isub (y0 zE_cX7_wouldCancel 0 54 (by decide +kernel))
theorem dX7_wouldCancel_55 : decode cX7_wouldCancel 55 = .ok (.aload_n 0, 1) := dz_aload_n_0 (y0 zE_cX7_wouldCancel 0 55 (by decide +kernel))
theorem dX7_wouldCancel_56 : decode cX7_wouldCancel 56 = .ok (.aload_n 2, 1) := dz_aload_n_2 (y0 zE_cX7_wouldCancel 0 56 (by decide +kernel))
theorem dX7_wouldCancel_57 : decode cX7_wouldCancel 57 = .ok (.invokevirtual 428, 3) := dz_invokevirtual (yu2 zE_cX7_wouldCancel 0 57 (by decide +kernel))
theorem dX7_wouldCancel_60 : decode cX7_wouldCancel 60 = .ok (.iadd, 1) := dz_iadd (y0 zE_cX7_wouldCancel 0 60 (by decide +kernel))
theorem dX7_wouldCancel_61 : decode cX7_wouldCancel 61 = .ok (.aload_n 0, 1) := dz_aload_n_0 (y0 zE_cX7_wouldCancel 0 61 (by decide +kernel))
theorem dX7_wouldCancel_62 : decode cX7_wouldCancel 62 = .ok (.aload_n 2, 1) := dz_aload_n_2 (y0 zE_cX7_wouldCancel 0 62 (by decide +kernel))
theorem dX7_wouldCancel_63 : decode cX7_wouldCancel 63 = .ok (.invokevirtual 431, 3) := dz_invokevirtual (yu2 zE_cX7_wouldCancel 0 63 (by decide +kernel))
theorem dX7_wouldCancel_66 : decode cX7_wouldCancel 66 = .ok (.isub, 1) := dz_isub (y0 zE_cX7_wouldCancel 1 2 (by decide +kernel))
theorem dX7_wouldCancel_67 : decode cX7_wouldCancel 67 = .ok (.istore 4, 2) := dz_istore (yu1 zE_cX7_wouldCancel 1 3 (by decide +kernel))
theorem dX7_wouldCancel_69 : decode cX7_wouldCancel 69 = .ok (.iload_n 3, 1) := dz_iload_n_3 (y0 zE_cX7_wouldCancel 1 5 (by decide +kernel))
theorem dX7_wouldCancel_70 : decode cX7_wouldCancel 70 = .ok (.iload 4, 2) := dz_iload (yu1 zE_cX7_wouldCancel 1 6 (by decide +kernel))
theorem dX7_wouldCancel_72 : decode cX7_wouldCancel 72 = .ok (.isub, 1) := dz_isub (y0 zE_cX7_wouldCancel 1 8 (by decide +kernel))
theorem dX7_wouldCancel_73 : decode cX7_wouldCancel 73 = .ok (.ireturn, 1) := dz_ireturn (y0 zE_cX7_wouldCancel 1 9 (by decide +kernel))
theorem gd_wsX7_key : wsX7_key.all goodWord = true := by decide +kernel
set_option maxRecDepth 20000 in
theorem ggX7_key_X7_checkWedding : GoodIn wsX7_key wsX7_checkWedding := goodIn_ca (gi_q gd_wsX7_key _ [(9, 4), (122, 15)] rfl) (gi_sub gd_wsX7_key (fun _ h => List.mem_cons_of_mem _ (List.mem_append_right _ h)))
set_option maxRecDepth 20000 in
theorem gX7_key_X7_checkWedding : GoodIn wsX7_key (wsV RX7 214 RX7 yX7_checkWedding wsX7_checkWedding) := goodIn_app (gi_q gd_wsX7_key _ [(5, 4)] rfl) ggX7_key_X7_checkWedding
set_option maxRecDepth 20000 in
theorem ggX7_key_X7_surveyNow : GoodIn wsX7_key wsX7_surveyNow := gi_q gd_wsX7_key _ [(16, 4), (8, 1), (20, 1), (12, 1), (21, 8), (3, 1), (29, 39), (1, 1), (68, 2), (2, 1), (70, 67), (143, 25), (137, 6)] rfl
set_option maxRecDepth 20000 in
theorem gX7_key_X7_surveyNow : GoodIn wsX7_key (wsV RX7 222 RX7 yX7_surveyNow wsX7_surveyNow) := goodIn_app (gi_q gd_wsX7_key _ [(13, 3), (8, 1)] rfl) ggX7_key_X7_surveyNow
set_option maxRecDepth 20000 in
theorem ggX7_key_X7_has : GoodIn wsX7_key wsX7_has := gi_q gd_wsX7_key _ [(48, 1)] rfl
set_option maxRecDepth 20000 in
theorem gX7_key_X7_has : GoodIn wsX7_key (va_wsS RX7 153 yX7_has wsX7_has) := goodIn_app (gi_q gd_wsX7_key _ [(46, 2), (8, 1)] rfl) ggX7_key_X7_has
def zT_cX7_key : List (List Nat) := [[42, 27, 182, 0, 214, 42, 27, 182, 0, 222, 42, 180, 0, 70, 180, 0, 225, 154, 0, 5, 2, 172, 3, 61, 28, 42, 180, 0, 44, 162, 0, 25, 42, 180, 0, 70, 180, 1, 178, 28, 184, 0, 153, 153, 0, 5, 28, 172, 132, 2, 1, 167, 255, 229, 2, 172]]
theorem zE_cX7_key : zTab cX7_key.data.toList zT_cX7_key = true := by decide +kernel
theorem dX7_key_0 : decode cX7_key 0 = .ok (.aload_n 0, 1) := dz_aload_n_0 (y0 zE_cX7_key 0 0 (by decide +kernel))
theorem dX7_key_1 : decode cX7_key 1 = .ok (.iload_n 1, 1) := dz_iload_n_1 (y0 zE_cX7_key 0 1 (by decide +kernel))
theorem dX7_key_2 : decode cX7_key 2 = .ok (.invokevirtual 214, 3) := dz_invokevirtual (yu2 zE_cX7_key 0 2 (by decide +kernel))
theorem dX7_key_5 : decode cX7_key 5 = .ok (.aload_n 0, 1) := dz_aload_n_0 (y0 zE_cX7_key 0 5 (by decide +kernel))
theorem dX7_key_6 : decode cX7_key 6 = .ok (.iload_n 1, 1) := dz_iload_n_1 (y0 zE_cX7_key 0 6 (by decide +kernel))
theorem dX7_key_7 : decode cX7_key 7 = .ok (.invokevirtual 222, 3) := dz_invokevirtual (yu2 zE_cX7_key 0 7 (by decide +kernel))
theorem dX7_key_10 : decode cX7_key 10 = .ok (.aload_n 0, 1) := dz_aload_n_0 (y0 zE_cX7_key 0 10 (by decide +kernel))
theorem dX7_key_11 : decode cX7_key 11 = .ok (.getfield 70, 3) := dz_getfield (yu2 zE_cX7_key 0 11 (by decide +kernel))
theorem dX7_key_14 : decode cX7_key 14 = .ok (.getfield 225, 3) := dz_getfield (yu2 zE_cX7_key 0 14 (by decide +kernel))
theorem dX7_key_17 : decode cX7_key 17 = .ok (.ifCond .ne 5, 3) := dz_ifCond_ne (ys2 zE_cX7_key 0 17 (by decide +kernel))
theorem dX7_key_20 : decode cX7_key 20 = .ok (.iconst (-1), 1) := dz_iconst_m1 (y0 zE_cX7_key 0 20 (by decide +kernel))
theorem dX7_key_21 : decode cX7_key 21 = .ok (.ireturn, 1) := dz_ireturn (y0 zE_cX7_key 0 21 (by decide +kernel))
theorem dX7_key_22 : decode cX7_key 22 = .ok (.iconst 0, 1) := dz_iconst_0 (y0 zE_cX7_key 0 22 (by decide +kernel))
theorem dX7_key_23 : decode cX7_key 23 = .ok (.istore_n 2, 1) := dz_istore_n_2 (y0 zE_cX7_key 0 23 (by decide +kernel))
theorem dX7_key_24 : decode cX7_key 24 = .ok (.iload_n 2, 1) := dz_iload_n_2 (y0 zE_cX7_key 0 24 (by decide +kernel))
theorem dX7_key_25 : decode cX7_key 25 = .ok (.aload_n 0, 1) := dz_aload_n_0 (y0 zE_cX7_key 0 25 (by decide +kernel))
theorem dX7_key_26 : decode cX7_key 26 = .ok (.getfield 44, 3) := dz_getfield (yu2 zE_cX7_key 0 26 (by decide +kernel))
theorem dX7_key_29 : decode cX7_key 29 = .ok (.if_icmp .ge 25, 3) := dz_if_icmp_ge (ys2 zE_cX7_key 0 29 (by decide +kernel))
theorem dX7_key_32 : decode cX7_key 32 = .ok (.aload_n 0, 1) := dz_aload_n_0 (y0 zE_cX7_key 0 32 (by decide +kernel))
theorem dX7_key_33 : decode cX7_key 33 = .ok (.getfield 70, 3) := dz_getfield (yu2 zE_cX7_key 0 33 (by decide +kernel))
theorem dX7_key_36 : decode cX7_key 36 = .ok (.getfield 434, 3) := dz_getfield (yu2 zE_cX7_key 0 36 (by decide +kernel))
theorem dX7_key_39 : decode cX7_key 39 = .ok (.iload_n 2, 1) := dz_iload_n_2 (y0 zE_cX7_key 0 39 (by decide +kernel))
theorem dX7_key_40 : decode cX7_key 40 = .ok (.invokestatic 153, 3) := dz_invokestatic (yu2 zE_cX7_key 0 40 (by decide +kernel))
theorem dX7_key_43 : decode cX7_key 43 = .ok (.ifCond .eq 5, 3) := dz_ifCond_eq (ys2 zE_cX7_key 0 43 (by decide +kernel))
theorem dX7_key_46 : decode cX7_key 46 = .ok (.iload_n 2, 1) := dz_iload_n_2 (y0 zE_cX7_key 0 46 (by decide +kernel))
theorem dX7_key_47 : decode cX7_key 47 = .ok (.ireturn, 1) := dz_ireturn (y0 zE_cX7_key 0 47 (by decide +kernel))
theorem dX7_key_48 : decode cX7_key 48 = .ok (.iinc 2 1, 3) := dz_iinc (yii zE_cX7_key 0 48 (by decide +kernel))
theorem dX7_key_51 : decode cX7_key 51 = .ok (.goto (-27), 3) := dz_goto (ys2 zE_cX7_key 0 51 (by decide +kernel))
theorem dX7_key_54 : decode cX7_key 54 = .ok (.iconst (-1), 1) := dz_iconst_m1 (y0 zE_cX7_key 0 54 (by decide +kernel))
theorem dX7_key_55 : decode cX7_key 55 = .ok (.ireturn, 1) := dz_ireturn (y0 zE_cX7_key 0 55 (by decide +kernel))
theorem gd_wsX7_isSound : wsX7_isSound.all goodWord = true := by decide +kernel
set_option maxRecDepth 20000 in
theorem ggX7_isSound_X7_areFixedOnesSound : GoodIn wsX7_isSound wsX7_areFixedOnesSound := gi_q gd_wsX7_isSound _ [(5, 7), (4, 1), (12, 13), (55, 30)] rfl
set_option maxRecDepth 20000 in
theorem gX7_isSound_X7_areFixedOnesSound : GoodIn wsX7_isSound (wsV RX7 437 RX7 yX7_areFixedOnesSound wsX7_areFixedOnesSound) := goodIn_app (gi_q gd_wsX7_isSound _ [(1, 4)] rfl) ggX7_isSound_X7_areFixedOnesSound
set_option maxRecDepth 20000 in
theorem ggX7_isSound_X7_isCashSound : GoodIn wsX7_isSound wsX7_isCashSound := gi_q gd_wsX7_isSound _ [(28, 1), (6, 2), (29, 5), (4, 1), (34, 4), (55, 27), (85, 8)] rfl
set_option maxRecDepth 20000 in
theorem gX7_isSound_X7_isCashSound : GoodIn wsX7_isSound (wsV RX7 441 RX7 yX7_isCashSound wsX7_isCashSound) := goodIn_app (gi_q gd_wsX7_isSound _ [(25, 3), (4, 1)] rfl) ggX7_isSound_X7_isCashSound
set_option maxRecDepth 20000 in
theorem ggX7_isSound_X7_areHoursSound : GoodIn wsX7_isSound wsX7_areHoursSound := gi_q gd_wsX7_isSound _ [(41, 1), (35, 2), (42, 1), (6, 3), (43, 1), (13, 1), (18, 7), (55, 15), (85, 8), (70, 12)] rfl
set_option maxRecDepth 20000 in
theorem gX7_isSound_X7_areHoursSound : GoodIn wsX7_isSound (wsV RX7 444 RX7 yX7_areHoursSound wsX7_areHoursSound) := goodIn_app (gi_q gd_wsX7_isSound _ [(38, 3), (4, 1)] rfl) ggX7_isSound_X7_areHoursSound
set_option maxRecDepth 20000 in
theorem ggX7_isSound_X7_areSharesSound : GoodIn wsX7_isSound wsX7_areSharesSound := gi_q gd_wsX7_isSound _ [(47, 5), (4, 1), (52, 18), (93, 4)] rfl
set_option maxRecDepth 20000 in
theorem gX7_isSound_X7_areSharesSound : GoodIn wsX7_isSound (wsV RX7 447 RX7 yX7_areSharesSound wsX7_areSharesSound) := goodIn_app (gi_q gd_wsX7_isSound _ [(44, 3), (4, 1)] rfl) ggX7_isSound_X7_areSharesSound
def zT_cX7_isSound : List (List Nat) := [[42, 182, 1, 181, 153, 0, 28, 42, 182, 1, 185, 153, 0, 21, 42, 182, 1, 188, 153, 0, 14, 42, 182, 1, 191, 153, 0, 7, 4, 167, 0, 4, 3, 172]]
theorem zE_cX7_isSound : zTab cX7_isSound.data.toList zT_cX7_isSound = true := by decide +kernel
theorem dX7_isSound_0 : decode cX7_isSound 0 = .ok (.aload_n 0, 1) := dz_aload_n_0 (y0 zE_cX7_isSound 0 0 (by decide +kernel))
theorem dX7_isSound_1 : decode cX7_isSound 1 = .ok (.invokevirtual 437, 3) := dz_invokevirtual (yu2 zE_cX7_isSound 0 1 (by decide +kernel))
theorem dX7_isSound_4 : decode cX7_isSound 4 = .ok (.ifCond .eq 28, 3) := dz_ifCond_eq (ys2 zE_cX7_isSound 0 4 (by decide +kernel))
theorem dX7_isSound_7 : decode cX7_isSound 7 = .ok (.aload_n 0, 1) := dz_aload_n_0 (y0 zE_cX7_isSound 0 7 (by decide +kernel))
theorem dX7_isSound_8 : decode cX7_isSound 8 = .ok (.invokevirtual 441, 3) := dz_invokevirtual (yu2 zE_cX7_isSound 0 8 (by decide +kernel))
theorem dX7_isSound_11 : decode cX7_isSound 11 = .ok (.ifCond .eq 21, 3) := dz_ifCond_eq (ys2 zE_cX7_isSound 0 11 (by decide +kernel))
theorem dX7_isSound_14 : decode cX7_isSound 14 = .ok (.aload_n 0, 1) := dz_aload_n_0 (y0 zE_cX7_isSound 0 14 (by decide +kernel))
theorem dX7_isSound_15 : decode cX7_isSound 15 = .ok (.invokevirtual 444, 3) := dz_invokevirtual (yu2 zE_cX7_isSound 0 15 (by decide +kernel))
theorem dX7_isSound_18 : decode cX7_isSound 18 = .ok (.ifCond .eq 14, 3) := dz_ifCond_eq (ys2 zE_cX7_isSound 0 18 (by decide +kernel))
theorem dX7_isSound_21 : decode cX7_isSound 21 = .ok (.aload_n 0, 1) := dz_aload_n_0 (y0 zE_cX7_isSound 0 21 (by decide +kernel))
theorem dX7_isSound_22 : decode cX7_isSound 22 = .ok (.invokevirtual 447, 3) := dz_invokevirtual (yu2 zE_cX7_isSound 0 22 (by decide +kernel))
theorem dX7_isSound_25 : decode cX7_isSound 25 = .ok (.ifCond .eq 7, 3) := dz_ifCond_eq (ys2 zE_cX7_isSound 0 25 (by decide +kernel))
theorem dX7_isSound_28 : decode cX7_isSound 28 = .ok (.iconst 1, 1) := dz_iconst_1 (y0 zE_cX7_isSound 0 28 (by decide +kernel))
theorem dX7_isSound_29 : decode cX7_isSound 29 = .ok (.goto 4, 3) := dz_goto (ys2 zE_cX7_isSound 0 29 (by decide +kernel))
theorem dX7_isSound_32 : decode cX7_isSound 32 = .ok (.iconst 0, 1) := dz_iconst_0 (y0 zE_cX7_isSound 0 32 (by decide +kernel))
theorem dX7_isSound_33 : decode cX7_isSound 33 = .ok (.ireturn, 1) := dz_ireturn (y0 zE_cX7_isSound 0 33 (by decide +kernel))
theorem gd_wsX7_digest : wsX7_digest.all goodWord = true := by decide +kernel
set_option maxRecDepth 20000 in
theorem ggX7_digest_X7_desk : GoodIn wsX7_digest wsX7_desk := goodIn_ca (gi_q gd_wsX7_digest _ [(10, 4), (3, 3), (14, 4), (9, 1), (18, 38), (312, 35)] rfl) (gi_sub gd_wsX7_digest (fun _ h => List.mem_cons_of_mem _ (List.mem_append_left _ (List.mem_append_right _ h))))
set_option maxRecDepth 20000 in
theorem gX7_digest_X7_desk : GoodIn wsX7_digest (wsV RX7 454 RX7 yX7_desk wsX7_desk) := goodIn_app (gi_q gd_wsX7_digest _ [(6, 4)] rfl) ggX7_digest_X7_desk
set_option maxRecDepth 20000 in
theorem ggX7_digest_X7_ofPlayer : GoodIn wsX7_digest wsX7_ofPlayer := goodIn_ca (goodIn_ca (gi_q gd_wsX7_digest _ [(59, 1), (11, 2), (25, 1), (60, 4), (26, 1), (38, 1), (64, 1), (48, 1), (65, 3), (9, 1), (68, 3), (3, 1), (71, 4), (5, 1), (19, 1), (75, 9), (312, 15), (339, 8), (327, 12)] rfl) (gi_sub gd_wsX7_digest (fun _ h => List.mem_cons_of_mem _ (List.mem_append_left _ (List.mem_append_right _ h))))) (gi_sub gd_wsX7_digest (fun _ h => List.mem_cons_of_mem _ (List.mem_append_right _ h)))
set_option maxRecDepth 20000 in
theorem gX7_digest_X7_ofPlayer : GoodIn wsX7_digest (wsV RX7 457 RX7 yX7_ofPlayer wsX7_ofPlayer) := goodIn_app (gi_q gd_wsX7_digest _ [(56, 3), (9, 1)] rfl) ggX7_digest_X7_ofPlayer
set_option maxRecDepth 20000 in
theorem ggX7_digest_X7_ofSong : GoodIn wsX7_digest wsX7_ofSong := goodIn_ca (goodIn_ca (gi_q gd_wsX7_digest _ [(87, 1), (11, 2), (88, 7), (9, 1), (95, 1), (69, 2), (96, 8), (3, 1), (25, 1), (61, 1), (104, 1), (82, 2), (312, 15), (347, 4), (339, 8)] rfl) (gi_sub gd_wsX7_digest (fun _ h => List.mem_cons_of_mem _ (List.mem_append_left _ (List.mem_append_right _ h))))) (gi_sub gd_wsX7_digest (fun _ h => List.mem_cons_of_mem _ (List.mem_append_right _ h)))
set_option maxRecDepth 20000 in
theorem gX7_digest_X7_ofSong : GoodIn wsX7_digest (wsV RX7 460 RX7 yX7_ofSong wsX7_ofSong) := goodIn_app (gi_q gd_wsX7_digest _ [(84, 3), (9, 1)] rfl) ggX7_digest_X7_ofSong
set_option maxRecDepth 20000 in
theorem ggX7_digest_X7_ofBand : GoodIn wsX7_digest wsX7_ofBand := goodIn_ca (goodIn_ca (gi_q gd_wsX7_digest _ [(108, 1), (11, 2), (109, 6), (9, 1), (115, 1), (69, 2), (4, 1), (116, 4), (5, 1), (19, 1), (120, 1), (20, 1), (312, 15), (351, 3), (327, 12)] rfl) (gi_sub gd_wsX7_digest (fun _ h => List.mem_cons_of_mem _ (List.mem_append_left _ (List.mem_append_right _ h))))) (gi_sub gd_wsX7_digest (fun _ h => List.mem_cons_of_mem _ (List.mem_append_right _ h)))
set_option maxRecDepth 20000 in
theorem gX7_digest_X7_ofBand : GoodIn wsX7_digest (wsV RX7 463 RX7 yX7_ofBand wsX7_ofBand) := goodIn_app (gi_q gd_wsX7_digest _ [(105, 3), (9, 1)] rfl) ggX7_digest_X7_ofBand
set_option maxRecDepth 20000 in
theorem ggX7_digest_X7_digestWedding : GoodIn wsX7_digest wsX7_digestWedding := goodIn_ca (goodIn_ca (gi_q gd_wsX7_digest _ [(124, 1), (2, 1), (19, 2), (125, 9), (9, 1), (134, 1), (11, 2), (120, 1), (135, 12), (69, 2), (5, 1), (147, 11), (78, 1), (158, 5), (54, 1), (51, 1), (55, 1), (163, 13), (3, 1), (176, 4), (43, 1), (180, 1), (25, 1), (62, 1), (53, 1), (49, 2), (52, 1), (104, 1), (82, 2), (181, 14), (109, 1), (111, 1), (195, 20), (60, 1), (215, 1), (27, 7), (216, 4), (61, 1), (220, 4), (26, 1), (224, 8), (63, 1), (232, 9), (88, 1), (241, 37), (312, 27), (354, 6), (339, 8), (360, 2), (351, 3), (362, 7), (347, 4)] rfl) (gi_sub gd_wsX7_digest (fun _ h => List.mem_cons_of_mem _ (List.mem_append_left _ (List.mem_append_right _ h))))) (gi_sub gd_wsX7_digest (fun _ h => List.mem_cons_of_mem _ (List.mem_append_right _ h)))
set_option maxRecDepth 20000 in
theorem gX7_digest_X7_digestWedding : GoodIn wsX7_digest (wsV RX7 466 RX7 yX7_digestWedding wsX7_digestWedding) := goodIn_app (gi_q gd_wsX7_digest _ [(121, 3), (9, 1)] rfl) ggX7_digest_X7_digestWedding
set_option maxRecDepth 20000 in
theorem ggX7_digest_X7_set : GoodIn wsX7_digest wsX7_set := goodIn_ca (gi_q gd_wsX7_digest _ [(239, 1), (11, 2), (3, 1), (240, 1), (88, 1), (241, 2), (216, 3), (9, 1), (219, 1), (25, 1), (61, 1), (104, 1), (82, 2), (27, 7), (243, 24), (51, 1), (267, 11), (312, 15), (362, 7), (339, 12)] rfl) (gi_sub gd_wsX7_digest (fun _ h => List.mem_cons_of_mem _ (List.mem_append_left _ (List.mem_append_right _ h))))
set_option maxRecDepth 20000 in
theorem gX7_digest_X7_set : GoodIn wsX7_digest (wsV RX7 470 RX7 yX7_set wsX7_set) := goodIn_app (gi_q gd_wsX7_digest _ [(236, 3), (9, 1)] rfl) ggX7_digest_X7_set
set_option maxRecDepth 20000 in
theorem ggX7_digest_X7_drive : GoodIn wsX7_digest wsX7_drive := goodIn_ca (gi_q gd_wsX7_digest _ [(281, 1), (180, 1), (282, 2), (9, 1), (284, 1), (69, 2), (285, 3), (181, 6), (312, 15), (360, 2)] rfl) (gi_sub gd_wsX7_digest (fun _ h => List.mem_cons_of_mem _ (List.mem_append_right _ h)))
set_option maxRecDepth 20000 in
theorem gX7_digest_X7_drive : GoodIn wsX7_digest (wsV RX7 473 RX7 yX7_drive wsX7_drive) := goodIn_app (gi_q gd_wsX7_digest _ [(278, 3), (9, 1)] rfl) ggX7_digest_X7_drive
set_option maxRecDepth 20000 in
theorem ggX7_digest_X7_isSound : GoodIn wsX7_digest wsX7_isSound := gi_q gd_wsX7_digest _ [(291, 4), (9, 1), (295, 1), (5, 1), (19, 2), (296, 4), (130, 1), (109, 1), (120, 1), (111, 1), (135, 1), (27, 7), (300, 4), (142, 1), (14, 1), (34, 4), (3, 1), (25, 1), (38, 1), (304, 4), (48, 1), (138, 1), (308, 4), (88, 1), (96, 4), (91, 2), (312, 27), (351, 3), (339, 12)] rfl
set_option maxRecDepth 20000 in
theorem gX7_digest_X7_isSound : GoodIn wsX7_digest (wsV RX7 476 RX7 yX7_isSound wsX7_isSound) := goodIn_app (gi_q gd_wsX7_digest _ [(288, 3), (9, 1)] rfl) ggX7_digest_X7_isSound
def zT_cX7_digest : List (List Nat) := [[20, 1, 194, 64, 3, 62, 29, 16, 12, 163, 0, 22, 31, 20, 1, 196, 105, 42, 29, 182, 1, 198, 133, 97, 64, 132, 3, 1, 167, 255, 234, 3, 62, 29, 42, 180, 0, 44, 162, 0, 40, 3, 54, 4, 21, 4, 16, 8, 163, 0, 24, 31, 20, 1, 196, 105, 42, 29, 21, 4, 182, 1, 201, 133, 97, 64, 132, 4], [97, 64, 132, 4, 1, 167, 255, 231, 132, 3, 1, 167, 255, 214, 3, 62, 29, 16, 16, 162, 0, 39, 3, 54, 4, 21, 4, 8, 163, 0, 24, 31, 20, 1, 196, 105, 42, 29, 21, 4, 182, 1, 204, 133, 97, 64, 132, 4, 1, 167, 255, 232, 132, 3, 1, 167, 255, 217, 3, 62, 29, 42, 180, 0, 48, 162, 0, 40], [48, 162, 0, 40, 3, 54, 4, 21, 4, 16, 8, 163, 0, 24, 31, 20, 1, 196, 105, 42, 29, 21, 4, 182, 1, 207, 133, 97, 64, 132, 4, 1, 167, 255, 231, 132, 3, 1, 167, 255, 214, 3, 62, 29, 42, 180, 0, 51, 162, 0, 16, 42, 31, 29, 182, 1, 210, 64, 132, 3, 1, 167, 255, 238, 31, 20, 1, 196], [31, 20, 1, 196, 105, 42, 4, 42, 180, 0, 44, 120, 4, 100, 4, 182, 1, 214, 133, 97, 64, 31, 20, 1, 196, 105, 42, 3, 8, 182, 1, 217, 133, 97, 64, 31, 20, 1, 196, 105, 42, 182, 1, 220, 153, 0, 7, 4, 167, 0, 4, 3, 133, 97, 173]]
theorem zE_cX7_digest : zTab cX7_digest.data.toList zT_cX7_digest = true := by decide +kernel
theorem dX7_digest_0 : decode cX7_digest 0 = .ok (.ldc2_w 450, 3) := dz_ldc2_w (yu2 zE_cX7_digest 0 0 (by decide +kernel))
theorem dX7_digest_3 : decode cX7_digest 3 = .ok (.lstore_n 1, 1) := dz_lstore_n_1 (y0 zE_cX7_digest 0 3 (by decide +kernel))
theorem dX7_digest_4 : decode cX7_digest 4 = .ok (.iconst 0, 1) := dz_iconst_0 (y0 zE_cX7_digest 0 4 (by decide +kernel))
theorem dX7_digest_5 : decode cX7_digest 5 = .ok (.istore_n 3, 1) := dz_istore_n_3 (y0 zE_cX7_digest 0 5 (by decide +kernel))
theorem dX7_digest_6 : decode cX7_digest 6 = .ok (.iload_n 3, 1) := dz_iload_n_3 (y0 zE_cX7_digest 0 6 (by decide +kernel))
theorem dX7_digest_7 : decode cX7_digest 7 = .ok (.bipush 12, 2) := dz_bipush (ys1 zE_cX7_digest 0 7 (by decide +kernel))
theorem dX7_digest_9 : decode cX7_digest 9 = .ok (.if_icmp .gt 22, 3) := dz_if_icmp_gt (ys2 zE_cX7_digest 0 9 (by decide +kernel))
theorem dX7_digest_12 : decode cX7_digest 12 = .ok (.lload_n 1, 1) := dz_lload_n_1 (y0 zE_cX7_digest 0 12 (by decide +kernel))
theorem dX7_digest_13 : decode cX7_digest 13 = .ok (.ldc2_w 452, 3) := dz_ldc2_w (yu2 zE_cX7_digest 0 13 (by decide +kernel))
theorem dX7_digest_16 : decode cX7_digest 16 = .ok (.lmul, 1) := dz_lmul (y0 zE_cX7_digest 0 16 (by decide +kernel))
theorem dX7_digest_17 : decode cX7_digest 17 = .ok (.aload_n 0, 1) := dz_aload_n_0 (y0 zE_cX7_digest 0 17 (by decide +kernel))
theorem dX7_digest_18 : decode cX7_digest 18 = .ok (.iload_n 3, 1) := dz_iload_n_3 (y0 zE_cX7_digest 0 18 (by decide +kernel))
theorem dX7_digest_19 : decode cX7_digest 19 = .ok (.invokevirtual 454, 3) := dz_invokevirtual (yu2 zE_cX7_digest 0 19 (by decide +kernel))
theorem dX7_digest_22 : decode cX7_digest 22 = .ok (.i2l, 1) := dz_i2l (y0 zE_cX7_digest 0 22 (by decide +kernel))
theorem dX7_digest_23 : decode cX7_digest 23 = .ok (.ladd, 1) := dz_ladd (y0 zE_cX7_digest 0 23 (by decide +kernel))
theorem dX7_digest_24 : decode cX7_digest 24 = .ok (.lstore_n 1, 1) := dz_lstore_n_1 (y0 zE_cX7_digest 0 24 (by decide +kernel))
theorem dX7_digest_25 : decode cX7_digest 25 = .ok (.iinc 3 1, 3) := dz_iinc (yii zE_cX7_digest 0 25 (by decide +kernel))
theorem dX7_digest_28 : decode cX7_digest 28 = .ok (.goto (-22), 3) := dz_goto (ys2 zE_cX7_digest 0 28 (by decide +kernel))
theorem dX7_digest_31 : decode cX7_digest 31 = .ok (.iconst 0, 1) := dz_iconst_0 (y0 zE_cX7_digest 0 31 (by decide +kernel))
theorem dX7_digest_32 : decode cX7_digest 32 = .ok (.istore_n 3, 1) := dz_istore_n_3 (y0 zE_cX7_digest 0 32 (by decide +kernel))
theorem dX7_digest_33 : decode cX7_digest 33 = .ok (.iload_n 3, 1) := dz_iload_n_3 (y0 zE_cX7_digest 0 33 (by decide +kernel))
theorem dX7_digest_34 : decode cX7_digest 34 = .ok (.aload_n 0, 1) := dz_aload_n_0 (y0 zE_cX7_digest 0 34 (by decide +kernel))
theorem dX7_digest_35 : decode cX7_digest 35 = .ok (.getfield 44, 3) := dz_getfield (yu2 zE_cX7_digest 0 35 (by decide +kernel))
theorem dX7_digest_38 : decode cX7_digest 38 = .ok (.if_icmp .ge 40, 3) := dz_if_icmp_ge (ys2 zE_cX7_digest 0 38 (by decide +kernel))
theorem dX7_digest_41 : decode cX7_digest 41 = .ok (.iconst 0, 1) := dz_iconst_0 (y0 zE_cX7_digest 0 41 (by decide +kernel))
theorem dX7_digest_42 : decode cX7_digest 42 = .ok (.istore 4, 2) := dz_istore (yu1 zE_cX7_digest 0 42 (by decide +kernel))
theorem dX7_digest_44 : decode cX7_digest 44 = .ok (.iload 4, 2) := dz_iload (yu1 zE_cX7_digest 0 44 (by decide +kernel))
theorem dX7_digest_46 : decode cX7_digest 46 = .ok (.bipush 8, 2) := dz_bipush (ys1 zE_cX7_digest 0 46 (by decide +kernel))
theorem dX7_digest_48 : decode cX7_digest 48 = .ok (.if_icmp .gt 24, 3) := dz_if_icmp_gt (ys2 zE_cX7_digest 0 48 (by decide +kernel))
theorem dX7_digest_51 : decode cX7_digest 51 = .ok (.lload_n 1, 1) := dz_lload_n_1 (y0 zE_cX7_digest 0 51 (by decide +kernel))
theorem dX7_digest_52 : decode cX7_digest 52 = .ok (.ldc2_w 452, 3) := dz_ldc2_w (yu2 zE_cX7_digest 0 52 (by decide +kernel))
theorem dX7_digest_55 : decode cX7_digest 55 = .ok (.lmul, 1) := dz_lmul (y0 zE_cX7_digest 0 55 (by decide +kernel))
theorem dX7_digest_56 : decode cX7_digest 56 = .ok (.aload_n 0, 1) := dz_aload_n_0 (y0 zE_cX7_digest 0 56 (by decide +kernel))
theorem dX7_digest_57 : decode cX7_digest 57 = .ok (.iload_n 3, 1) := dz_iload_n_3 (y0 zE_cX7_digest 0 57 (by decide +kernel))
theorem dX7_digest_58 : decode cX7_digest 58 = .ok (.iload 4, 2) := dz_iload (yu1 zE_cX7_digest 0 58 (by decide +kernel))
theorem dX7_digest_60 : decode cX7_digest 60 = .ok (.invokevirtual 457, 3) := dz_invokevirtual (yu2 zE_cX7_digest 0 60 (by decide +kernel))
theorem dX7_digest_63 : decode cX7_digest 63 = .ok (.i2l, 1) := dz_i2l (y0 zE_cX7_digest 0 63 (by decide +kernel))
theorem dX7_digest_64 : decode cX7_digest 64 = .ok (.ladd, 1) := dz_ladd (y0 zE_cX7_digest 1 0 (by decide +kernel))
theorem dX7_digest_65 : decode cX7_digest 65 = .ok (.lstore_n 1, 1) := dz_lstore_n_1 (y0 zE_cX7_digest 1 1 (by decide +kernel))
theorem dX7_digest_66 : decode cX7_digest 66 = .ok (.iinc 4 1, 3) := dz_iinc (yii zE_cX7_digest 1 2 (by decide +kernel))
theorem dX7_digest_69 : decode cX7_digest 69 = .ok (.goto (-25), 3) := dz_goto (ys2 zE_cX7_digest 1 5 (by decide +kernel))
theorem dX7_digest_72 : decode cX7_digest 72 = .ok (.iinc 3 1, 3) := dz_iinc (yii zE_cX7_digest 1 8 (by decide +kernel))
theorem dX7_digest_75 : decode cX7_digest 75 = .ok (.goto (-42), 3) := dz_goto (ys2 zE_cX7_digest 1 11 (by decide +kernel))
theorem dX7_digest_78 : decode cX7_digest 78 = .ok (.iconst 0, 1) := dz_iconst_0 (y0 zE_cX7_digest 1 14 (by decide +kernel))
theorem dX7_digest_79 : decode cX7_digest 79 = .ok (.istore_n 3, 1) := dz_istore_n_3 (y0 zE_cX7_digest 1 15 (by decide +kernel))
theorem dX7_digest_80 : decode cX7_digest 80 = .ok (.iload_n 3, 1) := dz_iload_n_3 (y0 zE_cX7_digest 1 16 (by decide +kernel))
theorem dX7_digest_81 : decode cX7_digest 81 = .ok (.bipush 16, 2) := dz_bipush (ys1 zE_cX7_digest 1 17 (by decide +kernel))
theorem dX7_digest_83 : decode cX7_digest 83 = .ok (.if_icmp .ge 39, 3) := dz_if_icmp_ge (ys2 zE_cX7_digest 1 19 (by decide +kernel))
theorem dX7_digest_86 : decode cX7_digest 86 = .ok (.iconst 0, 1) := dz_iconst_0 (y0 zE_cX7_digest 1 22 (by decide +kernel))
theorem dX7_digest_87 : decode cX7_digest 87 = .ok (.istore 4, 2) := dz_istore (yu1 zE_cX7_digest 1 23 (by decide +kernel))
theorem dX7_digest_89 : decode cX7_digest 89 = .ok (.iload 4, 2) := dz_iload (yu1 zE_cX7_digest 1 25 (by decide +kernel))
theorem dX7_digest_91 : decode cX7_digest 91 = .ok (.iconst 5, 1) := dz_iconst_5 (y0 zE_cX7_digest 1 27 (by decide +kernel))
theorem dX7_digest_92 : decode cX7_digest 92 = .ok (.if_icmp .gt 24, 3) := dz_if_icmp_gt (ys2 zE_cX7_digest 1 28 (by decide +kernel))
theorem dX7_digest_95 : decode cX7_digest 95 = .ok (.lload_n 1, 1) := dz_lload_n_1 (y0 zE_cX7_digest 1 31 (by decide +kernel))
theorem dX7_digest_96 : decode cX7_digest 96 = .ok (.ldc2_w 452, 3) := dz_ldc2_w (yu2 zE_cX7_digest 1 32 (by decide +kernel))
theorem dX7_digest_99 : decode cX7_digest 99 = .ok (.lmul, 1) := dz_lmul (y0 zE_cX7_digest 1 35 (by decide +kernel))
theorem dX7_digest_100 : decode cX7_digest 100 = .ok (.aload_n 0, 1) := dz_aload_n_0 (y0 zE_cX7_digest 1 36 (by decide +kernel))
theorem dX7_digest_101 : decode cX7_digest 101 = .ok (.iload_n 3, 1) := dz_iload_n_3 (y0 zE_cX7_digest 1 37 (by decide +kernel))
theorem dX7_digest_102 : decode cX7_digest 102 = .ok (.iload 4, 2) := dz_iload (yu1 zE_cX7_digest 1 38 (by decide +kernel))
theorem dX7_digest_104 : decode cX7_digest 104 = .ok (.invokevirtual 460, 3) := dz_invokevirtual (yu2 zE_cX7_digest 1 40 (by decide +kernel))
theorem dX7_digest_107 : decode cX7_digest 107 = .ok (.i2l, 1) := dz_i2l (y0 zE_cX7_digest 1 43 (by decide +kernel))
theorem dX7_digest_108 : decode cX7_digest 108 = .ok (.ladd, 1) := dz_ladd (y0 zE_cX7_digest 1 44 (by decide +kernel))
theorem dX7_digest_109 : decode cX7_digest 109 = .ok (.lstore_n 1, 1) := dz_lstore_n_1 (y0 zE_cX7_digest 1 45 (by decide +kernel))
theorem dX7_digest_110 : decode cX7_digest 110 = .ok (.iinc 4 1, 3) := dz_iinc (yii zE_cX7_digest 1 46 (by decide +kernel))
theorem dX7_digest_113 : decode cX7_digest 113 = .ok (.goto (-24), 3) := dz_goto (ys2 zE_cX7_digest 1 49 (by decide +kernel))
theorem dX7_digest_116 : decode cX7_digest 116 = .ok (.iinc 3 1, 3) := dz_iinc (yii zE_cX7_digest 1 52 (by decide +kernel))
theorem dX7_digest_119 : decode cX7_digest 119 = .ok (.goto (-39), 3) := dz_goto (ys2 zE_cX7_digest 1 55 (by decide +kernel))
theorem dX7_digest_122 : decode cX7_digest 122 = .ok (.iconst 0, 1) := dz_iconst_0 (y0 zE_cX7_digest 1 58 (by decide +kernel))
theorem dX7_digest_123 : decode cX7_digest 123 = .ok (.istore_n 3, 1) := dz_istore_n_3 (y0 zE_cX7_digest 1 59 (by decide +kernel))
theorem dX7_digest_124 : decode cX7_digest 124 = .ok (.iload_n 3, 1) := dz_iload_n_3 (y0 zE_cX7_digest 1 60 (by decide +kernel))
theorem dX7_digest_125 : decode cX7_digest 125 = .ok (.aload_n 0, 1) := dz_aload_n_0 (y0 zE_cX7_digest 1 61 (by decide +kernel))
theorem dX7_digest_126 : decode cX7_digest 126 = .ok (.getfield 48, 3) := dz_getfield (yu2 zE_cX7_digest 1 62 (by decide +kernel))
theorem dX7_digest_129 : decode cX7_digest 129 = .ok (.if_icmp .ge 40, 3) := dz_if_icmp_ge (ys2 zE_cX7_digest 2 1 (by decide +kernel))
theorem dX7_digest_132 : decode cX7_digest 132 = .ok (.iconst 0, 1) := dz_iconst_0 (y0 zE_cX7_digest 2 4 (by decide +kernel))
theorem dX7_digest_133 : decode cX7_digest 133 = .ok (.istore 4, 2) := dz_istore (yu1 zE_cX7_digest 2 5 (by decide +kernel))
theorem dX7_digest_135 : decode cX7_digest 135 = .ok (.iload 4, 2) := dz_iload (yu1 zE_cX7_digest 2 7 (by decide +kernel))
theorem dX7_digest_137 : decode cX7_digest 137 = .ok (.bipush 8, 2) := dz_bipush (ys1 zE_cX7_digest 2 9 (by decide +kernel))
theorem dX7_digest_139 : decode cX7_digest 139 = .ok (.if_icmp .gt 24, 3) := dz_if_icmp_gt (ys2 zE_cX7_digest 2 11 (by decide +kernel))
theorem dX7_digest_142 : decode cX7_digest 142 = .ok (.lload_n 1, 1) := dz_lload_n_1 (y0 zE_cX7_digest 2 14 (by decide +kernel))
theorem dX7_digest_143 : decode cX7_digest 143 = .ok (.ldc2_w 452, 3) := dz_ldc2_w (yu2 zE_cX7_digest 2 15 (by decide +kernel))
theorem dX7_digest_146 : decode cX7_digest 146 = .ok (.lmul, 1) := dz_lmul (y0 zE_cX7_digest 2 18 (by decide +kernel))
theorem dX7_digest_147 : decode cX7_digest 147 = .ok (.aload_n 0, 1) := dz_aload_n_0 (y0 zE_cX7_digest 2 19 (by decide +kernel))
theorem dX7_digest_148 : decode cX7_digest 148 = .ok (.iload_n 3, 1) := dz_iload_n_3 (y0 zE_cX7_digest 2 20 (by decide +kernel))
theorem dX7_digest_149 : decode cX7_digest 149 = .ok (.iload 4, 2) := dz_iload (yu1 zE_cX7_digest 2 21 (by decide +kernel))
theorem dX7_digest_151 : decode cX7_digest 151 = .ok (.invokevirtual 463, 3) := dz_invokevirtual (yu2 zE_cX7_digest 2 23 (by decide +kernel))
theorem dX7_digest_154 : decode cX7_digest 154 = .ok (.i2l, 1) := dz_i2l (y0 zE_cX7_digest 2 26 (by decide +kernel))
theorem dX7_digest_155 : decode cX7_digest 155 = .ok (.ladd, 1) := dz_ladd (y0 zE_cX7_digest 2 27 (by decide +kernel))
theorem dX7_digest_156 : decode cX7_digest 156 = .ok (.lstore_n 1, 1) := dz_lstore_n_1 (y0 zE_cX7_digest 2 28 (by decide +kernel))
theorem dX7_digest_157 : decode cX7_digest 157 = .ok (.iinc 4 1, 3) := dz_iinc (yii zE_cX7_digest 2 29 (by decide +kernel))
theorem dX7_digest_160 : decode cX7_digest 160 = .ok (.goto (-25), 3) := dz_goto (ys2 zE_cX7_digest 2 32 (by decide +kernel))
theorem dX7_digest_163 : decode cX7_digest 163 = .ok (.iinc 3 1, 3) := dz_iinc (yii zE_cX7_digest 2 35 (by decide +kernel))
theorem dX7_digest_166 : decode cX7_digest 166 = .ok (.goto (-42), 3) := dz_goto (ys2 zE_cX7_digest 2 38 (by decide +kernel))
theorem dX7_digest_169 : decode cX7_digest 169 = .ok (.iconst 0, 1) := dz_iconst_0 (y0 zE_cX7_digest 2 41 (by decide +kernel))
theorem dX7_digest_170 : decode cX7_digest 170 = .ok (.istore_n 3, 1) := dz_istore_n_3 (y0 zE_cX7_digest 2 42 (by decide +kernel))
theorem dX7_digest_171 : decode cX7_digest 171 = .ok (.iload_n 3, 1) := dz_iload_n_3 (y0 zE_cX7_digest 2 43 (by decide +kernel))
theorem dX7_digest_172 : decode cX7_digest 172 = .ok (.aload_n 0, 1) := dz_aload_n_0 (y0 zE_cX7_digest 2 44 (by decide +kernel))
theorem dX7_digest_173 : decode cX7_digest 173 = .ok (.getfield 51, 3) := dz_getfield (yu2 zE_cX7_digest 2 45 (by decide +kernel))
theorem dX7_digest_176 : decode cX7_digest 176 = .ok (.if_icmp .ge 16, 3) := dz_if_icmp_ge (ys2 zE_cX7_digest 2 48 (by decide +kernel))
theorem dX7_digest_179 : decode cX7_digest 179 = .ok (.aload_n 0, 1) := dz_aload_n_0 (y0 zE_cX7_digest 2 51 (by decide +kernel))
theorem dX7_digest_180 : decode cX7_digest 180 = .ok (.lload_n 1, 1) := dz_lload_n_1 (y0 zE_cX7_digest 2 52 (by decide +kernel))
theorem dX7_digest_181 : decode cX7_digest 181 = .ok (.iload_n 3, 1) := dz_iload_n_3 (y0 zE_cX7_digest 2 53 (by decide +kernel))
theorem dX7_digest_182 : decode cX7_digest 182 = .ok (.invokevirtual 466, 3) := dz_invokevirtual (yu2 zE_cX7_digest 2 54 (by decide +kernel))
theorem dX7_digest_185 : decode cX7_digest 185 = .ok (.lstore_n 1, 1) := dz_lstore_n_1 (y0 zE_cX7_digest 2 57 (by decide +kernel))
theorem dX7_digest_186 : decode cX7_digest 186 = .ok (.iinc 3 1, 3) := dz_iinc (yii zE_cX7_digest 2 58 (by decide +kernel))
theorem dX7_digest_189 : decode cX7_digest 189 = .ok (.goto (-18), 3) := dz_goto (ys2 zE_cX7_digest 2 61 (by decide +kernel))
theorem dX7_digest_192 : decode cX7_digest 192 = .ok (.lload_n 1, 1) := dz_lload_n_1 (y0 zE_cX7_digest 3 0 (by decide +kernel))
theorem dX7_digest_193 : decode cX7_digest 193 = .ok (.ldc2_w 452, 3) := dz_ldc2_w (yu2 zE_cX7_digest 3 1 (by decide +kernel))
theorem dX7_digest_196 : decode cX7_digest 196 = .ok (.lmul, 1) := dz_lmul (y0 zE_cX7_digest 3 4 (by decide +kernel))
theorem dX7_digest_197 : decode cX7_digest 197 = .ok (.aload_n 0, 1) := dz_aload_n_0 (y0 zE_cX7_digest 3 5 (by decide +kernel))
theorem dX7_digest_198 : decode cX7_digest 198 = .ok (.iconst 1, 1) := dz_iconst_1 (y0 zE_cX7_digest 3 6 (by decide +kernel))
theorem dX7_digest_199 : decode cX7_digest 199 = .ok (.aload_n 0, 1) := dz_aload_n_0 (y0 zE_cX7_digest 3 7 (by decide +kernel))
theorem dX7_digest_200 : decode cX7_digest 200 = .ok (.getfield 44, 3) := dz_getfield (yu2 zE_cX7_digest 3 8 (by decide +kernel))
theorem dX7_digest_203 : decode cX7_digest 203 = .ok (.ishl, 1) := dz_ishl (y0 zE_cX7_digest 3 11 (by decide +kernel))
theorem dX7_digest_204 : decode cX7_digest 204 = .ok (.iconst 1, 1) := dz_iconst_1 (y0 zE_cX7_digest 3 12 (by decide +kernel))
theorem dX7_digest_205 : decode cX7_digest 205 = .ok (.isub, 1) := dz_isub (y0 zE_cX7_digest 3 13 (by decide +kernel))
theorem dX7_digest_206 : decode cX7_digest 206 = .ok (.iconst 1, 1) := dz_iconst_1 (y0 zE_cX7_digest 3 14 (by decide +kernel))
theorem dX7_digest_207 : decode cX7_digest 207 = .ok (.invokevirtual 470, 3) := dz_invokevirtual (yu2 zE_cX7_digest 3 15 (by decide +kernel))
theorem dX7_digest_210 : decode cX7_digest 210 = .ok (.i2l, 1) := dz_i2l (y0 zE_cX7_digest 3 18 (by decide +kernel))
theorem dX7_digest_211 : decode cX7_digest 211 = .ok (.ladd, 1) := dz_ladd (y0 zE_cX7_digest 3 19 (by decide +kernel))
theorem dX7_digest_212 : decode cX7_digest 212 = .ok (.lstore_n 1, 1) := dz_lstore_n_1 (y0 zE_cX7_digest 3 20 (by decide +kernel))
theorem dX7_digest_213 : decode cX7_digest 213 = .ok (.lload_n 1, 1) := dz_lload_n_1 (y0 zE_cX7_digest 3 21 (by decide +kernel))
theorem dX7_digest_214 : decode cX7_digest 214 = .ok (.ldc2_w 452, 3) := dz_ldc2_w (yu2 zE_cX7_digest 3 22 (by decide +kernel))
theorem dX7_digest_217 : decode cX7_digest 217 = .ok (.lmul, 1) := dz_lmul (y0 zE_cX7_digest 3 25 (by decide +kernel))
theorem dX7_digest_218 : decode cX7_digest 218 = .ok (.aload_n 0, 1) := dz_aload_n_0 (y0 zE_cX7_digest 3 26 (by decide +kernel))
theorem dX7_digest_219 : decode cX7_digest 219 = .ok (.iconst 0, 1) := dz_iconst_0 (y0 zE_cX7_digest 3 27 (by decide +kernel))
theorem dX7_digest_220 : decode cX7_digest 220 = .ok (.iconst 5, 1) := dz_iconst_5 (y0 zE_cX7_digest 3 28 (by decide +kernel))
theorem dX7_digest_221 : decode cX7_digest 221 = .ok (.invokevirtual 473, 3) := dz_invokevirtual (yu2 zE_cX7_digest 3 29 (by decide +kernel))
theorem dX7_digest_224 : decode cX7_digest 224 = .ok (.i2l, 1) := dz_i2l (y0 zE_cX7_digest 3 32 (by decide +kernel))
theorem dX7_digest_225 : decode cX7_digest 225 = .ok (.ladd, 1) := dz_ladd (y0 zE_cX7_digest 3 33 (by decide +kernel))
theorem dX7_digest_226 : decode cX7_digest 226 = .ok (.lstore_n 1, 1) := dz_lstore_n_1 (y0 zE_cX7_digest 3 34 (by decide +kernel))
theorem dX7_digest_227 : decode cX7_digest 227 = .ok (.lload_n 1, 1) := dz_lload_n_1 (y0 zE_cX7_digest 3 35 (by decide +kernel))
theorem dX7_digest_228 : decode cX7_digest 228 = .ok (.ldc2_w 452, 3) := dz_ldc2_w (yu2 zE_cX7_digest 3 36 (by decide +kernel))
theorem dX7_digest_231 : decode cX7_digest 231 = .ok (.lmul, 1) := dz_lmul (y0 zE_cX7_digest 3 39 (by decide +kernel))
theorem dX7_digest_232 : decode cX7_digest 232 = .ok (.aload_n 0, 1) := dz_aload_n_0 (y0 zE_cX7_digest 3 40 (by decide +kernel))
theorem dX7_digest_233 : decode cX7_digest 233 = .ok (.invokevirtual 476, 3) := dz_invokevirtual (yu2 zE_cX7_digest 3 41 (by decide +kernel))
theorem dX7_digest_236 : decode cX7_digest 236 = .ok (.ifCond .eq 7, 3) := dz_ifCond_eq (ys2 zE_cX7_digest 3 44 (by decide +kernel))
theorem dX7_digest_239 : decode cX7_digest 239 = .ok (.iconst 1, 1) := dz_iconst_1 (y0 zE_cX7_digest 3 47 (by decide +kernel))
theorem dX7_digest_240 : decode cX7_digest 240 = .ok (.goto 4, 3) := dz_goto (ys2 zE_cX7_digest 3 48 (by decide +kernel))
theorem dX7_digest_243 : decode cX7_digest 243 = .ok (.iconst 0, 1) := dz_iconst_0 (y0 zE_cX7_digest 3 51 (by decide +kernel))
theorem dX7_digest_244 : decode cX7_digest 244 = .ok (.i2l, 1) := dz_i2l (y0 zE_cX7_digest 3 52 (by decide +kernel))
theorem dX7_digest_245 : decode cX7_digest 245 = .ok (.ladd, 1) := dz_ladd (y0 zE_cX7_digest 3 53 (by decide +kernel))
theorem dX7_digest_246 : decode cX7_digest 246 = .ok (.lreturn, 1) := dz_lreturn (y0 zE_cX7_digest 3 54 (by decide +kernel))
theorem gd_wsX7_digestWedding : wsX7_digestWedding.all goodWord = true := by decide +kernel
set_option maxRecDepth 20000 in
theorem ggX7_digestWedding_X7_ofWedding : GoodIn wsX7_digestWedding wsX7_ofWedding := goodIn_ca (goodIn_ca (gi_q gd_wsX7_digestWedding _ [(14, 3), (2, 1), (17, 6), (3, 1), (9, 1), (23, 6), (13, 1), (29, 24), (193, 27)] rfl) (gi_sub gd_wsX7_digestWedding (fun _ h => List.mem_cons_of_mem _ (List.mem_append_left _ (List.mem_append_right _ h))))) (gi_sub gd_wsX7_digestWedding (fun _ h => List.mem_cons_of_mem _ (List.mem_append_right _ h)))
set_option maxRecDepth 20000 in
theorem gX7_digestWedding_X7_ofWedding : GoodIn wsX7_digestWedding (wsV RX7 479 RX7 yX7_ofWedding wsX7_ofWedding) := goodIn_app (gi_q gd_wsX7_digestWedding _ [(10, 4)] rfl) ggX7_digestWedding_X7_ofWedding
set_option maxRecDepth 20000 in
theorem ggX7_digestWedding_X7_surveyNow : GoodIn wsX7_digestWedding wsX7_surveyNow := gi_q gd_wsX7_digestWedding _ [(56, 4), (13, 1), (60, 1), (32, 1), (61, 1), (2, 2), (9, 1), (62, 10), (18, 1), (72, 3), (19, 1), (75, 1), (50, 3), (76, 16), (20, 2), (92, 5), (17, 1), (97, 1), (4, 1), (98, 1), (22, 1), (7, 2), (99, 51), (193, 27), (226, 13), (220, 6)] rfl
set_option maxRecDepth 20000 in
theorem gX7_digestWedding_X7_surveyNow : GoodIn wsX7_digestWedding (wsV RX7 222 RX7 yX7_surveyNow wsX7_surveyNow) := goodIn_app (gi_q gd_wsX7_digestWedding _ [(53, 3), (13, 1)] rfl) ggX7_digestWedding_X7_surveyNow
set_option maxRecDepth 20000 in
theorem ggX7_digestWedding_X7_set : GoodIn wsX7_digestWedding wsX7_set := goodIn_ca (gi_q gd_wsX7_digestWedding _ [(153, 1), (15, 2), (66, 1), (154, 4), (127, 3), (13, 1), (130, 1), (73, 1), (131, 1), (79, 3), (120, 7), (158, 24), (51, 1), (182, 26), (239, 7), (226, 8), (246, 4)] rfl) (gi_sub gd_wsX7_digestWedding (fun _ h => List.mem_cons_of_mem _ (List.mem_append_left _ (List.mem_append_right _ h))))
set_option maxRecDepth 20000 in
theorem gX7_digestWedding_X7_set : GoodIn wsX7_digestWedding (wsV RX7 470 RX7 yX7_set wsX7_set) := goodIn_app (gi_q gd_wsX7_digestWedding _ [(150, 3), (13, 1)] rfl) ggX7_digestWedding_X7_set
def zT_cX7_digestWedding : List (List Nat) := [[31, 55, 4, 3, 54, 6, 21, 6, 16, 12, 163, 0, 26, 22, 4, 20, 1, 196, 105, 42, 29, 21, 6, 182, 1, 223, 133, 97, 55, 4, 132, 6, 1, 167, 255, 229, 42, 180, 0, 29, 29, 50, 180, 0, 233, 154, 0, 76, 42, 29, 182, 0, 222, 22, 4, 20, 1, 196, 105, 42, 180, 0, 70, 180, 0, 236, 133, 97], [0, 236, 133, 97, 55, 4, 22, 4, 20, 1, 196, 105, 42, 180, 0, 70, 180, 0, 241, 133, 97, 55, 4, 22, 4, 20, 1, 196, 105, 42, 180, 0, 70, 180, 0, 225, 133, 97, 55, 4, 22, 4, 20, 1, 196, 105, 42, 180, 0, 70, 180, 1, 94, 133, 97, 55, 4, 22, 4, 20, 1, 196, 105, 42, 42, 180, 0, 29], [42, 180, 0, 29, 29, 50, 180, 0, 239, 3, 182, 1, 214, 133, 97, 173]]
theorem zE_cX7_digestWedding : zTab cX7_digestWedding.data.toList zT_cX7_digestWedding = true := by decide +kernel
theorem dX7_digestWedding_0 : decode cX7_digestWedding 0 = .ok (.lload_n 1, 1) := dz_lload_n_1 (y0 zE_cX7_digestWedding 0 0 (by decide +kernel))
theorem dX7_digestWedding_1 : decode cX7_digestWedding 1 = .ok (.lstore 4, 2) := dz_lstore (yu1 zE_cX7_digestWedding 0 1 (by decide +kernel))
theorem dX7_digestWedding_3 : decode cX7_digestWedding 3 = .ok (.iconst 0, 1) := dz_iconst_0 (y0 zE_cX7_digestWedding 0 3 (by decide +kernel))
theorem dX7_digestWedding_4 : decode cX7_digestWedding 4 = .ok (.istore 6, 2) := dz_istore (yu1 zE_cX7_digestWedding 0 4 (by decide +kernel))
theorem dX7_digestWedding_6 : decode cX7_digestWedding 6 = .ok (.iload 6, 2) := dz_iload (yu1 zE_cX7_digestWedding 0 6 (by decide +kernel))
theorem dX7_digestWedding_8 : decode cX7_digestWedding 8 = .ok (.bipush 12, 2) := dz_bipush (ys1 zE_cX7_digestWedding 0 8 (by decide +kernel))
theorem dX7_digestWedding_10 : decode cX7_digestWedding 10 = .ok (.if_icmp .gt 26, 3) := dz_if_icmp_gt (ys2 zE_cX7_digestWedding 0 10 (by decide +kernel))
theorem dX7_digestWedding_13 : decode cX7_digestWedding 13 = .ok (.lload 4, 2) := dz_lload (yu1 zE_cX7_digestWedding 0 13 (by decide +kernel))
theorem dX7_digestWedding_15 : decode cX7_digestWedding 15 = .ok (.ldc2_w 452, 3) := dz_ldc2_w (yu2 zE_cX7_digestWedding 0 15 (by decide +kernel))
theorem dX7_digestWedding_18 : decode cX7_digestWedding 18 = .ok (.lmul, 1) := dz_lmul (y0 zE_cX7_digestWedding 0 18 (by decide +kernel))
theorem dX7_digestWedding_19 : decode cX7_digestWedding 19 = .ok (.aload_n 0, 1) := dz_aload_n_0 (y0 zE_cX7_digestWedding 0 19 (by decide +kernel))
theorem dX7_digestWedding_20 : decode cX7_digestWedding 20 = .ok (.iload_n 3, 1) := dz_iload_n_3 (y0 zE_cX7_digestWedding 0 20 (by decide +kernel))
theorem dX7_digestWedding_21 : decode cX7_digestWedding 21 = .ok (.iload 6, 2) := dz_iload (yu1 zE_cX7_digestWedding 0 21 (by decide +kernel))
theorem dX7_digestWedding_23 : decode cX7_digestWedding 23 = .ok (.invokevirtual 479, 3) := dz_invokevirtual (yu2 zE_cX7_digestWedding 0 23 (by decide +kernel))
theorem dX7_digestWedding_26 : decode cX7_digestWedding 26 = .ok (.i2l, 1) := dz_i2l (y0 zE_cX7_digestWedding 0 26 (by decide +kernel))
theorem dX7_digestWedding_27 : decode cX7_digestWedding 27 = .ok (.ladd, 1) := dz_ladd (y0 zE_cX7_digestWedding 0 27 (by decide +kernel))
theorem dX7_digestWedding_28 : decode cX7_digestWedding 28 = .ok (.lstore 4, 2) := dz_lstore (yu1 zE_cX7_digestWedding 0 28 (by decide +kernel))
theorem dX7_digestWedding_30 : decode cX7_digestWedding 30 = .ok (.iinc 6 1, 3) := dz_iinc (yii zE_cX7_digestWedding 0 30 (by decide +kernel))
theorem dX7_digestWedding_33 : decode cX7_digestWedding 33 = .ok (.goto (-27), 3) := dz_goto (ys2 zE_cX7_digestWedding 0 33 (by decide +kernel))
theorem dX7_digestWedding_36 : decode cX7_digestWedding 36 = .ok (.aload_n 0, 1) := dz_aload_n_0 (y0 zE_cX7_digestWedding 0 36 (by decide +kernel))
theorem dX7_digestWedding_37 : decode cX7_digestWedding 37 = .ok (.getfield 29, 3) := dz_getfield (yu2 zE_cX7_digestWedding 0 37 (by decide +kernel))
theorem dX7_digestWedding_40 : decode cX7_digestWedding 40 = .ok (.iload_n 3, 1) := dz_iload_n_3 (y0 zE_cX7_digestWedding 0 40 (by decide +kernel))
theorem dX7_digestWedding_41 : decode cX7_digestWedding 41 = .ok (.aaload, 1) := dz_aaload (y0 zE_cX7_digestWedding 0 41 (by decide +kernel))
theorem dX7_digestWedding_42 : decode cX7_digestWedding 42 = .ok (.getfield 233, 3) := dz_getfield (yu2 zE_cX7_digestWedding 0 42 (by decide +kernel))
theorem dX7_digestWedding_45 : decode cX7_digestWedding 45 = .ok (.ifCond .ne 76, 3) := dz_ifCond_ne (ys2 zE_cX7_digestWedding 0 45 (by decide +kernel))
theorem dX7_digestWedding_48 : decode cX7_digestWedding 48 = .ok (.aload_n 0, 1) := dz_aload_n_0 (y0 zE_cX7_digestWedding 0 48 (by decide +kernel))
theorem dX7_digestWedding_49 : decode cX7_digestWedding 49 = .ok (.iload_n 3, 1) := dz_iload_n_3 (y0 zE_cX7_digestWedding 0 49 (by decide +kernel))
theorem dX7_digestWedding_50 : decode cX7_digestWedding 50 = .ok (.invokevirtual 222, 3) := dz_invokevirtual (yu2 zE_cX7_digestWedding 0 50 (by decide +kernel))
theorem dX7_digestWedding_53 : decode cX7_digestWedding 53 = .ok (.lload 4, 2) := dz_lload (yu1 zE_cX7_digestWedding 0 53 (by decide +kernel))
theorem dX7_digestWedding_55 : decode cX7_digestWedding 55 = .ok (.ldc2_w 452, 3) := dz_ldc2_w (yu2 zE_cX7_digestWedding 0 55 (by decide +kernel))
theorem dX7_digestWedding_58 : decode cX7_digestWedding 58 = .ok (.lmul, 1) := dz_lmul (y0 zE_cX7_digestWedding 0 58 (by decide +kernel))
theorem dX7_digestWedding_59 : decode cX7_digestWedding 59 = .ok (.aload_n 0, 1) := dz_aload_n_0 (y0 zE_cX7_digestWedding 0 59 (by decide +kernel))
theorem dX7_digestWedding_60 : decode cX7_digestWedding 60 = .ok (.getfield 70, 3) := dz_getfield (yu2 zE_cX7_digestWedding 0 60 (by decide +kernel))
theorem dX7_digestWedding_63 : decode cX7_digestWedding 63 = .ok (.getfield 236, 3) := dz_getfield (yu2 zE_cX7_digestWedding 0 63 (by decide +kernel))
theorem dX7_digestWedding_66 : decode cX7_digestWedding 66 = .ok (.i2l, 1) := dz_i2l (y0 zE_cX7_digestWedding 1 2 (by decide +kernel))
theorem dX7_digestWedding_67 : decode cX7_digestWedding 67 = .ok (.ladd, 1) := dz_ladd (y0 zE_cX7_digestWedding 1 3 (by decide +kernel))
theorem dX7_digestWedding_68 : decode cX7_digestWedding 68 = .ok (.lstore 4, 2) := dz_lstore (yu1 zE_cX7_digestWedding 1 4 (by decide +kernel))
theorem dX7_digestWedding_70 : decode cX7_digestWedding 70 = .ok (.lload 4, 2) := dz_lload (yu1 zE_cX7_digestWedding 1 6 (by decide +kernel))
theorem dX7_digestWedding_72 : decode cX7_digestWedding 72 = .ok (.ldc2_w 452, 3) := dz_ldc2_w (yu2 zE_cX7_digestWedding 1 8 (by decide +kernel))
theorem dX7_digestWedding_75 : decode cX7_digestWedding 75 = .ok (.lmul, 1) := dz_lmul (y0 zE_cX7_digestWedding 1 11 (by decide +kernel))
theorem dX7_digestWedding_76 : decode cX7_digestWedding 76 = .ok (.aload_n 0, 1) := dz_aload_n_0 (y0 zE_cX7_digestWedding 1 12 (by decide +kernel))
theorem dX7_digestWedding_77 : decode cX7_digestWedding 77 = .ok (.getfield 70, 3) := dz_getfield (yu2 zE_cX7_digestWedding 1 13 (by decide +kernel))
theorem dX7_digestWedding_80 : decode cX7_digestWedding 80 = .ok (.getfield 241, 3) := dz_getfield (yu2 zE_cX7_digestWedding 1 16 (by decide +kernel))
theorem dX7_digestWedding_83 : decode cX7_digestWedding 83 = .ok (.i2l, 1) := dz_i2l (y0 zE_cX7_digestWedding 1 19 (by decide +kernel))
theorem dX7_digestWedding_84 : decode cX7_digestWedding 84 = .ok (.ladd, 1) := dz_ladd (y0 zE_cX7_digestWedding 1 20 (by decide +kernel))
theorem dX7_digestWedding_85 : decode cX7_digestWedding 85 = .ok (.lstore 4, 2) := dz_lstore (yu1 zE_cX7_digestWedding 1 21 (by decide +kernel))
theorem dX7_digestWedding_87 : decode cX7_digestWedding 87 = .ok (.lload 4, 2) := dz_lload (yu1 zE_cX7_digestWedding 1 23 (by decide +kernel))
theorem dX7_digestWedding_89 : decode cX7_digestWedding 89 = .ok (.ldc2_w 452, 3) := dz_ldc2_w (yu2 zE_cX7_digestWedding 1 25 (by decide +kernel))
theorem dX7_digestWedding_92 : decode cX7_digestWedding 92 = .ok (.lmul, 1) := dz_lmul (y0 zE_cX7_digestWedding 1 28 (by decide +kernel))
theorem dX7_digestWedding_93 : decode cX7_digestWedding 93 = .ok (.aload_n 0, 1) := dz_aload_n_0 (y0 zE_cX7_digestWedding 1 29 (by decide +kernel))
theorem dX7_digestWedding_94 : decode cX7_digestWedding 94 = .ok (.getfield 70, 3) := dz_getfield (yu2 zE_cX7_digestWedding 1 30 (by decide +kernel))
theorem dX7_digestWedding_97 : decode cX7_digestWedding 97 = .ok (.getfield 225, 3) := dz_getfield (yu2 zE_cX7_digestWedding 1 33 (by decide +kernel))
theorem dX7_digestWedding_100 : decode cX7_digestWedding 100 = .ok (.i2l, 1) := dz_i2l (y0 zE_cX7_digestWedding 1 36 (by decide +kernel))
theorem dX7_digestWedding_101 : decode cX7_digestWedding 101 = .ok (.ladd, 1) := dz_ladd (y0 zE_cX7_digestWedding 1 37 (by decide +kernel))
theorem dX7_digestWedding_102 : decode cX7_digestWedding 102 = .ok (.lstore 4, 2) := dz_lstore (yu1 zE_cX7_digestWedding 1 38 (by decide +kernel))
theorem dX7_digestWedding_104 : decode cX7_digestWedding 104 = .ok (.lload 4, 2) := dz_lload (yu1 zE_cX7_digestWedding 1 40 (by decide +kernel))
theorem dX7_digestWedding_106 : decode cX7_digestWedding 106 = .ok (.ldc2_w 452, 3) := dz_ldc2_w (yu2 zE_cX7_digestWedding 1 42 (by decide +kernel))
theorem dX7_digestWedding_109 : decode cX7_digestWedding 109 = .ok (.lmul, 1) := dz_lmul (y0 zE_cX7_digestWedding 1 45 (by decide +kernel))
theorem dX7_digestWedding_110 : decode cX7_digestWedding 110 = .ok (.aload_n 0, 1) := dz_aload_n_0 (y0 zE_cX7_digestWedding 1 46 (by decide +kernel))
theorem dX7_digestWedding_111 : decode cX7_digestWedding 111 = .ok (.getfield 70, 3) := dz_getfield (yu2 zE_cX7_digestWedding 1 47 (by decide +kernel))
theorem dX7_digestWedding_114 : decode cX7_digestWedding 114 = .ok (.getfield 350, 3) := dz_getfield (yu2 zE_cX7_digestWedding 1 50 (by decide +kernel))
theorem dX7_digestWedding_117 : decode cX7_digestWedding 117 = .ok (.i2l, 1) := dz_i2l (y0 zE_cX7_digestWedding 1 53 (by decide +kernel))
theorem dX7_digestWedding_118 : decode cX7_digestWedding 118 = .ok (.ladd, 1) := dz_ladd (y0 zE_cX7_digestWedding 1 54 (by decide +kernel))
theorem dX7_digestWedding_119 : decode cX7_digestWedding 119 = .ok (.lstore 4, 2) := dz_lstore (yu1 zE_cX7_digestWedding 1 55 (by decide +kernel))
theorem dX7_digestWedding_121 : decode cX7_digestWedding 121 = .ok (.lload 4, 2) := dz_lload (yu1 zE_cX7_digestWedding 1 57 (by decide +kernel))
theorem dX7_digestWedding_123 : decode cX7_digestWedding 123 = .ok (.ldc2_w 452, 3) := dz_ldc2_w (yu2 zE_cX7_digestWedding 1 59 (by decide +kernel))
theorem dX7_digestWedding_126 : decode cX7_digestWedding 126 = .ok (.lmul, 1) := dz_lmul (y0 zE_cX7_digestWedding 1 62 (by decide +kernel))
theorem dX7_digestWedding_127 : decode cX7_digestWedding 127 = .ok (.aload_n 0, 1) := dz_aload_n_0 (y0 zE_cX7_digestWedding 1 63 (by decide +kernel))
theorem dX7_digestWedding_128 : decode cX7_digestWedding 128 = .ok (.aload_n 0, 1) := dz_aload_n_0 (y0 zE_cX7_digestWedding 2 0 (by decide +kernel))
theorem dX7_digestWedding_129 : decode cX7_digestWedding 129 = .ok (.getfield 29, 3) := dz_getfield (yu2 zE_cX7_digestWedding 2 1 (by decide +kernel))
theorem dX7_digestWedding_132 : decode cX7_digestWedding 132 = .ok (.iload_n 3, 1) := dz_iload_n_3 (y0 zE_cX7_digestWedding 2 4 (by decide +kernel))
theorem dX7_digestWedding_133 : decode cX7_digestWedding 133 = .ok (.aaload, 1) := dz_aaload (y0 zE_cX7_digestWedding 2 5 (by decide +kernel))
theorem dX7_digestWedding_134 : decode cX7_digestWedding 134 = .ok (.getfield 239, 3) := dz_getfield (yu2 zE_cX7_digestWedding 2 6 (by decide +kernel))
theorem dX7_digestWedding_137 : decode cX7_digestWedding 137 = .ok (.iconst 0, 1) := dz_iconst_0 (y0 zE_cX7_digestWedding 2 9 (by decide +kernel))
theorem dX7_digestWedding_138 : decode cX7_digestWedding 138 = .ok (.invokevirtual 470, 3) := dz_invokevirtual (yu2 zE_cX7_digestWedding 2 10 (by decide +kernel))
theorem dX7_digestWedding_141 : decode cX7_digestWedding 141 = .ok (.i2l, 1) := dz_i2l (y0 zE_cX7_digestWedding 2 13 (by decide +kernel))
theorem dX7_digestWedding_142 : decode cX7_digestWedding 142 = .ok (.ladd, 1) := dz_ladd (y0 zE_cX7_digestWedding 2 14 (by decide +kernel))
theorem dX7_digestWedding_143 : decode cX7_digestWedding 143 = .ok (.lreturn, 1) := dz_lreturn (y0 zE_cX7_digestWedding 2 15 (by decide +kernel))
theorem dX7_has_0 : decode cX7_has 0 = .ok (.iload_n 0, 1) := dkT (by decide +kernel)
theorem dX7_has_1 : decode cX7_has 1 = .ok (.iload_n 1, 1) := dkT (by decide +kernel)
theorem dX7_has_2 : decode cX7_has 2 = .ok (.ishr, 1) := dkT (by decide +kernel)
theorem dX7_has_3 : decode cX7_has 3 = .ok (.iconst 1, 1) := dkT (by decide +kernel)
theorem dX7_has_4 : decode cX7_has 4 = .ok (.iand, 1) := dkT (by decide +kernel)
theorem dX7_has_5 : decode cX7_has 5 = .ok (.ifCond .eq 7, 3) := dkT (by decide +kernel)
theorem dX7_has_8 : decode cX7_has 8 = .ok (.iconst 1, 1) := dkT (by decide +kernel)
theorem dX7_has_9 : decode cX7_has 9 = .ok (.goto 4, 3) := dkT (by decide +kernel)
theorem dX7_has_12 : decode cX7_has 12 = .ok (.iconst 0, 1) := dkT (by decide +kernel)
theorem dX7_has_13 : decode cX7_has 13 = .ok (.ireturn, 1) := dkT (by decide +kernel)
theorem dX7_isTown_0 : decode cX7_isTown 0 = .ok (.iload_n 0, 1) := dkT (by decide +kernel)
theorem dX7_isTown_1 : decode cX7_isTown 1 = .ok (.ifCond .lt 13, 3) := dkT (by decide +kernel)
theorem dX7_isTown_4 : decode cX7_isTown 4 = .ok (.iload_n 0, 1) := dkT (by decide +kernel)
theorem dX7_isTown_5 : decode cX7_isTown 5 = .ok (.bipush 6, 2) := dkT (by decide +kernel)
theorem dX7_isTown_7 : decode cX7_isTown 7 = .ok (.if_icmp .ge 7, 3) := dkT (by decide +kernel)
theorem dX7_isTown_10 : decode cX7_isTown 10 = .ok (.iconst 1, 1) := dkT (by decide +kernel)
theorem dX7_isTown_11 : decode cX7_isTown 11 = .ok (.goto 4, 3) := dkT (by decide +kernel)
theorem dX7_isTown_14 : decode cX7_isTown 14 = .ok (.iconst 0, 1) := dkT (by decide +kernel)
theorem dX7_isTown_15 : decode cX7_isTown 15 = .ok (.ireturn, 1) := dkT (by decide +kernel)
theorem dX7_isSetOfSongs_0 : decode cX7_isSetOfSongs 0 = .ok (.iload_n 0, 1) := dkT (by decide +kernel)
theorem dX7_isSetOfSongs_1 : decode cX7_isSetOfSongs 1 = .ok (.ifCond .lt 14, 3) := dkT (by decide +kernel)
theorem dX7_isSetOfSongs_4 : decode cX7_isSetOfSongs 4 = .ok (.iload_n 0, 1) := dkT (by decide +kernel)
theorem dX7_isSetOfSongs_5 : decode cX7_isSetOfSongs 5 = .ok (.ldc_w 482, 3) := dkT (by decide +kernel)
theorem dX7_isSetOfSongs_8 : decode cX7_isSetOfSongs 8 = .ok (.if_icmp .ge 7, 3) := dkT (by decide +kernel)
theorem dX7_isSetOfSongs_11 : decode cX7_isSetOfSongs 11 = .ok (.iconst 1, 1) := dkT (by decide +kernel)
theorem dX7_isSetOfSongs_12 : decode cX7_isSetOfSongs 12 = .ok (.goto 4, 3) := dkT (by decide +kernel)
theorem dX7_isSetOfSongs_15 : decode cX7_isSetOfSongs 15 = .ok (.iconst 0, 1) := dkT (by decide +kernel)
theorem dX7_isSetOfSongs_16 : decode cX7_isSetOfSongs 16 = .ok (.ireturn, 1) := dkT (by decide +kernel)
def zT_cX7_areHours : List (List Nat) := [[26, 16, 10, 161, 0, 32, 26, 16, 22, 163, 0, 26, 27, 4, 161, 0, 21, 27, 16, 6, 163, 0, 15, 26, 27, 96, 16, 24, 163, 0, 7, 4, 167, 0, 4, 3, 172]]
theorem zE_cX7_areHours : zTab cX7_areHours.data.toList zT_cX7_areHours = true := by decide +kernel
theorem dX7_areHours_0 : decode cX7_areHours 0 = .ok (.iload_n 0, 1) := dz_iload_n_0 (y0 zE_cX7_areHours 0 0 (by decide +kernel))
theorem dX7_areHours_1 : decode cX7_areHours 1 = .ok (.bipush 10, 2) := dz_bipush (ys1 zE_cX7_areHours 0 1 (by decide +kernel))
theorem dX7_areHours_3 : decode cX7_areHours 3 = .ok (.if_icmp .lt 32, 3) := dz_if_icmp_lt (ys2 zE_cX7_areHours 0 3 (by decide +kernel))
theorem dX7_areHours_6 : decode cX7_areHours 6 = .ok (.iload_n 0, 1) := dz_iload_n_0 (y0 zE_cX7_areHours 0 6 (by decide +kernel))
theorem dX7_areHours_7 : decode cX7_areHours 7 = .ok (.bipush 22, 2) := dz_bipush (ys1 zE_cX7_areHours 0 7 (by decide +kernel))
theorem dX7_areHours_9 : decode cX7_areHours 9 = .ok (.if_icmp .gt 26, 3) := dz_if_icmp_gt (ys2 zE_cX7_areHours 0 9 (by decide +kernel))
theorem dX7_areHours_12 : decode cX7_areHours 12 = .ok (.iload_n 1, 1) := dz_iload_n_1 (y0 zE_cX7_areHours 0 12 (by decide +kernel))
theorem dX7_areHours_13 : decode cX7_areHours 13 = .ok (.iconst 1, 1) := dz_iconst_1 (y0 zE_cX7_areHours 0 13 (by decide +kernel))
theorem dX7_areHours_14 : decode cX7_areHours 14 = .ok (.if_icmp .lt 21, 3) := dz_if_icmp_lt (ys2 zE_cX7_areHours 0 14 (by decide +kernel))
theorem dX7_areHours_17 : decode cX7_areHours 17 = .ok (.iload_n 1, 1) := dz_iload_n_1 (y0 zE_cX7_areHours 0 17 (by decide +kernel))
theorem dX7_areHours_18 : decode cX7_areHours 18 = .ok (.bipush 6, 2) := dz_bipush (ys1 zE_cX7_areHours 0 18 (by decide +kernel))
theorem dX7_areHours_20 : decode cX7_areHours 20 = .ok (.if_icmp .gt 15, 3) := dz_if_icmp_gt (ys2 zE_cX7_areHours 0 20 (by decide +kernel))
theorem dX7_areHours_23 : decode cX7_areHours 23 = .ok (.iload_n 0, 1) := dz_iload_n_0 (y0 zE_cX7_areHours 0 23 (by decide +kernel))
theorem dX7_areHours_24 : decode cX7_areHours 24 = .ok (.iload_n 1, 1) := dz_iload_n_1 (y0 zE_cX7_areHours 0 24 (by decide +kernel))
theorem dX7_areHours_25 : decode cX7_areHours 25 = .ok (.iadd, 1) := dz_iadd (y0 zE_cX7_areHours 0 25 (by decide +kernel))
theorem dX7_areHours_26 : decode cX7_areHours 26 = .ok (.bipush 24, 2) := dz_bipush (ys1 zE_cX7_areHours 0 26 (by decide +kernel))
theorem dX7_areHours_28 : decode cX7_areHours 28 = .ok (.if_icmp .gt 7, 3) := dz_if_icmp_gt (ys2 zE_cX7_areHours 0 28 (by decide +kernel))
theorem dX7_areHours_31 : decode cX7_areHours 31 = .ok (.iconst 1, 1) := dz_iconst_1 (y0 zE_cX7_areHours 0 31 (by decide +kernel))
theorem dX7_areHours_32 : decode cX7_areHours 32 = .ok (.goto 4, 3) := dz_goto (ys2 zE_cX7_areHours 0 32 (by decide +kernel))
theorem dX7_areHours_35 : decode cX7_areHours 35 = .ok (.iconst 0, 1) := dz_iconst_0 (y0 zE_cX7_areHours 0 35 (by decide +kernel))
theorem dX7_areHours_36 : decode cX7_areHours 36 = .ok (.ireturn, 1) := dz_ireturn (y0 zE_cX7_areHours 0 36 (by decide +kernel))
theorem gd_wsX7_checkTown : wsX7_checkTown.all goodWord = true := by decide +kernel
set_option maxRecDepth 20000 in
theorem ggX7_checkTown_X7_isTown : GoodIn wsX7_checkTown wsX7_isTown := gi_q gd_wsX7_checkTown _ [(6, 1)] rfl
set_option maxRecDepth 20000 in
theorem gX7_checkTown_X7_isTown : GoodIn wsX7_checkTown (va_wsS RX7 87 yX7_isTown wsX7_isTown) := goodIn_app (gi_q gd_wsX7_checkTown _ [(3, 3)] rfl) ggX7_checkTown_X7_isTown
theorem dX7_checkTown_0 : decode cX7_checkTown 0 = .ok (.iload_n 0, 1) := dkT (by decide +kernel)
theorem dX7_checkTown_1 : decode cX7_checkTown 1 = .ok (.invokestatic 87, 3) := dkT (by decide +kernel)
theorem dX7_checkTown_4 : decode cX7_checkTown 4 = .ok (.ifCond .ne 13, 3) := dkT (by decide +kernel)
theorem dX7_checkTown_7 : decode cX7_checkTown 7 = .ok (.new 91, 3) := dkT (by decide +kernel)
theorem dX7_checkTown_10 : decode cX7_checkTown 10 = .ok (.dup, 1) := dkT (by decide +kernel)
theorem dX7_checkTown_11 : decode cX7_checkTown 11 = .ok (.ldc 93, 2) := dkT (by decide +kernel)
theorem dX7_checkTown_13 : decode cX7_checkTown 13 = .ok (.invokespecial 95, 3) := dkT (by decide +kernel)
theorem dX7_checkTown_16 : decode cX7_checkTown 16 = .ok (.athrow, 1) := dkT (by decide +kernel)
theorem dX7_checkTown_17 : decode cX7_checkTown 17 = .ok (.return_, 1) := dkT (by decide +kernel)
theorem dX7_checkSong_0 : decode cX7_checkSong 0 = .ok (.iload_n 0, 1) := dkT (by decide +kernel)
theorem dX7_checkSong_1 : decode cX7_checkSong 1 = .ok (.ifCond .lt 9, 3) := dkT (by decide +kernel)
theorem dX7_checkSong_4 : decode cX7_checkSong 4 = .ok (.iload_n 0, 1) := dkT (by decide +kernel)
theorem dX7_checkSong_5 : decode cX7_checkSong 5 = .ok (.bipush 16, 2) := dkT (by decide +kernel)
theorem dX7_checkSong_7 : decode cX7_checkSong 7 = .ok (.if_icmp .lt 14, 3) := dkT (by decide +kernel)
theorem dX7_checkSong_10 : decode cX7_checkSong 10 = .ok (.new 91, 3) := dkT (by decide +kernel)
theorem dX7_checkSong_13 : decode cX7_checkSong 13 = .ok (.dup, 1) := dkT (by decide +kernel)
theorem dX7_checkSong_14 : decode cX7_checkSong 14 = .ok (.ldc_w 483, 3) := dkT (by decide +kernel)
theorem dX7_checkSong_17 : decode cX7_checkSong 17 = .ok (.invokespecial 95, 3) := dkT (by decide +kernel)
theorem dX7_checkSong_20 : decode cX7_checkSong 20 = .ok (.athrow, 1) := dkT (by decide +kernel)
theorem dX7_checkSong_21 : decode cX7_checkSong 21 = .ok (.return_, 1) := dkT (by decide +kernel)
def zT_cX7_checkPlayer : List (List Nat) := [[27, 155, 0, 11, 27, 42, 180, 0, 44, 161, 0, 14, 187, 0, 91, 89, 19, 1, 229, 183, 0, 95, 191, 177]]
theorem zE_cX7_checkPlayer : zTab cX7_checkPlayer.data.toList zT_cX7_checkPlayer = true := by decide +kernel
theorem dX7_checkPlayer_0 : decode cX7_checkPlayer 0 = .ok (.iload_n 1, 1) := dz_iload_n_1 (y0 zE_cX7_checkPlayer 0 0 (by decide +kernel))
theorem dX7_checkPlayer_1 : decode cX7_checkPlayer 1 = .ok (.ifCond .lt 11, 3) := dz_ifCond_lt (ys2 zE_cX7_checkPlayer 0 1 (by decide +kernel))
theorem dX7_checkPlayer_4 : decode cX7_checkPlayer 4 = .ok (.iload_n 1, 1) := dz_iload_n_1 (y0 zE_cX7_checkPlayer 0 4 (by decide +kernel))
theorem dX7_checkPlayer_5 : decode cX7_checkPlayer 5 = .ok (.aload_n 0, 1) := dz_aload_n_0 (y0 zE_cX7_checkPlayer 0 5 (by decide +kernel))
theorem dX7_checkPlayer_6 : decode cX7_checkPlayer 6 = .ok (.getfield 44, 3) := dz_getfield (yu2 zE_cX7_checkPlayer 0 6 (by decide +kernel))
theorem dX7_checkPlayer_9 : decode cX7_checkPlayer 9 = .ok (.if_icmp .lt 14, 3) := dz_if_icmp_lt (ys2 zE_cX7_checkPlayer 0 9 (by decide +kernel))
theorem dX7_checkPlayer_12 : decode cX7_checkPlayer 12 = .ok (.new 91, 3) := dz_new (yu2 zE_cX7_checkPlayer 0 12 (by decide +kernel))
theorem dX7_checkPlayer_15 : decode cX7_checkPlayer 15 = .ok (.dup, 1) := dz_dup (y0 zE_cX7_checkPlayer 0 15 (by decide +kernel))
theorem dX7_checkPlayer_16 : decode cX7_checkPlayer 16 = .ok (.ldc_w 485, 3) := dz_ldc_w (yu2 zE_cX7_checkPlayer 0 16 (by decide +kernel))
theorem dX7_checkPlayer_19 : decode cX7_checkPlayer 19 = .ok (.invokespecial 95, 3) := dz_invokespecial (yu2 zE_cX7_checkPlayer 0 19 (by decide +kernel))
theorem dX7_checkPlayer_22 : decode cX7_checkPlayer 22 = .ok (.athrow, 1) := dz_athrow (y0 zE_cX7_checkPlayer 0 22 (by decide +kernel))
theorem dX7_checkPlayer_23 : decode cX7_checkPlayer 23 = .ok (.return_, 1) := dz_return (y0 zE_cX7_checkPlayer 0 23 (by decide +kernel))
def zT_cX7_checkBand : List (List Nat) := [[27, 155, 0, 11, 27, 42, 180, 0, 48, 161, 0, 14, 187, 0, 91, 89, 19, 1, 231, 183, 0, 95, 191, 177]]
theorem zE_cX7_checkBand : zTab cX7_checkBand.data.toList zT_cX7_checkBand = true := by decide +kernel
theorem dX7_checkBand_0 : decode cX7_checkBand 0 = .ok (.iload_n 1, 1) := dz_iload_n_1 (y0 zE_cX7_checkBand 0 0 (by decide +kernel))
theorem dX7_checkBand_1 : decode cX7_checkBand 1 = .ok (.ifCond .lt 11, 3) := dz_ifCond_lt (ys2 zE_cX7_checkBand 0 1 (by decide +kernel))
theorem dX7_checkBand_4 : decode cX7_checkBand 4 = .ok (.iload_n 1, 1) := dz_iload_n_1 (y0 zE_cX7_checkBand 0 4 (by decide +kernel))
theorem dX7_checkBand_5 : decode cX7_checkBand 5 = .ok (.aload_n 0, 1) := dz_aload_n_0 (y0 zE_cX7_checkBand 0 5 (by decide +kernel))
theorem dX7_checkBand_6 : decode cX7_checkBand 6 = .ok (.getfield 48, 3) := dz_getfield (yu2 zE_cX7_checkBand 0 6 (by decide +kernel))
theorem dX7_checkBand_9 : decode cX7_checkBand 9 = .ok (.if_icmp .lt 14, 3) := dz_if_icmp_lt (ys2 zE_cX7_checkBand 0 9 (by decide +kernel))
theorem dX7_checkBand_12 : decode cX7_checkBand 12 = .ok (.new 91, 3) := dz_new (yu2 zE_cX7_checkBand 0 12 (by decide +kernel))
theorem dX7_checkBand_15 : decode cX7_checkBand 15 = .ok (.dup, 1) := dz_dup (y0 zE_cX7_checkBand 0 15 (by decide +kernel))
theorem dX7_checkBand_16 : decode cX7_checkBand 16 = .ok (.ldc_w 487, 3) := dz_ldc_w (yu2 zE_cX7_checkBand 0 16 (by decide +kernel))
theorem dX7_checkBand_19 : decode cX7_checkBand 19 = .ok (.invokespecial 95, 3) := dz_invokespecial (yu2 zE_cX7_checkBand 0 19 (by decide +kernel))
theorem dX7_checkBand_22 : decode cX7_checkBand 22 = .ok (.athrow, 1) := dz_athrow (y0 zE_cX7_checkBand 0 22 (by decide +kernel))
theorem dX7_checkBand_23 : decode cX7_checkBand 23 = .ok (.return_, 1) := dz_return (y0 zE_cX7_checkBand 0 23 (by decide +kernel))
def zT_cX7_checkWedding : List (List Nat) := [[27, 155, 0, 11, 27, 42, 180, 0, 51, 161, 0, 14, 187, 0, 91, 89, 19, 1, 233, 183, 0, 95, 191, 177]]
theorem zE_cX7_checkWedding : zTab cX7_checkWedding.data.toList zT_cX7_checkWedding = true := by decide +kernel
theorem dX7_checkWedding_0 : decode cX7_checkWedding 0 = .ok (.iload_n 1, 1) := dz_iload_n_1 (y0 zE_cX7_checkWedding 0 0 (by decide +kernel))
theorem dX7_checkWedding_1 : decode cX7_checkWedding 1 = .ok (.ifCond .lt 11, 3) := dz_ifCond_lt (ys2 zE_cX7_checkWedding 0 1 (by decide +kernel))
theorem dX7_checkWedding_4 : decode cX7_checkWedding 4 = .ok (.iload_n 1, 1) := dz_iload_n_1 (y0 zE_cX7_checkWedding 0 4 (by decide +kernel))
theorem dX7_checkWedding_5 : decode cX7_checkWedding 5 = .ok (.aload_n 0, 1) := dz_aload_n_0 (y0 zE_cX7_checkWedding 0 5 (by decide +kernel))
theorem dX7_checkWedding_6 : decode cX7_checkWedding 6 = .ok (.getfield 51, 3) := dz_getfield (yu2 zE_cX7_checkWedding 0 6 (by decide +kernel))
theorem dX7_checkWedding_9 : decode cX7_checkWedding 9 = .ok (.if_icmp .lt 14, 3) := dz_if_icmp_lt (ys2 zE_cX7_checkWedding 0 9 (by decide +kernel))
theorem dX7_checkWedding_12 : decode cX7_checkWedding 12 = .ok (.new 91, 3) := dz_new (yu2 zE_cX7_checkWedding 0 12 (by decide +kernel))
theorem dX7_checkWedding_15 : decode cX7_checkWedding 15 = .ok (.dup, 1) := dz_dup (y0 zE_cX7_checkWedding 0 15 (by decide +kernel))
theorem dX7_checkWedding_16 : decode cX7_checkWedding 16 = .ok (.ldc_w 489, 3) := dz_ldc_w (yu2 zE_cX7_checkWedding 0 16 (by decide +kernel))
theorem dX7_checkWedding_19 : decode cX7_checkWedding 19 = .ok (.invokespecial 95, 3) := dz_invokespecial (yu2 zE_cX7_checkWedding 0 19 (by decide +kernel))
theorem dX7_checkWedding_22 : decode cX7_checkWedding 22 = .ok (.athrow, 1) := dz_athrow (y0 zE_cX7_checkWedding 0 22 (by decide +kernel))
theorem dX7_checkWedding_23 : decode cX7_checkWedding 23 = .ok (.return_, 1) := dz_return (y0 zE_cX7_checkWedding 0 23 (by decide +kernel))
def zT_cX7_checkDayToCome : List (List Nat) := [[27, 42, 180, 0, 54, 161, 0, 10, 27, 17, 1, 109, 164, 0, 14, 187, 0, 101, 89, 19, 1, 235, 183, 0, 105, 191, 177]]
theorem zE_cX7_checkDayToCome : zTab cX7_checkDayToCome.data.toList zT_cX7_checkDayToCome = true := by decide +kernel
theorem dX7_checkDayToCome_0 : decode cX7_checkDayToCome 0 = .ok (.iload_n 1, 1) := dz_iload_n_1 (y0 zE_cX7_checkDayToCome 0 0 (by decide +kernel))
theorem dX7_checkDayToCome_1 : decode cX7_checkDayToCome 1 = .ok (.aload_n 0, 1) := dz_aload_n_0 (y0 zE_cX7_checkDayToCome 0 1 (by decide +kernel))
theorem dX7_checkDayToCome_2 : decode cX7_checkDayToCome 2 = .ok (.getfield 54, 3) := dz_getfield (yu2 zE_cX7_checkDayToCome 0 2 (by decide +kernel))
theorem dX7_checkDayToCome_5 : decode cX7_checkDayToCome 5 = .ok (.if_icmp .lt 10, 3) := dz_if_icmp_lt (ys2 zE_cX7_checkDayToCome 0 5 (by decide +kernel))
theorem dX7_checkDayToCome_8 : decode cX7_checkDayToCome 8 = .ok (.iload_n 1, 1) := dz_iload_n_1 (y0 zE_cX7_checkDayToCome 0 8 (by decide +kernel))
theorem dX7_checkDayToCome_9 : decode cX7_checkDayToCome 9 = .ok (.sipush 365, 3) := dz_sipush (ys2 zE_cX7_checkDayToCome 0 9 (by decide +kernel))
theorem dX7_checkDayToCome_12 : decode cX7_checkDayToCome 12 = .ok (.if_icmp .le 14, 3) := dz_if_icmp_le (ys2 zE_cX7_checkDayToCome 0 12 (by decide +kernel))
theorem dX7_checkDayToCome_15 : decode cX7_checkDayToCome 15 = .ok (.new 101, 3) := dz_new (yu2 zE_cX7_checkDayToCome 0 15 (by decide +kernel))
theorem dX7_checkDayToCome_18 : decode cX7_checkDayToCome 18 = .ok (.dup, 1) := dz_dup (y0 zE_cX7_checkDayToCome 0 18 (by decide +kernel))
theorem dX7_checkDayToCome_19 : decode cX7_checkDayToCome 19 = .ok (.ldc_w 491, 3) := dz_ldc_w (yu2 zE_cX7_checkDayToCome 0 19 (by decide +kernel))
theorem dX7_checkDayToCome_22 : decode cX7_checkDayToCome 22 = .ok (.invokespecial 105, 3) := dz_invokespecial (yu2 zE_cX7_checkDayToCome 0 22 (by decide +kernel))
theorem dX7_checkDayToCome_25 : decode cX7_checkDayToCome 25 = .ok (.athrow, 1) := dz_athrow (y0 zE_cX7_checkDayToCome 0 25 (by decide +kernel))
theorem dX7_checkDayToCome_26 : decode cX7_checkDayToCome 26 = .ok (.return_, 1) := dz_return (y0 zE_cX7_checkDayToCome 0 26 (by decide +kernel))
def zT_cX7_sizeOf : List (List Nat) := [[3, 60, 26, 61, 3, 62, 29, 16, 6, 162, 0, 19, 27, 28, 6, 112, 96, 60, 28, 6, 108, 61, 132, 3, 1, 167, 255, 237, 27, 172]]
theorem zE_cX7_sizeOf : zTab cX7_sizeOf.data.toList zT_cX7_sizeOf = true := by decide +kernel
theorem dX7_sizeOf_0 : decode cX7_sizeOf 0 = .ok (.iconst 0, 1) := dz_iconst_0 (y0 zE_cX7_sizeOf 0 0 (by decide +kernel))
theorem dX7_sizeOf_1 : decode cX7_sizeOf 1 = .ok (.istore_n 1, 1) := dz_istore_n_1 (y0 zE_cX7_sizeOf 0 1 (by decide +kernel))
theorem dX7_sizeOf_2 : decode cX7_sizeOf 2 = .ok (.iload_n 0, 1) := dz_iload_n_0 (y0 zE_cX7_sizeOf 0 2 (by decide +kernel))
theorem dX7_sizeOf_3 : decode cX7_sizeOf 3 = .ok (.istore_n 2, 1) := dz_istore_n_2 (y0 zE_cX7_sizeOf 0 3 (by decide +kernel))
theorem dX7_sizeOf_4 : decode cX7_sizeOf 4 = .ok (.iconst 0, 1) := dz_iconst_0 (y0 zE_cX7_sizeOf 0 4 (by decide +kernel))
theorem dX7_sizeOf_5 : decode cX7_sizeOf 5 = .ok (.istore_n 3, 1) := dz_istore_n_3 (y0 zE_cX7_sizeOf 0 5 (by decide +kernel))
theorem dX7_sizeOf_6 : decode cX7_sizeOf 6 = .ok (.iload_n 3, 1) := dz_iload_n_3 (y0 zE_cX7_sizeOf 0 6 (by decide +kernel))
theorem dX7_sizeOf_7 : decode cX7_sizeOf 7 = .ok (.bipush 6, 2) := dz_bipush (ys1 zE_cX7_sizeOf 0 7 (by decide +kernel))
theorem dX7_sizeOf_9 : decode cX7_sizeOf 9 = .ok (.if_icmp .ge 19, 3) := dz_if_icmp_ge (ys2 zE_cX7_sizeOf 0 9 (by decide +kernel))
theorem dX7_sizeOf_12 : decode cX7_sizeOf 12 = .ok (.iload_n 1, 1) := dz_iload_n_1 (y0 zE_cX7_sizeOf 0 12 (by decide +kernel))
theorem dX7_sizeOf_13 : decode cX7_sizeOf 13 = .ok (.iload_n 2, 1) := dz_iload_n_2 (y0 zE_cX7_sizeOf 0 13 (by decide +kernel))
theorem dX7_sizeOf_14 : decode cX7_sizeOf 14 = .ok (.iconst 3, 1) := dz_iconst_3 (y0 zE_cX7_sizeOf 0 14 (by decide +kernel))
theorem dX7_sizeOf_15 : decode cX7_sizeOf 15 = .ok (.irem, 1) := dz_irem (y0 zE_cX7_sizeOf 0 15 (by decide +kernel))
theorem dX7_sizeOf_16 : decode cX7_sizeOf 16 = .ok (.iadd, 1) := dz_iadd (y0 zE_cX7_sizeOf 0 16 (by decide +kernel))
theorem dX7_sizeOf_17 : decode cX7_sizeOf 17 = .ok (.istore_n 1, 1) := dz_istore_n_1 (y0 zE_cX7_sizeOf 0 17 (by decide +kernel))
theorem dX7_sizeOf_18 : decode cX7_sizeOf 18 = .ok (.iload_n 2, 1) := dz_iload_n_2 (y0 zE_cX7_sizeOf 0 18 (by decide +kernel))
theorem dX7_sizeOf_19 : decode cX7_sizeOf 19 = .ok (.iconst 3, 1) := dz_iconst_3 (y0 zE_cX7_sizeOf 0 19 (by decide +kernel))
theorem dX7_sizeOf_20 : decode cX7_sizeOf 20 = .ok (.idiv, 1) := dz_idiv (y0 zE_cX7_sizeOf 0 20 (by decide +kernel))
theorem dX7_sizeOf_21 : decode cX7_sizeOf 21 = .ok (.istore_n 2, 1) := dz_istore_n_2 (y0 zE_cX7_sizeOf 0 21 (by decide +kernel))
theorem dX7_sizeOf_22 : decode cX7_sizeOf 22 = .ok (.iinc 3 1, 3) := dz_iinc (yii zE_cX7_sizeOf 0 22 (by decide +kernel))
theorem dX7_sizeOf_25 : decode cX7_sizeOf 25 = .ok (.goto (-19), 3) := dz_goto (ys2 zE_cX7_sizeOf 0 25 (by decide +kernel))
theorem dX7_sizeOf_28 : decode cX7_sizeOf 28 = .ok (.iload_n 1, 1) := dz_iload_n_1 (y0 zE_cX7_sizeOf 0 28 (by decide +kernel))
theorem dX7_sizeOf_29 : decode cX7_sizeOf 29 = .ok (.ireturn, 1) := dz_ireturn (y0 zE_cX7_sizeOf 0 29 (by decide +kernel))
def zT_cX7_isTaken : List (List Nat) := [[3, 62, 29, 42, 180, 0, 51, 162, 0, 46, 42, 180, 0, 29, 29, 50, 58, 4, 25, 4, 180, 0, 233, 4, 160, 0, 23, 25, 4, 180, 0, 193, 27, 160, 0, 14, 25, 4, 180, 0, 196, 28, 160, 0, 5, 4, 172, 132, 3, 1, 167, 255, 208, 3, 172]]
theorem zE_cX7_isTaken : zTab cX7_isTaken.data.toList zT_cX7_isTaken = true := by decide +kernel
theorem dX7_isTaken_0 : decode cX7_isTaken 0 = .ok (.iconst 0, 1) := dz_iconst_0 (y0 zE_cX7_isTaken 0 0 (by decide +kernel))
theorem dX7_isTaken_1 : decode cX7_isTaken 1 = .ok (.istore_n 3, 1) := dz_istore_n_3 (y0 zE_cX7_isTaken 0 1 (by decide +kernel))
theorem dX7_isTaken_2 : decode cX7_isTaken 2 = .ok (.iload_n 3, 1) := dz_iload_n_3 (y0 zE_cX7_isTaken 0 2 (by decide +kernel))
theorem dX7_isTaken_3 : decode cX7_isTaken 3 = .ok (.aload_n 0, 1) := dz_aload_n_0 (y0 zE_cX7_isTaken 0 3 (by decide +kernel))
theorem dX7_isTaken_4 : decode cX7_isTaken 4 = .ok (.getfield 51, 3) := dz_getfield (yu2 zE_cX7_isTaken 0 4 (by decide +kernel))
theorem dX7_isTaken_7 : decode cX7_isTaken 7 = .ok (.if_icmp .ge 46, 3) := dz_if_icmp_ge (ys2 zE_cX7_isTaken 0 7 (by decide +kernel))
theorem dX7_isTaken_10 : decode cX7_isTaken 10 = .ok (.aload_n 0, 1) := dz_aload_n_0 (y0 zE_cX7_isTaken 0 10 (by decide +kernel))
theorem dX7_isTaken_11 : decode cX7_isTaken 11 = .ok (.getfield 29, 3) := dz_getfield (yu2 zE_cX7_isTaken 0 11 (by decide +kernel))
theorem dX7_isTaken_14 : decode cX7_isTaken 14 = .ok (.iload_n 3, 1) := dz_iload_n_3 (y0 zE_cX7_isTaken 0 14 (by decide +kernel))
theorem dX7_isTaken_15 : decode cX7_isTaken 15 = .ok (.aaload, 1) := dz_aaload (y0 zE_cX7_isTaken 0 15 (by decide +kernel))
theorem dX7_isTaken_16 : decode cX7_isTaken 16 = .ok (.astore 4, 2) := dz_astore (yu1 zE_cX7_isTaken 0 16 (by decide +kernel))
theorem dX7_isTaken_18 : decode cX7_isTaken 18 = .ok (.aload 4, 2) := dz_aload (yu1 zE_cX7_isTaken 0 18 (by decide +kernel))
theorem dX7_isTaken_20 : decode cX7_isTaken 20 = .ok (.getfield 233, 3) := dz_getfield (yu2 zE_cX7_isTaken 0 20 (by decide +kernel))
theorem dX7_isTaken_23 : decode cX7_isTaken 23 = .ok (.iconst 1, 1) := dz_iconst_1 (y0 zE_cX7_isTaken 0 23 (by decide +kernel))
theorem dX7_isTaken_24 : decode cX7_isTaken 24 = .ok (.if_icmp .ne 23, 3) := dz_if_icmp_ne (ys2 zE_cX7_isTaken 0 24 (by decide +kernel))
theorem dX7_isTaken_27 : decode cX7_isTaken 27 = .ok (.aload 4, 2) := dz_aload (yu1 zE_cX7_isTaken 0 27 (by decide +kernel))
theorem dX7_isTaken_29 : decode cX7_isTaken 29 = .ok (.getfield 193, 3) := dz_getfield (yu2 zE_cX7_isTaken 0 29 (by decide +kernel))
theorem dX7_isTaken_32 : decode cX7_isTaken 32 = .ok (.iload_n 1, 1) := dz_iload_n_1 (y0 zE_cX7_isTaken 0 32 (by decide +kernel))
theorem dX7_isTaken_33 : decode cX7_isTaken 33 = .ok (.if_icmp .ne 14, 3) := dz_if_icmp_ne (ys2 zE_cX7_isTaken 0 33 (by decide +kernel))
theorem dX7_isTaken_36 : decode cX7_isTaken 36 = .ok (.aload 4, 2) := dz_aload (yu1 zE_cX7_isTaken 0 36 (by decide +kernel))
theorem dX7_isTaken_38 : decode cX7_isTaken 38 = .ok (.getfield 196, 3) := dz_getfield (yu2 zE_cX7_isTaken 0 38 (by decide +kernel))
theorem dX7_isTaken_41 : decode cX7_isTaken 41 = .ok (.iload_n 2, 1) := dz_iload_n_2 (y0 zE_cX7_isTaken 0 41 (by decide +kernel))
theorem dX7_isTaken_42 : decode cX7_isTaken 42 = .ok (.if_icmp .ne 5, 3) := dz_if_icmp_ne (ys2 zE_cX7_isTaken 0 42 (by decide +kernel))
theorem dX7_isTaken_45 : decode cX7_isTaken 45 = .ok (.iconst 1, 1) := dz_iconst_1 (y0 zE_cX7_isTaken 0 45 (by decide +kernel))
theorem dX7_isTaken_46 : decode cX7_isTaken 46 = .ok (.ireturn, 1) := dz_ireturn (y0 zE_cX7_isTaken 0 46 (by decide +kernel))
theorem dX7_isTaken_47 : decode cX7_isTaken 47 = .ok (.iinc 3 1, 3) := dz_iinc (yii zE_cX7_isTaken 0 47 (by decide +kernel))
theorem dX7_isTaken_50 : decode cX7_isTaken 50 = .ok (.goto (-48), 3) := dz_goto (ys2 zE_cX7_isTaken 0 50 (by decide +kernel))
theorem dX7_isTaken_53 : decode cX7_isTaken 53 = .ok (.iconst 0, 1) := dz_iconst_0 (y0 zE_cX7_isTaken 0 53 (by decide +kernel))
theorem dX7_isTaken_54 : decode cX7_isTaken 54 = .ok (.ireturn, 1) := dz_ireturn (y0 zE_cX7_isTaken 0 54 (by decide +kernel))
def zT_cX7_areInOneQueue : List (List Nat) := [[42, 180, 0, 29, 27, 50, 78, 42, 180, 0, 29, 28, 50, 58, 4, 45, 180, 0, 233, 154, 0, 39, 25, 4, 180, 0, 233, 154, 0, 31, 45, 180, 0, 193, 25, 4, 180, 0, 193, 160, 0, 19, 45, 180, 0, 196, 25, 4, 180, 0, 196, 160, 0, 7, 4, 167, 0, 4, 3, 172]]
theorem zE_cX7_areInOneQueue : zTab cX7_areInOneQueue.data.toList zT_cX7_areInOneQueue = true := by decide +kernel
theorem dX7_areInOneQueue_0 : decode cX7_areInOneQueue 0 = .ok (.aload_n 0, 1) := dz_aload_n_0 (y0 zE_cX7_areInOneQueue 0 0 (by decide +kernel))
theorem dX7_areInOneQueue_1 : decode cX7_areInOneQueue 1 = .ok (.getfield 29, 3) := dz_getfield (yu2 zE_cX7_areInOneQueue 0 1 (by decide +kernel))
theorem dX7_areInOneQueue_4 : decode cX7_areInOneQueue 4 = .ok (.iload_n 1, 1) := dz_iload_n_1 (y0 zE_cX7_areInOneQueue 0 4 (by decide +kernel))
theorem dX7_areInOneQueue_5 : decode cX7_areInOneQueue 5 = .ok (.aaload, 1) := dz_aaload (y0 zE_cX7_areInOneQueue 0 5 (by decide +kernel))
theorem dX7_areInOneQueue_6 : decode cX7_areInOneQueue 6 = .ok (.astore_n 3, 1) := dz_astore_n_3 (y0 zE_cX7_areInOneQueue 0 6 (by decide +kernel))
theorem dX7_areInOneQueue_7 : decode cX7_areInOneQueue 7 = .ok (.aload_n 0, 1) := dz_aload_n_0 (y0 zE_cX7_areInOneQueue 0 7 (by decide +kernel))
theorem dX7_areInOneQueue_8 : decode cX7_areInOneQueue 8 = .ok (.getfield 29, 3) := dz_getfield (yu2 zE_cX7_areInOneQueue 0 8 (by decide +kernel))
theorem dX7_areInOneQueue_11 : decode cX7_areInOneQueue 11 = .ok (.iload_n 2, 1) := dz_iload_n_2 (y0 zE_cX7_areInOneQueue 0 11 (by decide +kernel))
theorem dX7_areInOneQueue_12 : decode cX7_areInOneQueue 12 = .ok (.aaload, 1) := dz_aaload (y0 zE_cX7_areInOneQueue 0 12 (by decide +kernel))
theorem dX7_areInOneQueue_13 : decode cX7_areInOneQueue 13 = .ok (.astore 4, 2) := dz_astore (yu1 zE_cX7_areInOneQueue 0 13 (by decide +kernel))
theorem dX7_areInOneQueue_15 : decode cX7_areInOneQueue 15 = .ok (.aload_n 3, 1) := dz_aload_n_3 (y0 zE_cX7_areInOneQueue 0 15 (by decide +kernel))
theorem dX7_areInOneQueue_16 : decode cX7_areInOneQueue 16 = .ok (.getfield 233, 3) := dz_getfield (yu2 zE_cX7_areInOneQueue 0 16 (by decide +kernel))
theorem dX7_areInOneQueue_19 : decode cX7_areInOneQueue 19 = .ok (.ifCond .ne 39, 3) := dz_ifCond_ne (ys2 zE_cX7_areInOneQueue 0 19 (by decide +kernel))
theorem dX7_areInOneQueue_22 : decode cX7_areInOneQueue 22 = .ok (.aload 4, 2) := dz_aload (yu1 zE_cX7_areInOneQueue 0 22 (by decide +kernel))
theorem dX7_areInOneQueue_24 : decode cX7_areInOneQueue 24 = .ok (.getfield 233, 3) := dz_getfield (yu2 zE_cX7_areInOneQueue 0 24 (by decide +kernel))
theorem dX7_areInOneQueue_27 : decode cX7_areInOneQueue 27 = .ok (.ifCond .ne 31, 3) := dz_ifCond_ne (ys2 zE_cX7_areInOneQueue 0 27 (by decide +kernel))
theorem dX7_areInOneQueue_30 : decode cX7_areInOneQueue 30 = .ok (.aload_n 3, 1) := dz_aload_n_3 (y0 zE_cX7_areInOneQueue 0 30 (by decide +kernel))
theorem dX7_areInOneQueue_31 : decode cX7_areInOneQueue 31 = .ok (.getfield 193, 3) := dz_getfield (yu2 zE_cX7_areInOneQueue 0 31 (by decide +kernel))
theorem dX7_areInOneQueue_34 : decode cX7_areInOneQueue 34 = .ok (.aload 4, 2) := dz_aload (yu1 zE_cX7_areInOneQueue 0 34 (by decide +kernel))
theorem dX7_areInOneQueue_36 : decode cX7_areInOneQueue 36 = .ok (.getfield 193, 3) := dz_getfield (yu2 zE_cX7_areInOneQueue 0 36 (by decide +kernel))
theorem dX7_areInOneQueue_39 : decode cX7_areInOneQueue 39 = .ok (.if_icmp .ne 19, 3) := dz_if_icmp_ne (ys2 zE_cX7_areInOneQueue 0 39 (by decide +kernel))
theorem dX7_areInOneQueue_42 : decode cX7_areInOneQueue 42 = .ok (.aload_n 3, 1) := dz_aload_n_3 (y0 zE_cX7_areInOneQueue 0 42 (by decide +kernel))
theorem dX7_areInOneQueue_43 : decode cX7_areInOneQueue 43 = .ok (.getfield 196, 3) := dz_getfield (yu2 zE_cX7_areInOneQueue 0 43 (by decide +kernel))
theorem dX7_areInOneQueue_46 : decode cX7_areInOneQueue 46 = .ok (.aload 4, 2) := dz_aload (yu1 zE_cX7_areInOneQueue 0 46 (by decide +kernel))
theorem dX7_areInOneQueue_48 : decode cX7_areInOneQueue 48 = .ok (.getfield 196, 3) := dz_getfield (yu2 zE_cX7_areInOneQueue 0 48 (by decide +kernel))
theorem dX7_areInOneQueue_51 : decode cX7_areInOneQueue 51 = .ok (.if_icmp .ne 7, 3) := dz_if_icmp_ne (ys2 zE_cX7_areInOneQueue 0 51 (by decide +kernel))
theorem dX7_areInOneQueue_54 : decode cX7_areInOneQueue 54 = .ok (.iconst 1, 1) := dz_iconst_1 (y0 zE_cX7_areInOneQueue 0 54 (by decide +kernel))
theorem dX7_areInOneQueue_55 : decode cX7_areInOneQueue 55 = .ok (.goto 4, 3) := dz_goto (ys2 zE_cX7_areInOneQueue 0 55 (by decide +kernel))
theorem dX7_areInOneQueue_58 : decode cX7_areInOneQueue 58 = .ok (.iconst 0, 1) := dz_iconst_0 (y0 zE_cX7_areInOneQueue 0 58 (by decide +kernel))
theorem dX7_areInOneQueue_59 : decode cX7_areInOneQueue 59 = .ok (.ireturn, 1) := dz_ireturn (y0 zE_cX7_areInOneQueue 0 59 (by decide +kernel))
theorem gd_wsX7_placeInQueue : wsX7_placeInQueue.all goodWord = true := by decide +kernel
set_option maxRecDepth 20000 in
theorem ggX7_placeInQueue_X7_areInOneQueue : GoodIn wsX7_placeInQueue wsX7_areInOneQueue := gi_q gd_wsX7_placeInQueue _ [(7, 1), (1, 2), (8, 29)] rfl
set_option maxRecDepth 20000 in
theorem gX7_placeInQueue_X7_areInOneQueue : GoodIn wsX7_placeInQueue (wsV RX7 493 RX7 yX7_areInOneQueue wsX7_areInOneQueue) := goodIn_app (gi_q gd_wsX7_placeInQueue _ [(3, 4)] rfl) ggX7_placeInQueue_X7_areInOneQueue
def zT_cX7_placeInQueue : List (List Nat) := [[42, 180, 0, 29, 27, 50, 180, 0, 233, 153, 0, 5, 2, 172, 3, 61, 3, 62, 29, 27, 162, 0, 21, 42, 29, 27, 182, 1, 237, 153, 0, 6, 132, 2, 1, 132, 3, 1, 167, 255, 236, 28, 172]]
theorem zE_cX7_placeInQueue : zTab cX7_placeInQueue.data.toList zT_cX7_placeInQueue = true := by decide +kernel
theorem dX7_placeInQueue_0 : decode cX7_placeInQueue 0 = .ok (.aload_n 0, 1) := dz_aload_n_0 (y0 zE_cX7_placeInQueue 0 0 (by decide +kernel))
theorem dX7_placeInQueue_1 : decode cX7_placeInQueue 1 = .ok (.getfield 29, 3) := dz_getfield (yu2 zE_cX7_placeInQueue 0 1 (by decide +kernel))
theorem dX7_placeInQueue_4 : decode cX7_placeInQueue 4 = .ok (.iload_n 1, 1) := dz_iload_n_1 (y0 zE_cX7_placeInQueue 0 4 (by decide +kernel))
theorem dX7_placeInQueue_5 : decode cX7_placeInQueue 5 = .ok (.aaload, 1) := dz_aaload (y0 zE_cX7_placeInQueue 0 5 (by decide +kernel))
theorem dX7_placeInQueue_6 : decode cX7_placeInQueue 6 = .ok (.getfield 233, 3) := dz_getfield (yu2 zE_cX7_placeInQueue 0 6 (by decide +kernel))
theorem dX7_placeInQueue_9 : decode cX7_placeInQueue 9 = .ok (.ifCond .eq 5, 3) := dz_ifCond_eq (ys2 zE_cX7_placeInQueue 0 9 (by decide +kernel))
theorem dX7_placeInQueue_12 : decode cX7_placeInQueue 12 = .ok (.iconst (-1), 1) := dz_iconst_m1 (y0 zE_cX7_placeInQueue 0 12 (by decide +kernel))
theorem dX7_placeInQueue_13 : decode cX7_placeInQueue 13 = .ok (.ireturn, 1) := dz_ireturn (y0 zE_cX7_placeInQueue 0 13 (by decide +kernel))
theorem dX7_placeInQueue_14 : decode cX7_placeInQueue 14 = .ok (.iconst 0, 1) := dz_iconst_0 (y0 zE_cX7_placeInQueue 0 14 (by decide +kernel))
theorem dX7_placeInQueue_15 : decode cX7_placeInQueue 15 = .ok (.istore_n 2, 1) := dz_istore_n_2 (y0 zE_cX7_placeInQueue 0 15 (by decide +kernel))
theorem dX7_placeInQueue_16 : decode cX7_placeInQueue 16 = .ok (.iconst 0, 1) := dz_iconst_0 (y0 zE_cX7_placeInQueue 0 16 (by decide +kernel))
theorem dX7_placeInQueue_17 : decode cX7_placeInQueue 17 = .ok (.istore_n 3, 1) := dz_istore_n_3 (y0 zE_cX7_placeInQueue 0 17 (by decide +kernel))
theorem dX7_placeInQueue_18 : decode cX7_placeInQueue 18 = .ok (.iload_n 3, 1) := dz_iload_n_3 (y0 zE_cX7_placeInQueue 0 18 (by decide +kernel))
theorem dX7_placeInQueue_19 : decode cX7_placeInQueue 19 = .ok (.iload_n 1, 1) := dz_iload_n_1 (y0 zE_cX7_placeInQueue 0 19 (by decide +kernel))
theorem dX7_placeInQueue_20 : decode cX7_placeInQueue 20 = .ok (.if_icmp .ge 21, 3) := dz_if_icmp_ge (ys2 zE_cX7_placeInQueue 0 20 (by decide +kernel))
theorem dX7_placeInQueue_23 : decode cX7_placeInQueue 23 = .ok (.aload_n 0, 1) := dz_aload_n_0 (y0 zE_cX7_placeInQueue 0 23 (by decide +kernel))
theorem dX7_placeInQueue_24 : decode cX7_placeInQueue 24 = .ok (.iload_n 3, 1) := dz_iload_n_3 (y0 zE_cX7_placeInQueue 0 24 (by decide +kernel))
theorem dX7_placeInQueue_25 : decode cX7_placeInQueue 25 = .ok (.iload_n 1, 1) := dz_iload_n_1 (y0 zE_cX7_placeInQueue 0 25 (by decide +kernel))
theorem dX7_placeInQueue_26 : decode cX7_placeInQueue 26 = .ok (.invokevirtual 493, 3) := dz_invokevirtual (yu2 zE_cX7_placeInQueue 0 26 (by decide +kernel))
theorem dX7_placeInQueue_29 : decode cX7_placeInQueue 29 = .ok (.ifCond .eq 6, 3) := dz_ifCond_eq (ys2 zE_cX7_placeInQueue 0 29 (by decide +kernel))
theorem dX7_placeInQueue_32 : decode cX7_placeInQueue 32 = .ok (.iinc 2 1, 3) := dz_iinc (yii zE_cX7_placeInQueue 0 32 (by decide +kernel))
theorem dX7_placeInQueue_35 : decode cX7_placeInQueue 35 = .ok (.iinc 3 1, 3) := dz_iinc (yii zE_cX7_placeInQueue 0 35 (by decide +kernel))
theorem dX7_placeInQueue_38 : decode cX7_placeInQueue 38 = .ok (.goto (-20), 3) := dz_goto (ys2 zE_cX7_placeInQueue 0 38 (by decide +kernel))
theorem dX7_placeInQueue_41 : decode cX7_placeInQueue 41 = .ok (.iload_n 2, 1) := dz_iload_n_2 (y0 zE_cX7_placeInQueue 0 41 (by decide +kernel))
theorem dX7_placeInQueue_42 : decode cX7_placeInQueue 42 = .ok (.ireturn, 1) := dz_ireturn (y0 zE_cX7_placeInQueue 0 42 (by decide +kernel))
theorem gd_wsX7_isFirst : wsX7_isFirst.all goodWord = true := by decide +kernel
set_option maxRecDepth 20000 in
theorem ggX7_isFirst_X7_placeInQueue : GoodIn wsX7_isFirst wsX7_placeInQueue := gi_q gd_wsX7_isFirst _ [(5, 6), (4, 1), (11, 30)] rfl
set_option maxRecDepth 20000 in
theorem gX7_isFirst_X7_placeInQueue : GoodIn wsX7_isFirst (wsV RX7 337 RX7 yX7_placeInQueue wsX7_placeInQueue) := goodIn_app (gi_q gd_wsX7_isFirst _ [(1, 4)] rfl) ggX7_isFirst_X7_placeInQueue
theorem dX7_isFirst_0 : decode cX7_isFirst 0 = .ok (.aload_n 0, 1) := dkT (by decide +kernel)
theorem dX7_isFirst_1 : decode cX7_isFirst 1 = .ok (.iload_n 1, 1) := dkT (by decide +kernel)
theorem dX7_isFirst_2 : decode cX7_isFirst 2 = .ok (.invokevirtual 337, 3) := dkT (by decide +kernel)
theorem dX7_isFirst_5 : decode cX7_isFirst 5 = .ok (.ifCond .ne 7, 3) := dkT (by decide +kernel)
theorem dX7_isFirst_8 : decode cX7_isFirst 8 = .ok (.iconst 1, 1) := dkT (by decide +kernel)
theorem dX7_isFirst_9 : decode cX7_isFirst 9 = .ok (.goto 4, 3) := dkT (by decide +kernel)
theorem dX7_isFirst_12 : decode cX7_isFirst 12 = .ok (.iconst 0, 1) := dkT (by decide +kernel)
theorem dX7_isFirst_13 : decode cX7_isFirst 13 = .ok (.ireturn, 1) := dkT (by decide +kernel)
theorem gd_wsX7_loseQueueOf : wsX7_loseQueueOf.all goodWord = true := by decide +kernel
set_option maxRecDepth 20000 in
theorem ggX7_loseQueueOf_X7_areInOneQueue : GoodIn wsX7_loseQueueOf wsX7_areInOneQueue := gi_q gd_wsX7_loseQueueOf _ [(8, 1), (2, 2), (9, 29)] rfl
set_option maxRecDepth 20000 in
theorem gX7_loseQueueOf_X7_areInOneQueue : GoodIn wsX7_loseQueueOf (wsV RX7 493 RX7 yX7_areInOneQueue wsX7_areInOneQueue) := goodIn_app (gi_q gd_wsX7_loseQueueOf _ [(4, 4)] rfl) ggX7_loseQueueOf_X7_areInOneQueue
def zT_cX7_loseQueueOf : List (List Nat) := [[3, 61, 28, 42, 180, 0, 51, 162, 0, 33, 28, 27, 159, 0, 22, 42, 28, 27, 182, 1, 237, 153, 0, 13, 42, 180, 0, 29, 28, 50, 6, 181, 0, 233, 132, 2, 1, 167, 255, 221, 177]]
theorem zE_cX7_loseQueueOf : zTab cX7_loseQueueOf.data.toList zT_cX7_loseQueueOf = true := by decide +kernel
theorem dX7_loseQueueOf_0 : decode cX7_loseQueueOf 0 = .ok (.iconst 0, 1) := dz_iconst_0 (y0 zE_cX7_loseQueueOf 0 0 (by decide +kernel))
theorem dX7_loseQueueOf_1 : decode cX7_loseQueueOf 1 = .ok (.istore_n 2, 1) := dz_istore_n_2 (y0 zE_cX7_loseQueueOf 0 1 (by decide +kernel))
theorem dX7_loseQueueOf_2 : decode cX7_loseQueueOf 2 = .ok (.iload_n 2, 1) := dz_iload_n_2 (y0 zE_cX7_loseQueueOf 0 2 (by decide +kernel))
theorem dX7_loseQueueOf_3 : decode cX7_loseQueueOf 3 = .ok (.aload_n 0, 1) := dz_aload_n_0 (y0 zE_cX7_loseQueueOf 0 3 (by decide +kernel))
theorem dX7_loseQueueOf_4 : decode cX7_loseQueueOf 4 = .ok (.getfield 51, 3) := dz_getfield (yu2 zE_cX7_loseQueueOf 0 4 (by decide +kernel))
theorem dX7_loseQueueOf_7 : decode cX7_loseQueueOf 7 = .ok (.if_icmp .ge 33, 3) := dz_if_icmp_ge (ys2 zE_cX7_loseQueueOf 0 7 (by decide +kernel))
theorem dX7_loseQueueOf_10 : decode cX7_loseQueueOf 10 = .ok (.iload_n 2, 1) := dz_iload_n_2 (y0 zE_cX7_loseQueueOf 0 10 (by decide +kernel))
theorem dX7_loseQueueOf_11 : decode cX7_loseQueueOf 11 = .ok (.iload_n 1, 1) := dz_iload_n_1 (y0 zE_cX7_loseQueueOf 0 11 (by decide +kernel))
theorem dX7_loseQueueOf_12 : decode cX7_loseQueueOf 12 = .ok (.if_icmp .eq 22, 3) := dz_if_icmp_eq (ys2 zE_cX7_loseQueueOf 0 12 (by decide +kernel))
theorem dX7_loseQueueOf_15 : decode cX7_loseQueueOf 15 = .ok (.aload_n 0, 1) := dz_aload_n_0 (y0 zE_cX7_loseQueueOf 0 15 (by decide +kernel))
theorem dX7_loseQueueOf_16 : decode cX7_loseQueueOf 16 = .ok (.iload_n 2, 1) := dz_iload_n_2 (y0 zE_cX7_loseQueueOf 0 16 (by decide +kernel))
theorem dX7_loseQueueOf_17 : decode cX7_loseQueueOf 17 = .ok (.iload_n 1, 1) := dz_iload_n_1 (y0 zE_cX7_loseQueueOf 0 17 (by decide +kernel))
theorem dX7_loseQueueOf_18 : decode cX7_loseQueueOf 18 = .ok (.invokevirtual 493, 3) := dz_invokevirtual (yu2 zE_cX7_loseQueueOf 0 18 (by decide +kernel))
theorem dX7_loseQueueOf_21 : decode cX7_loseQueueOf 21 = .ok (.ifCond .eq 13, 3) := dz_ifCond_eq (ys2 zE_cX7_loseQueueOf 0 21 (by decide +kernel))
theorem dX7_loseQueueOf_24 : decode cX7_loseQueueOf 24 = .ok (.aload_n 0, 1) := dz_aload_n_0 (y0 zE_cX7_loseQueueOf 0 24 (by decide +kernel))
theorem dX7_loseQueueOf_25 : decode cX7_loseQueueOf 25 = .ok (.getfield 29, 3) := dz_getfield (yu2 zE_cX7_loseQueueOf 0 25 (by decide +kernel))
theorem dX7_loseQueueOf_28 : decode cX7_loseQueueOf 28 = .ok (.iload_n 2, 1) := dz_iload_n_2 (y0 zE_cX7_loseQueueOf 0 28 (by decide +kernel))
theorem dX7_loseQueueOf_29 : decode cX7_loseQueueOf 29 = .ok (.aaload, 1) := dz_aaload (y0 zE_cX7_loseQueueOf 0 29 (by decide +kernel))
theorem dX7_loseQueueOf_30 : decode cX7_loseQueueOf 30 = .ok (.iconst 3, 1) := dz_iconst_3 (y0 zE_cX7_loseQueueOf 0 30 (by decide +kernel))
theorem dX7_loseQueueOf_31 : decode cX7_loseQueueOf 31 = .ok (.putfield 233, 3) := dz_putfield (yu2 zE_cX7_loseQueueOf 0 31 (by decide +kernel))
theorem dX7_loseQueueOf_34 : decode cX7_loseQueueOf 34 = .ok (.iinc 2 1, 3) := dz_iinc (yii zE_cX7_loseQueueOf 0 34 (by decide +kernel))
theorem dX7_loseQueueOf_37 : decode cX7_loseQueueOf 37 = .ok (.goto (-35), 3) := dz_goto (ys2 zE_cX7_loseQueueOf 0 37 (by decide +kernel))
theorem dX7_loseQueueOf_40 : decode cX7_loseQueueOf 40 = .ok (.return_, 1) := dz_return (y0 zE_cX7_loseQueueOf 0 40 (by decide +kernel))
theorem gd_wsX7_firstOnesOf : wsX7_firstOnesOf.all goodWord = true := by decide +kernel
set_option maxRecDepth 20000 in
theorem ggX7_firstOnesOf_X7_isFirst : GoodIn wsX7_firstOnesOf wsX7_isFirst := gi_q gd_wsX7_firstOnesOf _ [(8, 4), (7, 1), (12, 1), (2, 1), (13, 6), (3, 1), (26, 27)] rfl
set_option maxRecDepth 20000 in
theorem gX7_firstOnesOf_X7_isFirst : GoodIn wsX7_firstOnesOf (wsV RX7 217 RX7 yX7_isFirst wsX7_isFirst) := goodIn_app (gi_q gd_wsX7_firstOnesOf _ [(4, 4)] rfl) ggX7_firstOnesOf_X7_isFirst
set_option maxRecDepth 20000 in
theorem ggX7_firstOnesOf_J6_bitCount_0f7a4 : GoodIn wsX7_firstOnesOf wsJ6_bitCount_0f7a4 := gi_q gd_wsX7_firstOnesOf _ [(22, 4)] rfl
set_option maxRecDepth 20000 in
theorem gX7_firstOnesOf_J6_bitCount_0f7a4 : GoodIn wsX7_firstOnesOf (va_wsS RX7 128 yJ6_bitCount_0f7a4 wsJ6_bitCount_0f7a4) := goodIn_app (gi_q gd_wsX7_firstOnesOf _ [(19, 3)] rfl) ggX7_firstOnesOf_J6_bitCount_0f7a4
def zT_cX7_firstOnesOf : List (List Nat) := [[3, 61, 3, 62, 29, 42, 180, 0, 51, 162, 0, 44, 42, 180, 0, 29, 29, 50, 180, 0, 196, 27, 160, 0, 25, 42, 29, 182, 0, 217, 153, 0, 17, 28, 184, 0, 128, 6, 162, 0, 9, 28, 4, 29, 120, 128, 61, 132, 3, 1, 167, 255, 210, 28, 172]]
theorem zE_cX7_firstOnesOf : zTab cX7_firstOnesOf.data.toList zT_cX7_firstOnesOf = true := by decide +kernel
theorem dX7_firstOnesOf_0 : decode cX7_firstOnesOf 0 = .ok (.iconst 0, 1) := dz_iconst_0 (y0 zE_cX7_firstOnesOf 0 0 (by decide +kernel))
theorem dX7_firstOnesOf_1 : decode cX7_firstOnesOf 1 = .ok (.istore_n 2, 1) := dz_istore_n_2 (y0 zE_cX7_firstOnesOf 0 1 (by decide +kernel))
theorem dX7_firstOnesOf_2 : decode cX7_firstOnesOf 2 = .ok (.iconst 0, 1) := dz_iconst_0 (y0 zE_cX7_firstOnesOf 0 2 (by decide +kernel))
theorem dX7_firstOnesOf_3 : decode cX7_firstOnesOf 3 = .ok (.istore_n 3, 1) := dz_istore_n_3 (y0 zE_cX7_firstOnesOf 0 3 (by decide +kernel))
theorem dX7_firstOnesOf_4 : decode cX7_firstOnesOf 4 = .ok (.iload_n 3, 1) := dz_iload_n_3 (y0 zE_cX7_firstOnesOf 0 4 (by decide +kernel))
theorem dX7_firstOnesOf_5 : decode cX7_firstOnesOf 5 = .ok (.aload_n 0, 1) := dz_aload_n_0 (y0 zE_cX7_firstOnesOf 0 5 (by decide +kernel))
theorem dX7_firstOnesOf_6 : decode cX7_firstOnesOf 6 = .ok (.getfield 51, 3) := dz_getfield (yu2 zE_cX7_firstOnesOf 0 6 (by decide +kernel))
theorem dX7_firstOnesOf_9 : decode cX7_firstOnesOf 9 = .ok (.if_icmp .ge 44, 3) := dz_if_icmp_ge (ys2 zE_cX7_firstOnesOf 0 9 (by decide +kernel))
theorem dX7_firstOnesOf_12 : decode cX7_firstOnesOf 12 = .ok (.aload_n 0, 1) := dz_aload_n_0 (y0 zE_cX7_firstOnesOf 0 12 (by decide +kernel))
theorem dX7_firstOnesOf_13 : decode cX7_firstOnesOf 13 = .ok (.getfield 29, 3) := dz_getfield (yu2 zE_cX7_firstOnesOf 0 13 (by decide +kernel))
theorem dX7_firstOnesOf_16 : decode cX7_firstOnesOf 16 = .ok (.iload_n 3, 1) := dz_iload_n_3 (y0 zE_cX7_firstOnesOf 0 16 (by decide +kernel))
theorem dX7_firstOnesOf_17 : decode cX7_firstOnesOf 17 = .ok (.aaload, 1) := dz_aaload (y0 zE_cX7_firstOnesOf 0 17 (by decide +kernel))
theorem dX7_firstOnesOf_18 : decode cX7_firstOnesOf 18 = .ok (.getfield 196, 3) := dz_getfield (yu2 zE_cX7_firstOnesOf 0 18 (by decide +kernel))
theorem dX7_firstOnesOf_21 : decode cX7_firstOnesOf 21 = .ok (.iload_n 1, 1) := dz_iload_n_1 (y0 zE_cX7_firstOnesOf 0 21 (by decide +kernel))
theorem dX7_firstOnesOf_22 : decode cX7_firstOnesOf 22 = .ok (.if_icmp .ne 25, 3) := dz_if_icmp_ne (ys2 zE_cX7_firstOnesOf 0 22 (by decide +kernel))
theorem dX7_firstOnesOf_25 : decode cX7_firstOnesOf 25 = .ok (.aload_n 0, 1) := dz_aload_n_0 (y0 zE_cX7_firstOnesOf 0 25 (by decide +kernel))
theorem dX7_firstOnesOf_26 : decode cX7_firstOnesOf 26 = .ok (.iload_n 3, 1) := dz_iload_n_3 (y0 zE_cX7_firstOnesOf 0 26 (by decide +kernel))
theorem dX7_firstOnesOf_27 : decode cX7_firstOnesOf 27 = .ok (.invokevirtual 217, 3) := dz_invokevirtual (yu2 zE_cX7_firstOnesOf 0 27 (by decide +kernel))
theorem dX7_firstOnesOf_30 : decode cX7_firstOnesOf 30 = .ok (.ifCond .eq 17, 3) := dz_ifCond_eq (ys2 zE_cX7_firstOnesOf 0 30 (by decide +kernel))
theorem dX7_firstOnesOf_33 : decode cX7_firstOnesOf 33 = .ok (.iload_n 2, 1) := dz_iload_n_2 (y0 zE_cX7_firstOnesOf 0 33 (by decide +kernel))
theorem dX7_firstOnesOf_34 : decode cX7_firstOnesOf 34 = .ok (.invokestatic 128, 3) := dz_invokestatic (yu2 zE_cX7_firstOnesOf 0 34 (by decide +kernel))
theorem dX7_firstOnesOf_37 : decode cX7_firstOnesOf 37 = .ok (.iconst 3, 1) := dz_iconst_3 (y0 zE_cX7_firstOnesOf 0 37 (by decide +kernel))
theorem dX7_firstOnesOf_38 : decode cX7_firstOnesOf 38 = .ok (.if_icmp .ge 9, 3) := dz_if_icmp_ge (ys2 zE_cX7_firstOnesOf 0 38 (by decide +kernel))
theorem dX7_firstOnesOf_41 : decode cX7_firstOnesOf 41 = .ok (.iload_n 2, 1) := dz_iload_n_2 (y0 zE_cX7_firstOnesOf 0 41 (by decide +kernel))
theorem dX7_firstOnesOf_42 : decode cX7_firstOnesOf 42 = .ok (.iconst 1, 1) := dz_iconst_1 (y0 zE_cX7_firstOnesOf 0 42 (by decide +kernel))
theorem dX7_firstOnesOf_43 : decode cX7_firstOnesOf 43 = .ok (.iload_n 3, 1) := dz_iload_n_3 (y0 zE_cX7_firstOnesOf 0 43 (by decide +kernel))
theorem dX7_firstOnesOf_44 : decode cX7_firstOnesOf 44 = .ok (.ishl, 1) := dz_ishl (y0 zE_cX7_firstOnesOf 0 44 (by decide +kernel))
theorem dX7_firstOnesOf_45 : decode cX7_firstOnesOf 45 = .ok (.ior, 1) := dz_ior (y0 zE_cX7_firstOnesOf 0 45 (by decide +kernel))
theorem dX7_firstOnesOf_46 : decode cX7_firstOnesOf 46 = .ok (.istore_n 2, 1) := dz_istore_n_2 (y0 zE_cX7_firstOnesOf 0 46 (by decide +kernel))
theorem dX7_firstOnesOf_47 : decode cX7_firstOnesOf 47 = .ok (.iinc 3 1, 3) := dz_iinc (yii zE_cX7_firstOnesOf 0 47 (by decide +kernel))
theorem dX7_firstOnesOf_50 : decode cX7_firstOnesOf 50 = .ok (.goto (-46), 3) := dz_goto (ys2 zE_cX7_firstOnesOf 0 50 (by decide +kernel))
theorem dX7_firstOnesOf_53 : decode cX7_firstOnesOf 53 = .ok (.iload_n 2, 1) := dz_iload_n_2 (y0 zE_cX7_firstOnesOf 0 53 (by decide +kernel))
theorem dX7_firstOnesOf_54 : decode cX7_firstOnesOf 54 = .ok (.ireturn, 1) := dz_ireturn (y0 zE_cX7_firstOnesOf 0 54 (by decide +kernel))
theorem gd_wsX7_membersAt : wsX7_membersAt.all goodWord = true := by decide +kernel
set_option maxRecDepth 20000 in
theorem ggX7_membersAt_X7_has : GoodIn wsX7_membersAt wsX7_has := gi_q gd_wsX7_membersAt _ [(4, 1)] rfl
set_option maxRecDepth 20000 in
theorem gX7_membersAt_X7_has : GoodIn wsX7_membersAt (va_wsS RX7 153 yX7_has wsX7_has) := goodIn_app (gi_q gd_wsX7_membersAt _ [(1, 3)] rfl) ggX7_membersAt_X7_has
def zT_cX7_membersAt : List (List Nat) := [[3, 61, 3, 62, 3, 54, 4, 21, 4, 16, 14, 162, 0, 40, 26, 21, 4, 184, 0, 153, 153, 0, 25, 28, 27, 29, 184, 0, 153, 153, 0, 10, 4, 21, 4, 120, 167, 0, 4, 3, 128, 61, 132, 3, 1, 132, 4, 1, 167, 255, 215, 28, 172]]
theorem zE_cX7_membersAt : zTab cX7_membersAt.data.toList zT_cX7_membersAt = true := by decide +kernel
theorem dX7_membersAt_0 : decode cX7_membersAt 0 = .ok (.iconst 0, 1) := dz_iconst_0 (y0 zE_cX7_membersAt 0 0 (by decide +kernel))
theorem dX7_membersAt_1 : decode cX7_membersAt 1 = .ok (.istore_n 2, 1) := dz_istore_n_2 (y0 zE_cX7_membersAt 0 1 (by decide +kernel))
theorem dX7_membersAt_2 : decode cX7_membersAt 2 = .ok (.iconst 0, 1) := dz_iconst_0 (y0 zE_cX7_membersAt 0 2 (by decide +kernel))
theorem dX7_membersAt_3 : decode cX7_membersAt 3 = .ok (.istore_n 3, 1) := dz_istore_n_3 (y0 zE_cX7_membersAt 0 3 (by decide +kernel))
theorem dX7_membersAt_4 : decode cX7_membersAt 4 = .ok (.iconst 0, 1) := dz_iconst_0 (y0 zE_cX7_membersAt 0 4 (by decide +kernel))
theorem dX7_membersAt_5 : decode cX7_membersAt 5 = .ok (.istore 4, 2) := dz_istore (yu1 zE_cX7_membersAt 0 5 (by decide +kernel))
theorem dX7_membersAt_7 : decode cX7_membersAt 7 = .ok (.iload 4, 2) := dz_iload (yu1 zE_cX7_membersAt 0 7 (by decide +kernel))
theorem dX7_membersAt_9 : decode cX7_membersAt 9 = .ok (.bipush 14, 2) := dz_bipush (ys1 zE_cX7_membersAt 0 9 (by decide +kernel))
theorem dX7_membersAt_11 : decode cX7_membersAt 11 = .ok (.if_icmp .ge 40, 3) := dz_if_icmp_ge (ys2 zE_cX7_membersAt 0 11 (by decide +kernel))
theorem dX7_membersAt_14 : decode cX7_membersAt 14 = .ok (.iload_n 0, 1) := dz_iload_n_0 (y0 zE_cX7_membersAt 0 14 (by decide +kernel))
theorem dX7_membersAt_15 : decode cX7_membersAt 15 = .ok (.iload 4, 2) := dz_iload (yu1 zE_cX7_membersAt 0 15 (by decide +kernel))
theorem dX7_membersAt_17 : decode cX7_membersAt 17 = .ok (.invokestatic 153, 3) := dz_invokestatic (yu2 zE_cX7_membersAt 0 17 (by decide +kernel))
theorem dX7_membersAt_20 : decode cX7_membersAt 20 = .ok (.ifCond .eq 25, 3) := dz_ifCond_eq (ys2 zE_cX7_membersAt 0 20 (by decide +kernel))
theorem dX7_membersAt_23 : decode cX7_membersAt 23 = .ok (.iload_n 2, 1) := dz_iload_n_2 (y0 zE_cX7_membersAt 0 23 (by decide +kernel))
theorem dX7_membersAt_24 : decode cX7_membersAt 24 = .ok (.iload_n 1, 1) := dz_iload_n_1 (y0 zE_cX7_membersAt 0 24 (by decide +kernel))
theorem dX7_membersAt_25 : decode cX7_membersAt 25 = .ok (.iload_n 3, 1) := dz_iload_n_3 (y0 zE_cX7_membersAt 0 25 (by decide +kernel))
theorem dX7_membersAt_26 : decode cX7_membersAt 26 = .ok (.invokestatic 153, 3) := dz_invokestatic (yu2 zE_cX7_membersAt 0 26 (by decide +kernel))
theorem dX7_membersAt_29 : decode cX7_membersAt 29 = .ok (.ifCond .eq 10, 3) := dz_ifCond_eq (ys2 zE_cX7_membersAt 0 29 (by decide +kernel))
theorem dX7_membersAt_32 : decode cX7_membersAt 32 = .ok (.iconst 1, 1) := dz_iconst_1 (y0 zE_cX7_membersAt 0 32 (by decide +kernel))
theorem dX7_membersAt_33 : decode cX7_membersAt 33 = .ok (.iload 4, 2) := dz_iload (yu1 zE_cX7_membersAt 0 33 (by decide +kernel))
theorem dX7_membersAt_35 : decode cX7_membersAt 35 = .ok (.ishl, 1) := dz_ishl (y0 zE_cX7_membersAt 0 35 (by decide +kernel))
theorem dX7_membersAt_36 : decode cX7_membersAt 36 = .ok (.goto 4, 3) := dz_goto (ys2 zE_cX7_membersAt 0 36 (by decide +kernel))
theorem dX7_membersAt_39 : decode cX7_membersAt 39 = .ok (.iconst 0, 1) := dz_iconst_0 (y0 zE_cX7_membersAt 0 39 (by decide +kernel))
theorem dX7_membersAt_40 : decode cX7_membersAt 40 = .ok (.ior, 1) := dz_ior (y0 zE_cX7_membersAt 0 40 (by decide +kernel))
theorem dX7_membersAt_41 : decode cX7_membersAt 41 = .ok (.istore_n 2, 1) := dz_istore_n_2 (y0 zE_cX7_membersAt 0 41 (by decide +kernel))
theorem dX7_membersAt_42 : decode cX7_membersAt 42 = .ok (.iinc 3 1, 3) := dz_iinc (yii zE_cX7_membersAt 0 42 (by decide +kernel))
theorem dX7_membersAt_45 : decode cX7_membersAt 45 = .ok (.iinc 4 1, 3) := dz_iinc (yii zE_cX7_membersAt 0 45 (by decide +kernel))
theorem dX7_membersAt_48 : decode cX7_membersAt 48 = .ok (.goto (-41), 3) := dz_goto (ys2 zE_cX7_membersAt 0 48 (by decide +kernel))
theorem dX7_membersAt_51 : decode cX7_membersAt 51 = .ok (.iload_n 2, 1) := dz_iload_n_2 (y0 zE_cX7_membersAt 0 51 (by decide +kernel))
theorem dX7_membersAt_52 : decode cX7_membersAt 52 = .ok (.ireturn, 1) := dz_ireturn (y0 zE_cX7_membersAt 0 52 (by decide +kernel))
theorem gd_wsX7_endToday : wsX7_endToday.all goodWord = true := by decide +kernel
set_option maxRecDepth 20000 in
theorem ggX7_endToday_X7_playOut : GoodIn wsX7_endToday wsX7_playOut := gi_q gd_wsX7_endToday _ [(10, 16), (5, 1), (26, 3), (9, 1), (29, 88), (132, 12), (117, 15), (144, 21)] rfl
set_option maxRecDepth 20000 in
theorem gX7_endToday_X7_playOut : GoodIn wsX7_endToday (wsV RX7 496 RX7 yX7_playOut wsX7_playOut) := goodIn_app (gi_q gd_wsX7_endToday _ [(6, 4)] rfl) ggX7_endToday_X7_playOut
def zT_cX7_endToday : List (List Nat) := [[3, 60, 27, 42, 180, 0, 51, 162, 0, 48, 42, 180, 0, 29, 27, 50, 180, 0, 196, 42, 180, 0, 54, 160, 0, 26, 42, 180, 0, 29, 27, 50, 180, 0, 233, 4, 160, 0, 13, 42, 42, 180, 0, 29, 27, 50, 182, 1, 240, 132, 1, 1, 167, 255, 206, 3, 60, 27, 42, 180, 0, 51, 162, 0, 47, 42, 180, 0], [47, 42, 180, 0, 29, 27, 50, 180, 0, 196, 42, 180, 0, 54, 160, 0, 25, 42, 180, 0, 29, 27, 50, 180, 0, 233, 154, 0, 13, 42, 180, 0, 29, 27, 50, 6, 181, 0, 233, 132, 1, 1, 167, 255, 207, 177]]
theorem zE_cX7_endToday : zTab cX7_endToday.data.toList zT_cX7_endToday = true := by decide +kernel
theorem dX7_endToday_0 : decode cX7_endToday 0 = .ok (.iconst 0, 1) := dz_iconst_0 (y0 zE_cX7_endToday 0 0 (by decide +kernel))
theorem dX7_endToday_1 : decode cX7_endToday 1 = .ok (.istore_n 1, 1) := dz_istore_n_1 (y0 zE_cX7_endToday 0 1 (by decide +kernel))
theorem dX7_endToday_2 : decode cX7_endToday 2 = .ok (.iload_n 1, 1) := dz_iload_n_1 (y0 zE_cX7_endToday 0 2 (by decide +kernel))
theorem dX7_endToday_3 : decode cX7_endToday 3 = .ok (.aload_n 0, 1) := dz_aload_n_0 (y0 zE_cX7_endToday 0 3 (by decide +kernel))
theorem dX7_endToday_4 : decode cX7_endToday 4 = .ok (.getfield 51, 3) := dz_getfield (yu2 zE_cX7_endToday 0 4 (by decide +kernel))
theorem dX7_endToday_7 : decode cX7_endToday 7 = .ok (.if_icmp .ge 48, 3) := dz_if_icmp_ge (ys2 zE_cX7_endToday 0 7 (by decide +kernel))
theorem dX7_endToday_10 : decode cX7_endToday 10 = .ok (.aload_n 0, 1) := dz_aload_n_0 (y0 zE_cX7_endToday 0 10 (by decide +kernel))
theorem dX7_endToday_11 : decode cX7_endToday 11 = .ok (.getfield 29, 3) := dz_getfield (yu2 zE_cX7_endToday 0 11 (by decide +kernel))
theorem dX7_endToday_14 : decode cX7_endToday 14 = .ok (.iload_n 1, 1) := dz_iload_n_1 (y0 zE_cX7_endToday 0 14 (by decide +kernel))
theorem dX7_endToday_15 : decode cX7_endToday 15 = .ok (.aaload, 1) := dz_aaload (y0 zE_cX7_endToday 0 15 (by decide +kernel))
theorem dX7_endToday_16 : decode cX7_endToday 16 = .ok (.getfield 196, 3) := dz_getfield (yu2 zE_cX7_endToday 0 16 (by decide +kernel))
theorem dX7_endToday_19 : decode cX7_endToday 19 = .ok (.aload_n 0, 1) := dz_aload_n_0 (y0 zE_cX7_endToday 0 19 (by decide +kernel))
theorem dX7_endToday_20 : decode cX7_endToday 20 = .ok (.getfield 54, 3) := dz_getfield (yu2 zE_cX7_endToday 0 20 (by decide +kernel))
theorem dX7_endToday_23 : decode cX7_endToday 23 = .ok (.if_icmp .ne 26, 3) := dz_if_icmp_ne (ys2 zE_cX7_endToday 0 23 (by decide +kernel))
theorem dX7_endToday_26 : decode cX7_endToday 26 = .ok (.aload_n 0, 1) := dz_aload_n_0 (y0 zE_cX7_endToday 0 26 (by decide +kernel))
theorem dX7_endToday_27 : decode cX7_endToday 27 = .ok (.getfield 29, 3) := dz_getfield (yu2 zE_cX7_endToday 0 27 (by decide +kernel))
theorem dX7_endToday_30 : decode cX7_endToday 30 = .ok (.iload_n 1, 1) := dz_iload_n_1 (y0 zE_cX7_endToday 0 30 (by decide +kernel))
theorem dX7_endToday_31 : decode cX7_endToday 31 = .ok (.aaload, 1) := dz_aaload (y0 zE_cX7_endToday 0 31 (by decide +kernel))
theorem dX7_endToday_32 : decode cX7_endToday 32 = .ok (.getfield 233, 3) := dz_getfield (yu2 zE_cX7_endToday 0 32 (by decide +kernel))
theorem dX7_endToday_35 : decode cX7_endToday 35 = .ok (.iconst 1, 1) := dz_iconst_1 (y0 zE_cX7_endToday 0 35 (by decide +kernel))
theorem dX7_endToday_36 : decode cX7_endToday 36 = .ok (.if_icmp .ne 13, 3) := dz_if_icmp_ne (ys2 zE_cX7_endToday 0 36 (by decide +kernel))
theorem dX7_endToday_39 : decode cX7_endToday 39 = .ok (.aload_n 0, 1) := dz_aload_n_0 (y0 zE_cX7_endToday 0 39 (by decide +kernel))
theorem dX7_endToday_40 : decode cX7_endToday 40 = .ok (.aload_n 0, 1) := dz_aload_n_0 (y0 zE_cX7_endToday 0 40 (by decide +kernel))
theorem dX7_endToday_41 : decode cX7_endToday 41 = .ok (.getfield 29, 3) := dz_getfield (yu2 zE_cX7_endToday 0 41 (by decide +kernel))
theorem dX7_endToday_44 : decode cX7_endToday 44 = .ok (.iload_n 1, 1) := dz_iload_n_1 (y0 zE_cX7_endToday 0 44 (by decide +kernel))
theorem dX7_endToday_45 : decode cX7_endToday 45 = .ok (.aaload, 1) := dz_aaload (y0 zE_cX7_endToday 0 45 (by decide +kernel))
theorem dX7_endToday_46 : decode cX7_endToday 46 = .ok (.invokevirtual 496, 3) := dz_invokevirtual (yu2 zE_cX7_endToday 0 46 (by decide +kernel))
theorem dX7_endToday_49 : decode cX7_endToday 49 = .ok (.iinc 1 1, 3) := dz_iinc (yii zE_cX7_endToday 0 49 (by decide +kernel))
theorem dX7_endToday_52 : decode cX7_endToday 52 = .ok (.goto (-50), 3) := dz_goto (ys2 zE_cX7_endToday 0 52 (by decide +kernel))
theorem dX7_endToday_55 : decode cX7_endToday 55 = .ok (.iconst 0, 1) := dz_iconst_0 (y0 zE_cX7_endToday 0 55 (by decide +kernel))
theorem dX7_endToday_56 : decode cX7_endToday 56 = .ok (.istore_n 1, 1) := dz_istore_n_1 (y0 zE_cX7_endToday 0 56 (by decide +kernel))
theorem dX7_endToday_57 : decode cX7_endToday 57 = .ok (.iload_n 1, 1) := dz_iload_n_1 (y0 zE_cX7_endToday 0 57 (by decide +kernel))
theorem dX7_endToday_58 : decode cX7_endToday 58 = .ok (.aload_n 0, 1) := dz_aload_n_0 (y0 zE_cX7_endToday 0 58 (by decide +kernel))
theorem dX7_endToday_59 : decode cX7_endToday 59 = .ok (.getfield 51, 3) := dz_getfield (yu2 zE_cX7_endToday 0 59 (by decide +kernel))
theorem dX7_endToday_62 : decode cX7_endToday 62 = .ok (.if_icmp .ge 47, 3) := dz_if_icmp_ge (ys2 zE_cX7_endToday 0 62 (by decide +kernel))
theorem dX7_endToday_65 : decode cX7_endToday 65 = .ok (.aload_n 0, 1) := dz_aload_n_0 (y0 zE_cX7_endToday 1 1 (by decide +kernel))
theorem dX7_endToday_66 : decode cX7_endToday 66 = .ok (.getfield 29, 3) := dz_getfield (yu2 zE_cX7_endToday 1 2 (by decide +kernel))
theorem dX7_endToday_69 : decode cX7_endToday 69 = .ok (.iload_n 1, 1) := dz_iload_n_1 (y0 zE_cX7_endToday 1 5 (by decide +kernel))
theorem dX7_endToday_70 : decode cX7_endToday 70 = .ok (.aaload, 1) := dz_aaload (y0 zE_cX7_endToday 1 6 (by decide +kernel))
theorem dX7_endToday_71 : decode cX7_endToday 71 = .ok (.getfield 196, 3) := dz_getfield (yu2 zE_cX7_endToday 1 7 (by decide +kernel))
theorem dX7_endToday_74 : decode cX7_endToday 74 = .ok (.aload_n 0, 1) := dz_aload_n_0 (y0 zE_cX7_endToday 1 10 (by decide +kernel))
theorem dX7_endToday_75 : decode cX7_endToday 75 = .ok (.getfield 54, 3) := dz_getfield (yu2 zE_cX7_endToday 1 11 (by decide +kernel))
theorem dX7_endToday_78 : decode cX7_endToday 78 = .ok (.if_icmp .ne 25, 3) := dz_if_icmp_ne (ys2 zE_cX7_endToday 1 14 (by decide +kernel))
theorem dX7_endToday_81 : decode cX7_endToday 81 = .ok (.aload_n 0, 1) := dz_aload_n_0 (y0 zE_cX7_endToday 1 17 (by decide +kernel))
theorem dX7_endToday_82 : decode cX7_endToday 82 = .ok (.getfield 29, 3) := dz_getfield (yu2 zE_cX7_endToday 1 18 (by decide +kernel))
theorem dX7_endToday_85 : decode cX7_endToday 85 = .ok (.iload_n 1, 1) := dz_iload_n_1 (y0 zE_cX7_endToday 1 21 (by decide +kernel))
theorem dX7_endToday_86 : decode cX7_endToday 86 = .ok (.aaload, 1) := dz_aaload (y0 zE_cX7_endToday 1 22 (by decide +kernel))
theorem dX7_endToday_87 : decode cX7_endToday 87 = .ok (.getfield 233, 3) := dz_getfield (yu2 zE_cX7_endToday 1 23 (by decide +kernel))
theorem dX7_endToday_90 : decode cX7_endToday 90 = .ok (.ifCond .ne 13, 3) := dz_ifCond_ne (ys2 zE_cX7_endToday 1 26 (by decide +kernel))
theorem dX7_endToday_93 : decode cX7_endToday 93 = .ok (.aload_n 0, 1) := dz_aload_n_0 (y0 zE_cX7_endToday 1 29 (by decide +kernel))
theorem dX7_endToday_94 : decode cX7_endToday 94 = .ok (.getfield 29, 3) := dz_getfield (yu2 zE_cX7_endToday 1 30 (by decide +kernel))
theorem dX7_endToday_97 : decode cX7_endToday 97 = .ok (.iload_n 1, 1) := dz_iload_n_1 (y0 zE_cX7_endToday 1 33 (by decide +kernel))
theorem dX7_endToday_98 : decode cX7_endToday 98 = .ok (.aaload, 1) := dz_aaload (y0 zE_cX7_endToday 1 34 (by decide +kernel))
theorem dX7_endToday_99 : decode cX7_endToday 99 = .ok (.iconst 3, 1) := dz_iconst_3 (y0 zE_cX7_endToday 1 35 (by decide +kernel))
theorem dX7_endToday_100 : decode cX7_endToday 100 = .ok (.putfield 233, 3) := dz_putfield (yu2 zE_cX7_endToday 1 36 (by decide +kernel))
theorem dX7_endToday_103 : decode cX7_endToday 103 = .ok (.iinc 1 1, 3) := dz_iinc (yii zE_cX7_endToday 1 39 (by decide +kernel))
theorem dX7_endToday_106 : decode cX7_endToday 106 = .ok (.goto (-49), 3) := dz_goto (ys2 zE_cX7_endToday 1 42 (by decide +kernel))
theorem dX7_endToday_109 : decode cX7_endToday 109 = .ok (.return_, 1) := dz_return (y0 zE_cX7_endToday 1 45 (by decide +kernel))
def zT_cX7_loseThoseWhoWaited : List (List Nat) := [[3, 60, 27, 42, 180, 0, 51, 162, 0, 49, 42, 180, 0, 29, 27, 50, 180, 0, 233, 154, 0, 31, 42, 180, 0, 29, 27, 50, 180, 0, 211, 8, 96, 42, 180, 0, 54, 163, 0, 13, 42, 180, 0, 29, 27, 50, 6, 181, 0, 233, 132, 1, 1, 167, 255, 205, 177]]
theorem zE_cX7_loseThoseWhoWaited : zTab cX7_loseThoseWhoWaited.data.toList zT_cX7_loseThoseWhoWaited = true := by decide +kernel
theorem dX7_loseThoseWhoWaited_0 : decode cX7_loseThoseWhoWaited 0 = .ok (.iconst 0, 1) := dz_iconst_0 (y0 zE_cX7_loseThoseWhoWaited 0 0 (by decide +kernel))
theorem dX7_loseThoseWhoWaited_1 : decode cX7_loseThoseWhoWaited 1 = .ok (.istore_n 1, 1) := dz_istore_n_1 (y0 zE_cX7_loseThoseWhoWaited 0 1 (by decide +kernel))
theorem dX7_loseThoseWhoWaited_2 : decode cX7_loseThoseWhoWaited 2 = .ok (.iload_n 1, 1) := dz_iload_n_1 (y0 zE_cX7_loseThoseWhoWaited 0 2 (by decide +kernel))
theorem dX7_loseThoseWhoWaited_3 : decode cX7_loseThoseWhoWaited 3 = .ok (.aload_n 0, 1) := dz_aload_n_0 (y0 zE_cX7_loseThoseWhoWaited 0 3 (by decide +kernel))
theorem dX7_loseThoseWhoWaited_4 : decode cX7_loseThoseWhoWaited 4 = .ok (.getfield 51, 3) := dz_getfield (yu2 zE_cX7_loseThoseWhoWaited 0 4 (by decide +kernel))
theorem dX7_loseThoseWhoWaited_7 : decode cX7_loseThoseWhoWaited 7 = .ok (.if_icmp .ge 49, 3) := dz_if_icmp_ge (ys2 zE_cX7_loseThoseWhoWaited 0 7 (by decide +kernel))
theorem dX7_loseThoseWhoWaited_10 : decode cX7_loseThoseWhoWaited 10 = .ok (.aload_n 0, 1) := dz_aload_n_0 (y0 zE_cX7_loseThoseWhoWaited 0 10 (by decide +kernel))
theorem dX7_loseThoseWhoWaited_11 : decode cX7_loseThoseWhoWaited 11 = .ok (.getfield 29, 3) := dz_getfield (yu2 zE_cX7_loseThoseWhoWaited 0 11 (by decide +kernel))
theorem dX7_loseThoseWhoWaited_14 : decode cX7_loseThoseWhoWaited 14 = .ok (.iload_n 1, 1) := dz_iload_n_1 (y0 zE_cX7_loseThoseWhoWaited 0 14 (by decide +kernel))
theorem dX7_loseThoseWhoWaited_15 : decode cX7_loseThoseWhoWaited 15 = .ok (.aaload, 1) := dz_aaload (y0 zE_cX7_loseThoseWhoWaited 0 15 (by decide +kernel))
theorem dX7_loseThoseWhoWaited_16 : decode cX7_loseThoseWhoWaited 16 = .ok (.getfield 233, 3) := dz_getfield (yu2 zE_cX7_loseThoseWhoWaited 0 16 (by decide +kernel))
theorem dX7_loseThoseWhoWaited_19 : decode cX7_loseThoseWhoWaited 19 = .ok (.ifCond .ne 31, 3) := dz_ifCond_ne (ys2 zE_cX7_loseThoseWhoWaited 0 19 (by decide +kernel))
theorem dX7_loseThoseWhoWaited_22 : decode cX7_loseThoseWhoWaited 22 = .ok (.aload_n 0, 1) := dz_aload_n_0 (y0 zE_cX7_loseThoseWhoWaited 0 22 (by decide +kernel))
theorem dX7_loseThoseWhoWaited_23 : decode cX7_loseThoseWhoWaited 23 = .ok (.getfield 29, 3) := dz_getfield (yu2 zE_cX7_loseThoseWhoWaited 0 23 (by decide +kernel))
theorem dX7_loseThoseWhoWaited_26 : decode cX7_loseThoseWhoWaited 26 = .ok (.iload_n 1, 1) := dz_iload_n_1 (y0 zE_cX7_loseThoseWhoWaited 0 26 (by decide +kernel))
theorem dX7_loseThoseWhoWaited_27 : decode cX7_loseThoseWhoWaited 27 = .ok (.aaload, 1) := dz_aaload (y0 zE_cX7_loseThoseWhoWaited 0 27 (by decide +kernel))
theorem dX7_loseThoseWhoWaited_28 : decode cX7_loseThoseWhoWaited 28 = .ok (.getfield 211, 3) := dz_getfield (yu2 zE_cX7_loseThoseWhoWaited 0 28 (by decide +kernel))
theorem dX7_loseThoseWhoWaited_31 : decode cX7_loseThoseWhoWaited 31 = .ok (.iconst 5, 1) := dz_iconst_5 (y0 zE_cX7_loseThoseWhoWaited 0 31 (by decide +kernel))
theorem dX7_loseThoseWhoWaited_32 : decode cX7_loseThoseWhoWaited 32 = .ok (.iadd, 1) := dz_iadd (y0 zE_cX7_loseThoseWhoWaited 0 32 (by decide +kernel))
theorem dX7_loseThoseWhoWaited_33 : decode cX7_loseThoseWhoWaited 33 = .ok (.aload_n 0, 1) := dz_aload_n_0 (y0 zE_cX7_loseThoseWhoWaited 0 33 (by decide +kernel))
theorem dX7_loseThoseWhoWaited_34 : decode cX7_loseThoseWhoWaited 34 = .ok (.getfield 54, 3) := dz_getfield (yu2 zE_cX7_loseThoseWhoWaited 0 34 (by decide +kernel))
theorem dX7_loseThoseWhoWaited_37 : decode cX7_loseThoseWhoWaited 37 = .ok (.if_icmp .gt 13, 3) := dz_if_icmp_gt (ys2 zE_cX7_loseThoseWhoWaited 0 37 (by decide +kernel))
theorem dX7_loseThoseWhoWaited_40 : decode cX7_loseThoseWhoWaited 40 = .ok (.aload_n 0, 1) := dz_aload_n_0 (y0 zE_cX7_loseThoseWhoWaited 0 40 (by decide +kernel))
theorem dX7_loseThoseWhoWaited_41 : decode cX7_loseThoseWhoWaited 41 = .ok (.getfield 29, 3) := dz_getfield (yu2 zE_cX7_loseThoseWhoWaited 0 41 (by decide +kernel))
theorem dX7_loseThoseWhoWaited_44 : decode cX7_loseThoseWhoWaited 44 = .ok (.iload_n 1, 1) := dz_iload_n_1 (y0 zE_cX7_loseThoseWhoWaited 0 44 (by decide +kernel))
theorem dX7_loseThoseWhoWaited_45 : decode cX7_loseThoseWhoWaited 45 = .ok (.aaload, 1) := dz_aaload (y0 zE_cX7_loseThoseWhoWaited 0 45 (by decide +kernel))
theorem dX7_loseThoseWhoWaited_46 : decode cX7_loseThoseWhoWaited 46 = .ok (.iconst 3, 1) := dz_iconst_3 (y0 zE_cX7_loseThoseWhoWaited 0 46 (by decide +kernel))
theorem dX7_loseThoseWhoWaited_47 : decode cX7_loseThoseWhoWaited 47 = .ok (.putfield 233, 3) := dz_putfield (yu2 zE_cX7_loseThoseWhoWaited 0 47 (by decide +kernel))
theorem dX7_loseThoseWhoWaited_50 : decode cX7_loseThoseWhoWaited 50 = .ok (.iinc 1 1, 3) := dz_iinc (yii zE_cX7_loseThoseWhoWaited 0 50 (by decide +kernel))
theorem dX7_loseThoseWhoWaited_53 : decode cX7_loseThoseWhoWaited 53 = .ok (.goto (-51), 3) := dz_goto (ys2 zE_cX7_loseThoseWhoWaited 0 53 (by decide +kernel))
theorem dX7_loseThoseWhoWaited_56 : decode cX7_loseThoseWhoWaited 56 = .ok (.return_, 1) := dz_return (y0 zE_cX7_loseThoseWhoWaited 0 56 (by decide +kernel))
theorem gd_wsX7_playOut : wsX7_playOut.all goodWord = true := by decide +kernel
set_option maxRecDepth 20000 in
theorem ggX7_playOut_X7_extraOf : GoodIn wsX7_playOut wsX7_extraOf := gi_q gd_wsX7_playOut _ [(21, 1), (3, 3), (22, 3), (20, 1), (25, 13), (121, 15), (109, 12), (136, 8)] rfl
set_option maxRecDepth 20000 in
theorem gX7_playOut_X7_extraOf : GoodIn wsX7_playOut (wsV RX7 428 RX7 yX7_extraOf wsX7_extraOf) := goodIn_app (gi_q gd_wsX7_playOut _ [(17, 4)] rfl) ggX7_playOut_X7_extraOf
set_option maxRecDepth 20000 in
theorem ggX7_playOut_X7_getPaid : GoodIn wsX7_playOut wsX7_getPaid := gi_q gd_wsX7_playOut _ [(41, 1), (2, 1), (6, 1), (109, 27)] rfl
set_option maxRecDepth 20000 in
theorem gX7_playOut_X7_getPaid : GoodIn wsX7_playOut (wsV RX7 250 RX7 yX7_getPaid wsX7_getPaid) := goodIn_app (gi_q gd_wsX7_playOut _ [(38, 3), (20, 1)] rfl) ggX7_playOut_X7_getPaid
set_option maxRecDepth 20000 in
theorem ggX7_playOut_X7_has : GoodIn wsX7_playOut wsX7_has := gi_q gd_wsX7_playOut _ [(25, 1)] rfl
set_option maxRecDepth 20000 in
theorem gX7_playOut_X7_has : GoodIn wsX7_playOut (va_wsS RX7 153 yX7_has wsX7_has) := goodIn_app (gi_q gd_wsX7_playOut _ [(23, 2), (20, 1)] rfl) ggX7_playOut_X7_has
set_option maxRecDepth 20000 in
theorem ggX7_playOut_X7_wageAt : GoodIn wsX7_playOut wsX7_wageAt := gi_q gd_wsX7_playOut _ [(45, 1), (22, 1), (46, 3), (20, 1), (49, 4), (10, 1), (53, 2), (36, 1), (55, 7), (26, 10), (37, 1), (136, 8), (121, 15), (109, 12), (155, 2)] rfl
set_option maxRecDepth 20000 in
theorem gX7_playOut_X7_wageAt : GoodIn wsX7_playOut (wsV RX7 500 RX7 yX7_wageAt wsX7_wageAt) := goodIn_app (gi_q gd_wsX7_playOut _ [(42, 3), (20, 1)] rfl) ggX7_playOut_X7_wageAt
set_option maxRecDepth 20000 in
theorem ggX7_playOut_X7_playableFor : GoodIn wsX7_playOut wsX7_playableFor := gi_q gd_wsX7_playOut _ [(65, 1), (3, 1), (5, 1), (66, 1), (23, 2), (20, 1), (25, 1), (67, 7), (121, 23)] rfl
set_option maxRecDepth 20000 in
theorem gX7_playOut_X7_playableFor : GoodIn wsX7_playOut (wsV RX7 355 RX7 yX7_playableFor wsX7_playableFor) := goodIn_app (gi_q gd_wsX7_playOut _ [(62, 3), (20, 1)] rfl) ggX7_playOut_X7_playableFor
set_option maxRecDepth 20000 in
theorem ggX7_playOut_X1_choose : GoodIn wsX7_playOut wsX1_choose := gi_q gd_wsX7_playOut _ [(78, 10), (77, 1), (88, 2), (24, 1), (20, 1), (25, 1), (90, 8), (36, 1), (98, 11), (144, 11)] rfl
set_option maxRecDepth 20000 in
theorem gX7_playOut_X1_choose : GoodIn wsX7_playOut (wsV RX7 358 RX1 yX1_choose wsX1_choose) := goodIn_app (gi_q gd_wsX7_playOut _ [(74, 4)] rfl) ggX7_playOut_X1_choose
def zT_cX7_playOut : List (List Nat) := [[42, 43, 43, 180, 0, 247, 43, 180, 1, 4, 100, 42, 43, 182, 1, 172, 96, 182, 0, 250, 3, 61, 28, 42, 180, 0, 44, 162, 0, 90, 43, 180, 0, 239, 28, 184, 0, 153, 153, 0, 73, 42, 42, 180, 0, 11, 28, 50, 43, 182, 1, 244, 62, 42, 89, 180, 0, 57, 29, 100, 181, 0, 57, 42, 180, 0, 11, 28], [180, 0, 11, 28, 50, 89, 180, 1, 45, 29, 96, 181, 1, 45, 42, 180, 0, 11, 28, 50, 89, 180, 1, 51, 4, 96, 181, 1, 51, 42, 180, 0, 11, 28, 50, 89, 180, 1, 54, 43, 180, 0, 205, 96, 181, 1, 54, 132, 2, 1, 167, 255, 164, 42, 180, 0, 77, 42, 180, 0, 17, 42, 43, 180, 0, 239, 182, 1], [0, 239, 182, 1, 99, 182, 1, 102, 3, 61, 28, 42, 180, 0, 77, 180, 1, 107, 162, 0, 32, 42, 180, 0, 17, 42, 180, 0, 77, 180, 1, 117, 28, 46, 50, 89, 180, 1, 59, 4, 96, 181, 1, 59, 132, 2, 1, 167, 255, 219, 43, 5, 181, 0, 233, 177]]
theorem zE_cX7_playOut : zTab cX7_playOut.data.toList zT_cX7_playOut = true := by decide +kernel
theorem dX7_playOut_0 : decode cX7_playOut 0 = .ok (.aload_n 0, 1) := dz_aload_n_0 (y0 zE_cX7_playOut 0 0 (by decide +kernel))
theorem dX7_playOut_1 : decode cX7_playOut 1 = .ok (.aload_n 1, 1) := dz_aload_n_1 (y0 zE_cX7_playOut 0 1 (by decide +kernel))
theorem dX7_playOut_2 : decode cX7_playOut 2 = .ok (.aload_n 1, 1) := dz_aload_n_1 (y0 zE_cX7_playOut 0 2 (by decide +kernel))
theorem dX7_playOut_3 : decode cX7_playOut 3 = .ok (.getfield 247, 3) := dz_getfield (yu2 zE_cX7_playOut 0 3 (by decide +kernel))
theorem dX7_playOut_6 : decode cX7_playOut 6 = .ok (.aload_n 1, 1) := dz_aload_n_1 (y0 zE_cX7_playOut 0 6 (by decide +kernel))
theorem dX7_playOut_7 : decode cX7_playOut 7 = .ok (.getfield 260, 3) := dz_getfield (yu2 zE_cX7_playOut 0 7 (by decide +kernel))
theorem dX7_playOut_10 : decode cX7_playOut 10 = .ok (.isub, 1) := dz_isub (y0 zE_cX7_playOut 0 10 (by decide +kernel))
theorem dX7_playOut_11 : decode cX7_playOut 11 = .ok (.aload_n 0, 1) := dz_aload_n_0 (y0 zE_cX7_playOut 0 11 (by decide +kernel))
theorem dX7_playOut_12 : decode cX7_playOut 12 = .ok (.aload_n 1, 1) := dz_aload_n_1 (y0 zE_cX7_playOut 0 12 (by decide +kernel))
theorem dX7_playOut_13 : decode cX7_playOut 13 = .ok (.invokevirtual 428, 3) := dz_invokevirtual (yu2 zE_cX7_playOut 0 13 (by decide +kernel))
theorem dX7_playOut_16 : decode cX7_playOut 16 = .ok (.iadd, 1) := dz_iadd (y0 zE_cX7_playOut 0 16 (by decide +kernel))
theorem dX7_playOut_17 : decode cX7_playOut 17 = .ok (.invokevirtual 250, 3) := dz_invokevirtual (yu2 zE_cX7_playOut 0 17 (by decide +kernel))
theorem dX7_playOut_20 : decode cX7_playOut 20 = .ok (.iconst 0, 1) := dz_iconst_0 (y0 zE_cX7_playOut 0 20 (by decide +kernel))
theorem dX7_playOut_21 : decode cX7_playOut 21 = .ok (.istore_n 2, 1) := dz_istore_n_2 (y0 zE_cX7_playOut 0 21 (by decide +kernel))
theorem dX7_playOut_22 : decode cX7_playOut 22 = .ok (.iload_n 2, 1) := dz_iload_n_2 (y0 zE_cX7_playOut 0 22 (by decide +kernel))
theorem dX7_playOut_23 : decode cX7_playOut 23 = .ok (.aload_n 0, 1) := dz_aload_n_0 (y0 zE_cX7_playOut 0 23 (by decide +kernel))
theorem dX7_playOut_24 : decode cX7_playOut 24 = .ok (.getfield 44, 3) := dz_getfield (yu2 zE_cX7_playOut 0 24 (by decide +kernel))
theorem dX7_playOut_27 : decode cX7_playOut 27 = .ok (.if_icmp .ge 90, 3) := dz_if_icmp_ge (ys2 zE_cX7_playOut 0 27 (by decide +kernel))
theorem dX7_playOut_30 : decode cX7_playOut 30 = .ok (.aload_n 1, 1) := dz_aload_n_1 (y0 zE_cX7_playOut 0 30 (by decide +kernel))
theorem dX7_playOut_31 : decode cX7_playOut 31 = .ok (.getfield 239, 3) := dz_getfield (yu2 zE_cX7_playOut 0 31 (by decide +kernel))
theorem dX7_playOut_34 : decode cX7_playOut 34 = .ok (.iload_n 2, 1) := dz_iload_n_2 (y0 zE_cX7_playOut 0 34 (by decide +kernel))
theorem dX7_playOut_35 : decode cX7_playOut 35 = .ok (.invokestatic 153, 3) := dz_invokestatic (yu2 zE_cX7_playOut 0 35 (by decide +kernel))
theorem dX7_playOut_38 : decode cX7_playOut 38 = .ok (.ifCond .eq 73, 3) := dz_ifCond_eq (ys2 zE_cX7_playOut 0 38 (by decide +kernel))
theorem dX7_playOut_41 : decode cX7_playOut 41 = .ok (.aload_n 0, 1) := dz_aload_n_0 (y0 zE_cX7_playOut 0 41 (by decide +kernel))
theorem dX7_playOut_42 : decode cX7_playOut 42 = .ok (.aload_n 0, 1) := dz_aload_n_0 (y0 zE_cX7_playOut 0 42 (by decide +kernel))
theorem dX7_playOut_43 : decode cX7_playOut 43 = .ok (.getfield 11, 3) := dz_getfield (yu2 zE_cX7_playOut 0 43 (by decide +kernel))
theorem dX7_playOut_46 : decode cX7_playOut 46 = .ok (.iload_n 2, 1) := dz_iload_n_2 (y0 zE_cX7_playOut 0 46 (by decide +kernel))
theorem dX7_playOut_47 : decode cX7_playOut 47 = .ok (.aaload, 1) := dz_aaload (y0 zE_cX7_playOut 0 47 (by decide +kernel))
theorem dX7_playOut_48 : decode cX7_playOut 48 = .ok (.aload_n 1, 1) := dz_aload_n_1 (y0 zE_cX7_playOut 0 48 (by decide +kernel))
theorem dX7_playOut_49 : decode cX7_playOut 49 = .ok (.invokevirtual 500, 3) := dz_invokevirtual (yu2 zE_cX7_playOut 0 49 (by decide +kernel))
theorem dX7_playOut_52 : decode cX7_playOut 52 = .ok (.istore_n 3, 1) := dz_istore_n_3 (y0 zE_cX7_playOut 0 52 (by decide +kernel))
theorem dX7_playOut_53 : decode cX7_playOut 53 = .ok (.aload_n 0, 1) := dz_aload_n_0 (y0 zE_cX7_playOut 0 53 (by decide +kernel))
theorem dX7_playOut_54 : decode cX7_playOut 54 = .ok (.dup, 1) := dz_dup (y0 zE_cX7_playOut 0 54 (by decide +kernel))
theorem dX7_playOut_55 : decode cX7_playOut 55 = .ok (.getfield 57, 3) := dz_getfield (yu2 zE_cX7_playOut 0 55 (by decide +kernel))
theorem dX7_playOut_58 : decode cX7_playOut 58 = .ok (.iload_n 3, 1) := dz_iload_n_3 (y0 zE_cX7_playOut 0 58 (by decide +kernel))
theorem dX7_playOut_59 : decode cX7_playOut 59 = .ok (.isub, 1) := dz_isub (y0 zE_cX7_playOut 0 59 (by decide +kernel))
theorem dX7_playOut_60 : decode cX7_playOut 60 = .ok (.putfield 57, 3) := dz_putfield (yu2 zE_cX7_playOut 0 60 (by decide +kernel))
theorem dX7_playOut_63 : decode cX7_playOut 63 = .ok (.aload_n 0, 1) := dz_aload_n_0 (y0 zE_cX7_playOut 0 63 (by decide +kernel))
theorem dX7_playOut_64 : decode cX7_playOut 64 = .ok (.getfield 11, 3) := dz_getfield (yu2 zE_cX7_playOut 1 0 (by decide +kernel))
theorem dX7_playOut_67 : decode cX7_playOut 67 = .ok (.iload_n 2, 1) := dz_iload_n_2 (y0 zE_cX7_playOut 1 3 (by decide +kernel))
theorem dX7_playOut_68 : decode cX7_playOut 68 = .ok (.aaload, 1) := dz_aaload (y0 zE_cX7_playOut 1 4 (by decide +kernel))
theorem dX7_playOut_69 : decode cX7_playOut 69 = .ok (.dup, 1) := dz_dup (y0 zE_cX7_playOut 1 5 (by decide +kernel))
theorem dX7_playOut_70 : decode cX7_playOut 70 = .ok (.getfield 301, 3) := dz_getfield (yu2 zE_cX7_playOut 1 6 (by decide +kernel))
theorem dX7_playOut_73 : decode cX7_playOut 73 = .ok (.iload_n 3, 1) := dz_iload_n_3 (y0 zE_cX7_playOut 1 9 (by decide +kernel))
theorem dX7_playOut_74 : decode cX7_playOut 74 = .ok (.iadd, 1) := dz_iadd (y0 zE_cX7_playOut 1 10 (by decide +kernel))
theorem dX7_playOut_75 : decode cX7_playOut 75 = .ok (.putfield 301, 3) := dz_putfield (yu2 zE_cX7_playOut 1 11 (by decide +kernel))
theorem dX7_playOut_78 : decode cX7_playOut 78 = .ok (.aload_n 0, 1) := dz_aload_n_0 (y0 zE_cX7_playOut 1 14 (by decide +kernel))
theorem dX7_playOut_79 : decode cX7_playOut 79 = .ok (.getfield 11, 3) := dz_getfield (yu2 zE_cX7_playOut 1 15 (by decide +kernel))
theorem dX7_playOut_82 : decode cX7_playOut 82 = .ok (.iload_n 2, 1) := dz_iload_n_2 (y0 zE_cX7_playOut 1 18 (by decide +kernel))
theorem dX7_playOut_83 : decode cX7_playOut 83 = .ok (.aaload, 1) := dz_aaload (y0 zE_cX7_playOut 1 19 (by decide +kernel))
theorem dX7_playOut_84 : decode cX7_playOut 84 = .ok (.dup, 1) := dz_dup (y0 zE_cX7_playOut 1 20 (by decide +kernel))
theorem dX7_playOut_85 : decode cX7_playOut 85 = .ok (.getfield 307, 3) := dz_getfield (yu2 zE_cX7_playOut 1 21 (by decide +kernel))
theorem dX7_playOut_88 : decode cX7_playOut 88 = .ok (.iconst 1, 1) := dz_iconst_1 (y0 zE_cX7_playOut 1 24 (by decide +kernel))
theorem dX7_playOut_89 : decode cX7_playOut 89 = .ok (.iadd, 1) := dz_iadd (y0 zE_cX7_playOut 1 25 (by decide +kernel))
theorem dX7_playOut_90 : decode cX7_playOut 90 = .ok (.putfield 307, 3) := dz_putfield (yu2 zE_cX7_playOut 1 26 (by decide +kernel))
theorem dX7_playOut_93 : decode cX7_playOut 93 = .ok (.aload_n 0, 1) := dz_aload_n_0 (y0 zE_cX7_playOut 1 29 (by decide +kernel))
theorem dX7_playOut_94 : decode cX7_playOut 94 = .ok (.getfield 11, 3) := dz_getfield (yu2 zE_cX7_playOut 1 30 (by decide +kernel))
theorem dX7_playOut_97 : decode cX7_playOut 97 = .ok (.iload_n 2, 1) := dz_iload_n_2 (y0 zE_cX7_playOut 1 33 (by decide +kernel))
theorem dX7_playOut_98 : decode cX7_playOut 98 = .ok (.aaload, 1) := dz_aaload (y0 zE_cX7_playOut 1 34 (by decide +kernel))
theorem dX7_playOut_99 : decode cX7_playOut 99 = .ok (.dup, 1) := dz_dup (y0 zE_cX7_playOut 1 35 (by decide +kernel))
theorem dX7_playOut_100 : decode cX7_playOut 100 = .ok (.getfield 310, 3) := dz_getfield (yu2 zE_cX7_playOut 1 36 (by decide +kernel))
theorem dX7_playOut_103 : decode cX7_playOut 103 = .ok (.aload_n 1, 1) := dz_aload_n_1 (y0 zE_cX7_playOut 1 39 (by decide +kernel))
theorem dX7_playOut_104 : decode cX7_playOut 104 = .ok (.getfield 205, 3) := dz_getfield (yu2 zE_cX7_playOut 1 40 (by decide +kernel))
theorem dX7_playOut_107 : decode cX7_playOut 107 = .ok (.iadd, 1) := dz_iadd (y0 zE_cX7_playOut 1 43 (by decide +kernel))
theorem dX7_playOut_108 : decode cX7_playOut 108 = .ok (.putfield 310, 3) := dz_putfield (yu2 zE_cX7_playOut 1 44 (by decide +kernel))
theorem dX7_playOut_111 : decode cX7_playOut 111 = .ok (.iinc 2 1, 3) := dz_iinc (yii zE_cX7_playOut 1 47 (by decide +kernel))
theorem dX7_playOut_114 : decode cX7_playOut 114 = .ok (.goto (-92), 3) := dz_goto (ys2 zE_cX7_playOut 1 50 (by decide +kernel))
theorem dX7_playOut_117 : decode cX7_playOut 117 = .ok (.aload_n 0, 1) := dz_aload_n_0 (y0 zE_cX7_playOut 1 53 (by decide +kernel))
theorem dX7_playOut_118 : decode cX7_playOut 118 = .ok (.getfield 77, 3) := dz_getfield (yu2 zE_cX7_playOut 1 54 (by decide +kernel))
theorem dX7_playOut_121 : decode cX7_playOut 121 = .ok (.aload_n 0, 1) := dz_aload_n_0 (y0 zE_cX7_playOut 1 57 (by decide +kernel))
theorem dX7_playOut_122 : decode cX7_playOut 122 = .ok (.getfield 17, 3) := dz_getfield (yu2 zE_cX7_playOut 1 58 (by decide +kernel))
theorem dX7_playOut_125 : decode cX7_playOut 125 = .ok (.aload_n 0, 1) := dz_aload_n_0 (y0 zE_cX7_playOut 1 61 (by decide +kernel))
theorem dX7_playOut_126 : decode cX7_playOut 126 = .ok (.aload_n 1, 1) := dz_aload_n_1 (y0 zE_cX7_playOut 1 62 (by decide +kernel))
theorem dX7_playOut_127 : decode cX7_playOut 127 = .ok (.getfield 239, 3) := dz_getfield (yu2 zE_cX7_playOut 1 63 (by decide +kernel))
theorem dX7_playOut_130 : decode cX7_playOut 130 = .ok (.invokevirtual 355, 3) := dz_invokevirtual (yu2 zE_cX7_playOut 2 2 (by decide +kernel))
theorem dX7_playOut_133 : decode cX7_playOut 133 = .ok (.invokevirtual 358, 3) := dz_invokevirtual (yu2 zE_cX7_playOut 2 5 (by decide +kernel))
theorem dX7_playOut_136 : decode cX7_playOut 136 = .ok (.iconst 0, 1) := dz_iconst_0 (y0 zE_cX7_playOut 2 8 (by decide +kernel))
theorem dX7_playOut_137 : decode cX7_playOut 137 = .ok (.istore_n 2, 1) := dz_istore_n_2 (y0 zE_cX7_playOut 2 9 (by decide +kernel))
theorem dX7_playOut_138 : decode cX7_playOut 138 = .ok (.iload_n 2, 1) := dz_iload_n_2 (y0 zE_cX7_playOut 2 10 (by decide +kernel))
theorem dX7_playOut_139 : decode cX7_playOut 139 = .ok (.aload_n 0, 1) := dz_aload_n_0 (y0 zE_cX7_playOut 2 11 (by decide +kernel))
theorem dX7_playOut_140 : decode cX7_playOut 140 = .ok (.getfield 77, 3) := dz_getfield (yu2 zE_cX7_playOut 2 12 (by decide +kernel))
theorem dX7_playOut_143 : decode cX7_playOut 143 = .ok (.getfield 363, 3) := dz_getfield (yu2 zE_cX7_playOut 2 15 (by decide +kernel))
theorem dX7_playOut_146 : decode cX7_playOut 146 = .ok (.if_icmp .ge 32, 3) := dz_if_icmp_ge (ys2 zE_cX7_playOut 2 18 (by decide +kernel))
theorem dX7_playOut_149 : decode cX7_playOut 149 = .ok (.aload_n 0, 1) := dz_aload_n_0 (y0 zE_cX7_playOut 2 21 (by decide +kernel))
theorem dX7_playOut_150 : decode cX7_playOut 150 = .ok (.getfield 17, 3) := dz_getfield (yu2 zE_cX7_playOut 2 22 (by decide +kernel))
theorem dX7_playOut_153 : decode cX7_playOut 153 = .ok (.aload_n 0, 1) := dz_aload_n_0 (y0 zE_cX7_playOut 2 25 (by decide +kernel))
theorem dX7_playOut_154 : decode cX7_playOut 154 = .ok (.getfield 77, 3) := dz_getfield (yu2 zE_cX7_playOut 2 26 (by decide +kernel))
theorem dX7_playOut_157 : decode cX7_playOut 157 = .ok (.getfield 373, 3) := dz_getfield (yu2 zE_cX7_playOut 2 29 (by decide +kernel))
theorem dX7_playOut_160 : decode cX7_playOut 160 = .ok (.iload_n 2, 1) := dz_iload_n_2 (y0 zE_cX7_playOut 2 32 (by decide +kernel))
theorem dX7_playOut_161 : decode cX7_playOut 161 = .ok (.iaload, 1) := dz_iaload (y0 zE_cX7_playOut 2 33 (by decide +kernel))
theorem dX7_playOut_162 : decode cX7_playOut 162 = .ok (.aaload, 1) := dz_aaload (y0 zE_cX7_playOut 2 34 (by decide +kernel))
theorem dX7_playOut_163 : decode cX7_playOut 163 = .ok (.dup, 1) := dz_dup (y0 zE_cX7_playOut 2 35 (by decide +kernel))
theorem dX7_playOut_164 : decode cX7_playOut 164 = .ok (.getfield 315, 3) := dz_getfield (yu2 zE_cX7_playOut 2 36 (by decide +kernel))
theorem dX7_playOut_167 : decode cX7_playOut 167 = .ok (.iconst 1, 1) := dz_iconst_1 (y0 zE_cX7_playOut 2 39 (by decide +kernel))
theorem dX7_playOut_168 : decode cX7_playOut 168 = .ok (.iadd, 1) := dz_iadd (y0 zE_cX7_playOut 2 40 (by decide +kernel))
theorem dX7_playOut_169 : decode cX7_playOut 169 = .ok (.putfield 315, 3) := dz_putfield (yu2 zE_cX7_playOut 2 41 (by decide +kernel))
theorem dX7_playOut_172 : decode cX7_playOut 172 = .ok (.iinc 2 1, 3) := dz_iinc (yii zE_cX7_playOut 2 44 (by decide +kernel))
theorem dX7_playOut_175 : decode cX7_playOut 175 = .ok (.goto (-37), 3) := dz_goto (ys2 zE_cX7_playOut 2 47 (by decide +kernel))
theorem dX7_playOut_178 : decode cX7_playOut 178 = .ok (.aload_n 1, 1) := dz_aload_n_1 (y0 zE_cX7_playOut 2 50 (by decide +kernel))
theorem dX7_playOut_179 : decode cX7_playOut 179 = .ok (.iconst 2, 1) := dz_iconst_2 (y0 zE_cX7_playOut 2 51 (by decide +kernel))
theorem dX7_playOut_180 : decode cX7_playOut 180 = .ok (.putfield 233, 3) := dz_putfield (yu2 zE_cX7_playOut 2 52 (by decide +kernel))
theorem dX7_playOut_183 : decode cX7_playOut 183 = .ok (.return_, 1) := dz_return (y0 zE_cX7_playOut 2 55 (by decide +kernel))
theorem dX7_priceOf_0 : decode cX7_priceOf 0 = .ok (.iload_n 0, 1) := dkT (by decide +kernel)
theorem dX7_priceOf_1 : decode cX7_priceOf 1 = .ok (.bipush 6, 2) := dkT (by decide +kernel)
theorem dX7_priceOf_3 : decode cX7_priceOf 3 = .ok (.imul, 1) := dkT (by decide +kernel)
theorem dX7_priceOf_4 : decode cX7_priceOf 4 = .ok (.iconst 5, 1) := dkT (by decide +kernel)
theorem dX7_priceOf_5 : decode cX7_priceOf 5 = .ok (.idiv, 1) := dkT (by decide +kernel)
theorem dX7_priceOf_6 : decode cX7_priceOf 6 = .ok (.bipush 50, 2) := dkT (by decide +kernel)
theorem dX7_priceOf_8 : decode cX7_priceOf 8 = .ok (.iadd, 1) := dkT (by decide +kernel)
theorem dX7_priceOf_9 : decode cX7_priceOf 9 = .ok (.ireturn, 1) := dkT (by decide +kernel)
theorem dX7_getPaid_0 : decode cX7_getPaid 0 = .ok (.aload_n 1, 1) := dkT (by decide +kernel)
theorem dX7_getPaid_1 : decode cX7_getPaid 1 = .ok (.dup, 1) := dkT (by decide +kernel)
theorem dX7_getPaid_2 : decode cX7_getPaid 2 = .ok (.getfield 260, 3) := dkT (by decide +kernel)
theorem dX7_getPaid_5 : decode cX7_getPaid 5 = .ok (.iload_n 2, 1) := dkT (by decide +kernel)
theorem dX7_getPaid_6 : decode cX7_getPaid 6 = .ok (.iadd, 1) := dkT (by decide +kernel)
theorem dX7_getPaid_7 : decode cX7_getPaid 7 = .ok (.putfield 260, 3) := dkT (by decide +kernel)
theorem dX7_getPaid_10 : decode cX7_getPaid 10 = .ok (.aload_n 0, 1) := dkT (by decide +kernel)
theorem dX7_getPaid_11 : decode cX7_getPaid 11 = .ok (.dup, 1) := dkT (by decide +kernel)
theorem dX7_getPaid_12 : decode cX7_getPaid 12 = .ok (.getfield 57, 3) := dkT (by decide +kernel)
theorem dX7_getPaid_15 : decode cX7_getPaid 15 = .ok (.iload_n 2, 1) := dkT (by decide +kernel)
theorem dX7_getPaid_16 : decode cX7_getPaid 16 = .ok (.iadd, 1) := dkT (by decide +kernel)
theorem dX7_getPaid_17 : decode cX7_getPaid 17 = .ok (.putfield 57, 3) := dkT (by decide +kernel)
theorem dX7_getPaid_20 : decode cX7_getPaid 20 = .ok (.return_, 1) := dkT (by decide +kernel)
def zT_cX7_owedFor : List (List Nat) := [[43, 180, 0, 196, 42, 180, 0, 54, 100, 61, 28, 16, 30, 161, 0, 8, 16, 20, 167, 0, 27, 28, 16, 14, 161, 0, 8, 16, 40, 167, 0, 16, 28, 16, 7, 161, 0, 8, 16, 70, 167, 0, 5, 16, 100, 62, 43, 180, 0, 247, 29, 104, 16, 100, 108, 172]]
theorem zE_cX7_owedFor : zTab cX7_owedFor.data.toList zT_cX7_owedFor = true := by decide +kernel
theorem dX7_owedFor_0 : decode cX7_owedFor 0 = .ok (.aload_n 1, 1) := dz_aload_n_1 (y0 zE_cX7_owedFor 0 0 (by decide +kernel))
theorem dX7_owedFor_1 : decode cX7_owedFor 1 = .ok (.getfield 196, 3) := dz_getfield (yu2 zE_cX7_owedFor 0 1 (by decide +kernel))
theorem dX7_owedFor_4 : decode cX7_owedFor 4 = .ok (.aload_n 0, 1) := dz_aload_n_0 (y0 zE_cX7_owedFor 0 4 (by decide +kernel))
theorem dX7_owedFor_5 : decode cX7_owedFor 5 = .ok (.getfield 54, 3) := dz_getfield (yu2 zE_cX7_owedFor 0 5 (by decide +kernel))
theorem dX7_owedFor_8 : decode cX7_owedFor 8 = .ok (.isub, 1) := dz_isub (y0 zE_cX7_owedFor 0 8 (by decide +kernel))
theorem dX7_owedFor_9 : decode cX7_owedFor 9 = .ok (.istore_n 2, 1) := dz_istore_n_2 (y0 zE_cX7_owedFor 0 9 (by decide +kernel))
theorem dX7_owedFor_10 : decode cX7_owedFor 10 = .ok (.iload_n 2, 1) := dz_iload_n_2 (y0 zE_cX7_owedFor 0 10 (by decide +kernel))
theorem dX7_owedFor_11 : decode cX7_owedFor 11 = .ok (.bipush 30, 2) := dz_bipush (ys1 zE_cX7_owedFor 0 11 (by decide +kernel))
theorem dX7_owedFor_13 : decode cX7_owedFor 13 = .ok (.if_icmp .lt 8, 3) := dz_if_icmp_lt (ys2 zE_cX7_owedFor 0 13 (by decide +kernel))
theorem dX7_owedFor_16 : decode cX7_owedFor 16 = .ok (.bipush 20, 2) := dz_bipush (ys1 zE_cX7_owedFor 0 16 (by decide +kernel))
theorem dX7_owedFor_18 : decode cX7_owedFor 18 = .ok (.goto 27, 3) := dz_goto (ys2 zE_cX7_owedFor 0 18 (by decide +kernel))
theorem dX7_owedFor_21 : decode cX7_owedFor 21 = .ok (.iload_n 2, 1) := dz_iload_n_2 (y0 zE_cX7_owedFor 0 21 (by decide +kernel))
theorem dX7_owedFor_22 : decode cX7_owedFor 22 = .ok (.bipush 14, 2) := dz_bipush (ys1 zE_cX7_owedFor 0 22 (by decide +kernel))
theorem dX7_owedFor_24 : decode cX7_owedFor 24 = .ok (.if_icmp .lt 8, 3) := dz_if_icmp_lt (ys2 zE_cX7_owedFor 0 24 (by decide +kernel))
theorem dX7_owedFor_27 : decode cX7_owedFor 27 = .ok (.bipush 40, 2) := dz_bipush (ys1 zE_cX7_owedFor 0 27 (by decide +kernel))
theorem dX7_owedFor_29 : decode cX7_owedFor 29 = .ok (.goto 16, 3) := dz_goto (ys2 zE_cX7_owedFor 0 29 (by decide +kernel))
theorem dX7_owedFor_32 : decode cX7_owedFor 32 = .ok (.iload_n 2, 1) := dz_iload_n_2 (y0 zE_cX7_owedFor 0 32 (by decide +kernel))
theorem dX7_owedFor_33 : decode cX7_owedFor 33 = .ok (.bipush 7, 2) := dz_bipush (ys1 zE_cX7_owedFor 0 33 (by decide +kernel))
theorem dX7_owedFor_35 : decode cX7_owedFor 35 = .ok (.if_icmp .lt 8, 3) := dz_if_icmp_lt (ys2 zE_cX7_owedFor 0 35 (by decide +kernel))
theorem dX7_owedFor_38 : decode cX7_owedFor 38 = .ok (.bipush 70, 2) := dz_bipush (ys1 zE_cX7_owedFor 0 38 (by decide +kernel))
theorem dX7_owedFor_40 : decode cX7_owedFor 40 = .ok (.goto 5, 3) := dz_goto (ys2 zE_cX7_owedFor 0 40 (by decide +kernel))
theorem dX7_owedFor_43 : decode cX7_owedFor 43 = .ok (.bipush 100, 2) := dz_bipush (ys1 zE_cX7_owedFor 0 43 (by decide +kernel))
theorem dX7_owedFor_45 : decode cX7_owedFor 45 = .ok (.istore_n 3, 1) := dz_istore_n_3 (y0 zE_cX7_owedFor 0 45 (by decide +kernel))
theorem dX7_owedFor_46 : decode cX7_owedFor 46 = .ok (.aload_n 1, 1) := dz_aload_n_1 (y0 zE_cX7_owedFor 0 46 (by decide +kernel))
theorem dX7_owedFor_47 : decode cX7_owedFor 47 = .ok (.getfield 247, 3) := dz_getfield (yu2 zE_cX7_owedFor 0 47 (by decide +kernel))
theorem dX7_owedFor_50 : decode cX7_owedFor 50 = .ok (.iload_n 3, 1) := dz_iload_n_3 (y0 zE_cX7_owedFor 0 50 (by decide +kernel))
theorem dX7_owedFor_51 : decode cX7_owedFor 51 = .ok (.imul, 1) := dz_imul (y0 zE_cX7_owedFor 0 51 (by decide +kernel))
theorem dX7_owedFor_52 : decode cX7_owedFor 52 = .ok (.bipush 100, 2) := dz_bipush (ys1 zE_cX7_owedFor 0 52 (by decide +kernel))
theorem dX7_owedFor_54 : decode cX7_owedFor 54 = .ok (.idiv, 1) := dz_idiv (y0 zE_cX7_owedFor 0 54 (by decide +kernel))
theorem dX7_owedFor_55 : decode cX7_owedFor 55 = .ok (.ireturn, 1) := dz_ireturn (y0 zE_cX7_owedFor 0 55 (by decide +kernel))
theorem gd_wsX7_extraOf : wsX7_extraOf.all goodWord = true := by decide +kernel
set_option maxRecDepth 20000 in
theorem ggX7_extraOf_X7_has : GoodIn wsX7_extraOf wsX7_has := gi_q gd_wsX7_extraOf _ [(8, 1)] rfl
set_option maxRecDepth 20000 in
theorem gX7_extraOf_X7_has : GoodIn wsX7_extraOf (va_wsS RX7 153 yX7_has wsX7_has) := goodIn_app (gi_q gd_wsX7_extraOf _ [(5, 3)] rfl) ggX7_extraOf_X7_has
set_option maxRecDepth 20000 in
theorem ggX7_extraOf_X6_quarters : GoodIn wsX7_extraOf wsX6_quarters := gi_q gd_wsX7_extraOf _ [(13, 8), (36, 12)] rfl
set_option maxRecDepth 20000 in
theorem gX7_extraOf_X6_quarters : GoodIn wsX7_extraOf (wsV RX7 287 RX6 yX6_quarters wsX6_quarters) := goodIn_app (gi_q gd_wsX7_extraOf _ [(9, 4)] rfl) ggX7_extraOf_X6_quarters
def zT_cX7_extraOf : List (List Nat) := [[3, 61, 3, 62, 29, 42, 180, 0, 44, 162, 0, 32, 43, 180, 0, 239, 29, 184, 0, 153, 153, 0, 15, 28, 42, 180, 0, 11, 29, 50, 180, 0, 120, 96, 61, 132, 3, 1, 167, 255, 222, 43, 182, 1, 31, 28, 104, 7, 108, 172]]
theorem zE_cX7_extraOf : zTab cX7_extraOf.data.toList zT_cX7_extraOf = true := by decide +kernel
theorem dX7_extraOf_0 : decode cX7_extraOf 0 = .ok (.iconst 0, 1) := dz_iconst_0 (y0 zE_cX7_extraOf 0 0 (by decide +kernel))
theorem dX7_extraOf_1 : decode cX7_extraOf 1 = .ok (.istore_n 2, 1) := dz_istore_n_2 (y0 zE_cX7_extraOf 0 1 (by decide +kernel))
theorem dX7_extraOf_2 : decode cX7_extraOf 2 = .ok (.iconst 0, 1) := dz_iconst_0 (y0 zE_cX7_extraOf 0 2 (by decide +kernel))
theorem dX7_extraOf_3 : decode cX7_extraOf 3 = .ok (.istore_n 3, 1) := dz_istore_n_3 (y0 zE_cX7_extraOf 0 3 (by decide +kernel))
theorem dX7_extraOf_4 : decode cX7_extraOf 4 = .ok (.iload_n 3, 1) := dz_iload_n_3 (y0 zE_cX7_extraOf 0 4 (by decide +kernel))
theorem dX7_extraOf_5 : decode cX7_extraOf 5 = .ok (.aload_n 0, 1) := dz_aload_n_0 (y0 zE_cX7_extraOf 0 5 (by decide +kernel))
theorem dX7_extraOf_6 : decode cX7_extraOf 6 = .ok (.getfield 44, 3) := dz_getfield (yu2 zE_cX7_extraOf 0 6 (by decide +kernel))
theorem dX7_extraOf_9 : decode cX7_extraOf 9 = .ok (.if_icmp .ge 32, 3) := dz_if_icmp_ge (ys2 zE_cX7_extraOf 0 9 (by decide +kernel))
theorem dX7_extraOf_12 : decode cX7_extraOf 12 = .ok (.aload_n 1, 1) := dz_aload_n_1 (y0 zE_cX7_extraOf 0 12 (by decide +kernel))
theorem dX7_extraOf_13 : decode cX7_extraOf 13 = .ok (.getfield 239, 3) := dz_getfield (yu2 zE_cX7_extraOf 0 13 (by decide +kernel))
theorem dX7_extraOf_16 : decode cX7_extraOf 16 = .ok (.iload_n 3, 1) := dz_iload_n_3 (y0 zE_cX7_extraOf 0 16 (by decide +kernel))
theorem dX7_extraOf_17 : decode cX7_extraOf 17 = .ok (.invokestatic 153, 3) := dz_invokestatic (yu2 zE_cX7_extraOf 0 17 (by decide +kernel))
theorem dX7_extraOf_20 : decode cX7_extraOf 20 = .ok (.ifCond .eq 15, 3) := dz_ifCond_eq (ys2 zE_cX7_extraOf 0 20 (by decide +kernel))
theorem dX7_extraOf_23 : decode cX7_extraOf 23 = .ok (.iload_n 2, 1) := dz_iload_n_2 (y0 zE_cX7_extraOf 0 23 (by decide +kernel))
theorem dX7_extraOf_24 : decode cX7_extraOf 24 = .ok (.aload_n 0, 1) := dz_aload_n_0 (y0 zE_cX7_extraOf 0 24 (by decide +kernel))
theorem dX7_extraOf_25 : decode cX7_extraOf 25 = .ok (.getfield 11, 3) := dz_getfield (yu2 zE_cX7_extraOf 0 25 (by decide +kernel))
theorem dX7_extraOf_28 : decode cX7_extraOf 28 = .ok (.iload_n 3, 1) := dz_iload_n_3 (y0 zE_cX7_extraOf 0 28 (by decide +kernel))
theorem dX7_extraOf_29 : decode cX7_extraOf 29 = .ok (.aaload, 1) := dz_aaload (y0 zE_cX7_extraOf 0 29 (by decide +kernel))
theorem dX7_extraOf_30 : decode cX7_extraOf 30 = .ok (.getfield 120, 3) := dz_getfield (yu2 zE_cX7_extraOf 0 30 (by decide +kernel))
theorem dX7_extraOf_33 : decode cX7_extraOf 33 = .ok (.iadd, 1) := dz_iadd (y0 zE_cX7_extraOf 0 33 (by decide +kernel))
theorem dX7_extraOf_34 : decode cX7_extraOf 34 = .ok (.istore_n 2, 1) := dz_istore_n_2 (y0 zE_cX7_extraOf 0 34 (by decide +kernel))
theorem dX7_extraOf_35 : decode cX7_extraOf 35 = .ok (.iinc 3 1, 3) := dz_iinc (yii zE_cX7_extraOf 0 35 (by decide +kernel))
theorem dX7_extraOf_38 : decode cX7_extraOf 38 = .ok (.goto (-34), 3) := dz_goto (ys2 zE_cX7_extraOf 0 38 (by decide +kernel))
theorem dX7_extraOf_41 : decode cX7_extraOf 41 = .ok (.aload_n 1, 1) := dz_aload_n_1 (y0 zE_cX7_extraOf 0 41 (by decide +kernel))
theorem dX7_extraOf_42 : decode cX7_extraOf 42 = .ok (.invokevirtual 287, 3) := dz_invokevirtual (yu2 zE_cX7_extraOf 0 42 (by decide +kernel))
theorem dX7_extraOf_45 : decode cX7_extraOf 45 = .ok (.iload_n 2, 1) := dz_iload_n_2 (y0 zE_cX7_extraOf 0 45 (by decide +kernel))
theorem dX7_extraOf_46 : decode cX7_extraOf 46 = .ok (.imul, 1) := dz_imul (y0 zE_cX7_extraOf 0 46 (by decide +kernel))
theorem dX7_extraOf_47 : decode cX7_extraOf 47 = .ok (.iconst 4, 1) := dz_iconst_4 (y0 zE_cX7_extraOf 0 47 (by decide +kernel))
theorem dX7_extraOf_48 : decode cX7_extraOf 48 = .ok (.idiv, 1) := dz_idiv (y0 zE_cX7_extraOf 0 48 (by decide +kernel))
theorem dX7_extraOf_49 : decode cX7_extraOf 49 = .ok (.ireturn, 1) := dz_ireturn (y0 zE_cX7_extraOf 0 49 (by decide +kernel))
theorem gd_wsX7_costAt : wsX7_costAt.all goodWord = true := by decide +kernel
set_option maxRecDepth 20000 in
theorem ggX7_costAt_X4_between : GoodIn wsX7_costAt wsX4_between := gi_q gd_wsX7_costAt _ [(14, 2), (51, 2)] rfl
set_option maxRecDepth 20000 in
theorem gX7_costAt_X4_between : GoodIn wsX7_costAt (wsV RX7 166 RX4 yX4_between wsX4_between) := goodIn_app (gi_q gd_wsX7_costAt _ [(10, 4)] rfl) ggX7_costAt_X4_between
def zT_cX7_costAt : List (List Nat) := [[42, 180, 0, 36, 43, 180, 0, 117, 44, 180, 0, 199, 182, 0, 166, 62, 43, 180, 0, 120, 44, 180, 0, 205, 104, 16, 10, 3, 29, 184, 1, 7, 104, 96, 172]]
theorem zE_cX7_costAt : zTab cX7_costAt.data.toList zT_cX7_costAt = true := by decide +kernel
theorem dX7_costAt_0 : decode cX7_costAt 0 = .ok (.aload_n 0, 1) := dz_aload_n_0 (y0 zE_cX7_costAt 0 0 (by decide +kernel))
theorem dX7_costAt_1 : decode cX7_costAt 1 = .ok (.getfield 36, 3) := dz_getfield (yu2 zE_cX7_costAt 0 1 (by decide +kernel))
theorem dX7_costAt_4 : decode cX7_costAt 4 = .ok (.aload_n 1, 1) := dz_aload_n_1 (y0 zE_cX7_costAt 0 4 (by decide +kernel))
theorem dX7_costAt_5 : decode cX7_costAt 5 = .ok (.getfield 117, 3) := dz_getfield (yu2 zE_cX7_costAt 0 5 (by decide +kernel))
theorem dX7_costAt_8 : decode cX7_costAt 8 = .ok (.aload_n 2, 1) := dz_aload_n_2 (y0 zE_cX7_costAt 0 8 (by decide +kernel))
theorem dX7_costAt_9 : decode cX7_costAt 9 = .ok (.getfield 199, 3) := dz_getfield (yu2 zE_cX7_costAt 0 9 (by decide +kernel))
theorem dX7_costAt_12 : decode cX7_costAt 12 = .ok (.invokevirtual 166, 3) := dz_invokevirtual (yu2 zE_cX7_costAt 0 12 (by decide +kernel))
theorem dX7_costAt_15 : decode cX7_costAt 15 = .ok (.istore_n 3, 1) := dz_istore_n_3 (y0 zE_cX7_costAt 0 15 (by decide +kernel))
theorem dX7_costAt_16 : decode cX7_costAt 16 = .ok (.aload_n 1, 1) := dz_aload_n_1 (y0 zE_cX7_costAt 0 16 (by decide +kernel))
theorem dX7_costAt_17 : decode cX7_costAt 17 = .ok (.getfield 120, 3) := dz_getfield (yu2 zE_cX7_costAt 0 17 (by decide +kernel))
theorem dX7_costAt_20 : decode cX7_costAt 20 = .ok (.aload_n 2, 1) := dz_aload_n_2 (y0 zE_cX7_costAt 0 20 (by decide +kernel))
theorem dX7_costAt_21 : decode cX7_costAt 21 = .ok (.getfield 205, 3) := dz_getfield (yu2 zE_cX7_costAt 0 21 (by decide +kernel))
theorem dX7_costAt_24 : decode cX7_costAt 24 = .ok (.imul, 1) := dz_imul (y0 zE_cX7_costAt 0 24 (by decide +kernel))
theorem dX7_costAt_25 : decode cX7_costAt 25 = .ok (.bipush 10, 2) := dz_bipush (ys1 zE_cX7_costAt 0 25 (by decide +kernel))
theorem dX7_costAt_27 : decode cX7_costAt 27 = .ok (.iconst 0, 1) := dz_iconst_0 (y0 zE_cX7_costAt 0 27 (by decide +kernel))
theorem dX7_costAt_28 : decode cX7_costAt 28 = .ok (.iload_n 3, 1) := dz_iload_n_3 (y0 zE_cX7_costAt 0 28 (by decide +kernel))
theorem dX7_costAt_29 : decode cX7_costAt 29 = .ok (.invokestatic 263, 3) := dz_invokestatic (yu2 zE_cX7_costAt 0 29 (by decide +kernel))
theorem dX7_costAt_32 : decode cX7_costAt 32 = .ok (.imul, 1) := dz_imul (y0 zE_cX7_costAt 0 32 (by decide +kernel))
theorem dX7_costAt_33 : decode cX7_costAt 33 = .ok (.iadd, 1) := dz_iadd (y0 zE_cX7_costAt 0 33 (by decide +kernel))
theorem dX7_costAt_34 : decode cX7_costAt 34 = .ok (.ireturn, 1) := dz_ireturn (y0 zE_cX7_costAt 0 34 (by decide +kernel))
theorem gd_wsX7_wageAt : wsX7_wageAt.all goodWord = true := by decide +kernel
set_option maxRecDepth 20000 in
theorem ggX7_wageAt_X7_costAt : GoodIn wsX7_wageAt wsX7_costAt := gi_q gd_wsX7_wageAt _ [(6, 4), (1, 1), (10, 11), (40, 15), (32, 8), (55, 14)] rfl
set_option maxRecDepth 20000 in
theorem gX7_wageAt_X7_costAt : GoodIn wsX7_wageAt (wsV RX7 504 RX7 yX7_costAt wsX7_costAt) := goodIn_app (gi_q gd_wsX7_wageAt _ [(2, 4)] rfl) ggX7_wageAt_X7_costAt
set_option maxRecDepth 20000 in
theorem ggX7_wageAt_X6_quarters : GoodIn wsX7_wageAt wsX6_quarters := gi_q gd_wsX7_wageAt _ [(25, 6), (13, 1), (31, 1), (55, 12)] rfl
set_option maxRecDepth 20000 in
theorem gX7_wageAt_X6_quarters : GoodIn wsX7_wageAt (wsV RX7 287 RX6 yX6_quarters wsX6_quarters) := goodIn_app (gi_q gd_wsX7_wageAt _ [(21, 4)] rfl) ggX7_wageAt_X6_quarters
theorem dX7_wageAt_0 : decode cX7_wageAt 0 = .ok (.aload_n 0, 1) := dkT (by decide +kernel)
theorem dX7_wageAt_1 : decode cX7_wageAt 1 = .ok (.aload_n 1, 1) := dkT (by decide +kernel)
theorem dX7_wageAt_2 : decode cX7_wageAt 2 = .ok (.aload_n 2, 1) := dkT (by decide +kernel)
theorem dX7_wageAt_3 : decode cX7_wageAt 3 = .ok (.invokevirtual 504, 3) := dkT (by decide +kernel)
theorem dX7_wageAt_6 : decode cX7_wageAt 6 = .ok (.aload_n 2, 1) := dkT (by decide +kernel)
theorem dX7_wageAt_7 : decode cX7_wageAt 7 = .ok (.invokevirtual 287, 3) := dkT (by decide +kernel)
theorem dX7_wageAt_10 : decode cX7_wageAt 10 = .ok (.aload_n 1, 1) := dkT (by decide +kernel)
theorem dX7_wageAt_11 : decode cX7_wageAt 11 = .ok (.getfield 120, 3) := dkT (by decide +kernel)
theorem dX7_wageAt_14 : decode cX7_wageAt 14 = .ok (.imul, 1) := dkT (by decide +kernel)
theorem dX7_wageAt_15 : decode cX7_wageAt 15 = .ok (.iconst 4, 1) := dkT (by decide +kernel)
theorem dX7_wageAt_16 : decode cX7_wageAt 16 = .ok (.idiv, 1) := dkT (by decide +kernel)
theorem dX7_wageAt_17 : decode cX7_wageAt 17 = .ok (.iadd, 1) := dkT (by decide +kernel)
theorem dX7_wageAt_18 : decode cX7_wageAt 18 = .ok (.ireturn, 1) := dkT (by decide +kernel)
theorem gd_wsX7_allWagesAt : wsX7_allWagesAt.all goodWord = true := by decide +kernel
set_option maxRecDepth 20000 in
theorem ggX7_allWagesAt_X7_has : GoodIn wsX7_allWagesAt wsX7_has := gi_q gd_wsX7_allWagesAt _ [(7, 1)] rfl
set_option maxRecDepth 20000 in
theorem gX7_allWagesAt_X7_has : GoodIn wsX7_allWagesAt (va_wsS RX7 153 yX7_has wsX7_has) := goodIn_app (gi_q gd_wsX7_allWagesAt _ [(4, 3)] rfl) ggX7_allWagesAt_X7_has
set_option maxRecDepth 20000 in
theorem ggX7_allWagesAt_X7_wageAt : GoodIn wsX7_allWagesAt wsX7_wageAt := gi_q gd_wsX7_allWagesAt _ [(11, 5), (6, 1), (16, 26), (69, 8), (42, 27), (77, 2)] rfl
set_option maxRecDepth 20000 in
theorem gX7_allWagesAt_X7_wageAt : GoodIn wsX7_allWagesAt (wsV RX7 500 RX7 yX7_wageAt wsX7_wageAt) := goodIn_app (gi_q gd_wsX7_allWagesAt _ [(8, 3), (6, 1)] rfl) ggX7_allWagesAt_X7_wageAt
def zT_cX7_allWagesAt : List (List Nat) := [[3, 61, 3, 62, 29, 42, 180, 0, 44, 162, 0, 34, 43, 180, 0, 239, 29, 184, 0, 153, 153, 0, 17, 28, 42, 42, 180, 0, 11, 29, 50, 43, 182, 1, 244, 96, 61, 132, 3, 1, 167, 255, 220, 28, 172]]
theorem zE_cX7_allWagesAt : zTab cX7_allWagesAt.data.toList zT_cX7_allWagesAt = true := by decide +kernel
theorem dX7_allWagesAt_0 : decode cX7_allWagesAt 0 = .ok (.iconst 0, 1) := dz_iconst_0 (y0 zE_cX7_allWagesAt 0 0 (by decide +kernel))
theorem dX7_allWagesAt_1 : decode cX7_allWagesAt 1 = .ok (.istore_n 2, 1) := dz_istore_n_2 (y0 zE_cX7_allWagesAt 0 1 (by decide +kernel))
theorem dX7_allWagesAt_2 : decode cX7_allWagesAt 2 = .ok (.iconst 0, 1) := dz_iconst_0 (y0 zE_cX7_allWagesAt 0 2 (by decide +kernel))
theorem dX7_allWagesAt_3 : decode cX7_allWagesAt 3 = .ok (.istore_n 3, 1) := dz_istore_n_3 (y0 zE_cX7_allWagesAt 0 3 (by decide +kernel))
theorem dX7_allWagesAt_4 : decode cX7_allWagesAt 4 = .ok (.iload_n 3, 1) := dz_iload_n_3 (y0 zE_cX7_allWagesAt 0 4 (by decide +kernel))
theorem dX7_allWagesAt_5 : decode cX7_allWagesAt 5 = .ok (.aload_n 0, 1) := dz_aload_n_0 (y0 zE_cX7_allWagesAt 0 5 (by decide +kernel))
theorem dX7_allWagesAt_6 : decode cX7_allWagesAt 6 = .ok (.getfield 44, 3) := dz_getfield (yu2 zE_cX7_allWagesAt 0 6 (by decide +kernel))
theorem dX7_allWagesAt_9 : decode cX7_allWagesAt 9 = .ok (.if_icmp .ge 34, 3) := dz_if_icmp_ge (ys2 zE_cX7_allWagesAt 0 9 (by decide +kernel))
theorem dX7_allWagesAt_12 : decode cX7_allWagesAt 12 = .ok (.aload_n 1, 1) := dz_aload_n_1 (y0 zE_cX7_allWagesAt 0 12 (by decide +kernel))
theorem dX7_allWagesAt_13 : decode cX7_allWagesAt 13 = .ok (.getfield 239, 3) := dz_getfield (yu2 zE_cX7_allWagesAt 0 13 (by decide +kernel))
theorem dX7_allWagesAt_16 : decode cX7_allWagesAt 16 = .ok (.iload_n 3, 1) := dz_iload_n_3 (y0 zE_cX7_allWagesAt 0 16 (by decide +kernel))
theorem dX7_allWagesAt_17 : decode cX7_allWagesAt 17 = .ok (.invokestatic 153, 3) := dz_invokestatic (yu2 zE_cX7_allWagesAt 0 17 (by decide +kernel))
theorem dX7_allWagesAt_20 : decode cX7_allWagesAt 20 = .ok (.ifCond .eq 17, 3) := dz_ifCond_eq (ys2 zE_cX7_allWagesAt 0 20 (by decide +kernel))
theorem dX7_allWagesAt_23 : decode cX7_allWagesAt 23 = .ok (.iload_n 2, 1) := dz_iload_n_2 (y0 zE_cX7_allWagesAt 0 23 (by decide +kernel))
theorem dX7_allWagesAt_24 : decode cX7_allWagesAt 24 = .ok (.aload_n 0, 1) := dz_aload_n_0 (y0 zE_cX7_allWagesAt 0 24 (by decide +kernel))
theorem dX7_allWagesAt_25 : decode cX7_allWagesAt 25 = .ok (.aload_n 0, 1) := dz_aload_n_0 (y0 zE_cX7_allWagesAt 0 25 (by decide +kernel))
theorem dX7_allWagesAt_26 : decode cX7_allWagesAt 26 = .ok (.getfield 11, 3) := dz_getfield (yu2 zE_cX7_allWagesAt 0 26 (by decide +kernel))
theorem dX7_allWagesAt_29 : decode cX7_allWagesAt 29 = .ok (.iload_n 3, 1) := dz_iload_n_3 (y0 zE_cX7_allWagesAt 0 29 (by decide +kernel))
theorem dX7_allWagesAt_30 : decode cX7_allWagesAt 30 = .ok (.aaload, 1) := dz_aaload (y0 zE_cX7_allWagesAt 0 30 (by decide +kernel))
theorem dX7_allWagesAt_31 : decode cX7_allWagesAt 31 = .ok (.aload_n 1, 1) := dz_aload_n_1 (y0 zE_cX7_allWagesAt 0 31 (by decide +kernel))
theorem dX7_allWagesAt_32 : decode cX7_allWagesAt 32 = .ok (.invokevirtual 500, 3) := dz_invokevirtual (yu2 zE_cX7_allWagesAt 0 32 (by decide +kernel))
theorem dX7_allWagesAt_35 : decode cX7_allWagesAt 35 = .ok (.iadd, 1) := dz_iadd (y0 zE_cX7_allWagesAt 0 35 (by decide +kernel))
theorem dX7_allWagesAt_36 : decode cX7_allWagesAt 36 = .ok (.istore_n 2, 1) := dz_istore_n_2 (y0 zE_cX7_allWagesAt 0 36 (by decide +kernel))
theorem dX7_allWagesAt_37 : decode cX7_allWagesAt 37 = .ok (.iinc 3 1, 3) := dz_iinc (yii zE_cX7_allWagesAt 0 37 (by decide +kernel))
theorem dX7_allWagesAt_40 : decode cX7_allWagesAt 40 = .ok (.goto (-36), 3) := dz_goto (ys2 zE_cX7_allWagesAt 0 40 (by decide +kernel))
theorem dX7_allWagesAt_43 : decode cX7_allWagesAt 43 = .ok (.iload_n 2, 1) := dz_iload_n_2 (y0 zE_cX7_allWagesAt 0 43 (by decide +kernel))
theorem dX7_allWagesAt_44 : decode cX7_allWagesAt 44 = .ok (.ireturn, 1) := dz_ireturn (y0 zE_cX7_allWagesAt 0 44 (by decide +kernel))
def zT_cX7_stageAsFixed : List (List Nat) := [[3, 60, 27, 42, 180, 0, 51, 162, 0, 41, 42, 180, 0, 60, 27, 42, 180, 0, 29, 27, 50, 180, 0, 233, 4, 160, 0, 15, 42, 180, 0, 29, 27, 50, 180, 0, 239, 167, 0, 4, 3, 79, 132, 1, 1, 167, 255, 213, 177]]
theorem zE_cX7_stageAsFixed : zTab cX7_stageAsFixed.data.toList zT_cX7_stageAsFixed = true := by decide +kernel
theorem dX7_stageAsFixed_0 : decode cX7_stageAsFixed 0 = .ok (.iconst 0, 1) := dz_iconst_0 (y0 zE_cX7_stageAsFixed 0 0 (by decide +kernel))
theorem dX7_stageAsFixed_1 : decode cX7_stageAsFixed 1 = .ok (.istore_n 1, 1) := dz_istore_n_1 (y0 zE_cX7_stageAsFixed 0 1 (by decide +kernel))
theorem dX7_stageAsFixed_2 : decode cX7_stageAsFixed 2 = .ok (.iload_n 1, 1) := dz_iload_n_1 (y0 zE_cX7_stageAsFixed 0 2 (by decide +kernel))
theorem dX7_stageAsFixed_3 : decode cX7_stageAsFixed 3 = .ok (.aload_n 0, 1) := dz_aload_n_0 (y0 zE_cX7_stageAsFixed 0 3 (by decide +kernel))
theorem dX7_stageAsFixed_4 : decode cX7_stageAsFixed 4 = .ok (.getfield 51, 3) := dz_getfield (yu2 zE_cX7_stageAsFixed 0 4 (by decide +kernel))
theorem dX7_stageAsFixed_7 : decode cX7_stageAsFixed 7 = .ok (.if_icmp .ge 41, 3) := dz_if_icmp_ge (ys2 zE_cX7_stageAsFixed 0 7 (by decide +kernel))
theorem dX7_stageAsFixed_10 : decode cX7_stageAsFixed 10 = .ok (.aload_n 0, 1) := dz_aload_n_0 (y0 zE_cX7_stageAsFixed 0 10 (by decide +kernel))
theorem dX7_stageAsFixed_11 : decode cX7_stageAsFixed 11 = .ok (.getfield 60, 3) := dz_getfield (yu2 zE_cX7_stageAsFixed 0 11 (by decide +kernel))
theorem dX7_stageAsFixed_14 : decode cX7_stageAsFixed 14 = .ok (.iload_n 1, 1) := dz_iload_n_1 (y0 zE_cX7_stageAsFixed 0 14 (by decide +kernel))
theorem dX7_stageAsFixed_15 : decode cX7_stageAsFixed 15 = .ok (.aload_n 0, 1) := dz_aload_n_0 (y0 zE_cX7_stageAsFixed 0 15 (by decide +kernel))
theorem dX7_stageAsFixed_16 : decode cX7_stageAsFixed 16 = .ok (.getfield 29, 3) := dz_getfield (yu2 zE_cX7_stageAsFixed 0 16 (by decide +kernel))
theorem dX7_stageAsFixed_19 : decode cX7_stageAsFixed 19 = .ok (.iload_n 1, 1) := dz_iload_n_1 (y0 zE_cX7_stageAsFixed 0 19 (by decide +kernel))
theorem dX7_stageAsFixed_20 : decode cX7_stageAsFixed 20 = .ok (.aaload, 1) := dz_aaload (y0 zE_cX7_stageAsFixed 0 20 (by decide +kernel))
theorem dX7_stageAsFixed_21 : decode cX7_stageAsFixed 21 = .ok (.getfield 233, 3) := dz_getfield (yu2 zE_cX7_stageAsFixed 0 21 (by decide +kernel))
theorem dX7_stageAsFixed_24 : decode cX7_stageAsFixed 24 = .ok (.iconst 1, 1) := dz_iconst_1 (y0 zE_cX7_stageAsFixed 0 24 (by decide +kernel))
theorem dX7_stageAsFixed_25 : decode cX7_stageAsFixed 25 = .ok (.if_icmp .ne 15, 3) := dz_if_icmp_ne (ys2 zE_cX7_stageAsFixed 0 25 (by decide +kernel))
theorem dX7_stageAsFixed_28 : decode cX7_stageAsFixed 28 = .ok (.aload_n 0, 1) := dz_aload_n_0 (y0 zE_cX7_stageAsFixed 0 28 (by decide +kernel))
theorem dX7_stageAsFixed_29 : decode cX7_stageAsFixed 29 = .ok (.getfield 29, 3) := dz_getfield (yu2 zE_cX7_stageAsFixed 0 29 (by decide +kernel))
theorem dX7_stageAsFixed_32 : decode cX7_stageAsFixed 32 = .ok (.iload_n 1, 1) := dz_iload_n_1 (y0 zE_cX7_stageAsFixed 0 32 (by decide +kernel))
theorem dX7_stageAsFixed_33 : decode cX7_stageAsFixed 33 = .ok (.aaload, 1) := dz_aaload (y0 zE_cX7_stageAsFixed 0 33 (by decide +kernel))
theorem dX7_stageAsFixed_34 : decode cX7_stageAsFixed 34 = .ok (.getfield 239, 3) := dz_getfield (yu2 zE_cX7_stageAsFixed 0 34 (by decide +kernel))
theorem dX7_stageAsFixed_37 : decode cX7_stageAsFixed 37 = .ok (.goto 4, 3) := dz_goto (ys2 zE_cX7_stageAsFixed 0 37 (by decide +kernel))
theorem dX7_stageAsFixed_40 : decode cX7_stageAsFixed 40 = .ok (.iconst 0, 1) := dz_iconst_0 (y0 zE_cX7_stageAsFixed 0 40 (by decide +kernel))
theorem dX7_stageAsFixed_41 : decode cX7_stageAsFixed 41 = .ok (.iastore, 1) := dz_iastore (y0 zE_cX7_stageAsFixed 0 41 (by decide +kernel))
theorem dX7_stageAsFixed_42 : decode cX7_stageAsFixed 42 = .ok (.iinc 1 1, 3) := dz_iinc (yii zE_cX7_stageAsFixed 0 42 (by decide +kernel))
theorem dX7_stageAsFixed_45 : decode cX7_stageAsFixed 45 = .ok (.goto (-43), 3) := dz_goto (ys2 zE_cX7_stageAsFixed 0 45 (by decide +kernel))
theorem dX7_stageAsFixed_48 : decode cX7_stageAsFixed 48 = .ok (.return_, 1) := dz_return (y0 zE_cX7_stageAsFixed 0 48 (by decide +kernel))
theorem gd_wsX7_stageWithout : wsX7_stageWithout.all goodWord = true := by decide +kernel
set_option maxRecDepth 20000 in
theorem ggX7_stageWithout_X7_stageAsFixed : GoodIn wsX7_stageWithout wsX7_stageAsFixed := gi_q gd_wsX7_stageWithout _ [(12, 1), (1, 1), (4, 1), (2, 1), (13, 2), (112, 27)] rfl
set_option maxRecDepth 20000 in
theorem gX7_stageWithout_X7_stageAsFixed : GoodIn wsX7_stageWithout (wsV RX7 342 RX7 yX7_stageAsFixed wsX7_stageAsFixed) := goodIn_app (gi_q gd_wsX7_stageWithout _ [(8, 4)] rfl) ggX7_stageWithout_X7_stageAsFixed
set_option maxRecDepth 20000 in
theorem ggX7_stageWithout_X7_has : GoodIn wsX7_stageWithout wsX7_has := gi_q gd_wsX7_stageWithout _ [(17, 1)] rfl
set_option maxRecDepth 20000 in
theorem gX7_stageWithout_X7_has : GoodIn wsX7_stageWithout (va_wsS RX7 153 yX7_has wsX7_has) := goodIn_app (gi_q gd_wsX7_stageWithout _ [(15, 2), (11, 1)] rfl) ggX7_stageWithout_X7_has
set_option maxRecDepth 20000 in
theorem ggX7_stageWithout_X7_freeFor : GoodIn wsX7_stageWithout wsX7_freeFor := gi_q gd_wsX7_stageWithout _ [(21, 5), (11, 1), (26, 1), (2, 1), (27, 1), (3, 1), (28, 4), (1, 1), (4, 1), (32, 7), (15, 3), (39, 12), (112, 27), (145, 10)] rfl
set_option maxRecDepth 20000 in
theorem gX7_stageWithout_X7_freeFor : GoodIn wsX7_stageWithout (wsV RX7 507 RX7 yX7_freeFor wsX7_freeFor) := goodIn_app (gi_q gd_wsX7_stageWithout _ [(18, 3), (11, 1)] rfl) ggX7_stageWithout_X7_freeFor
set_option maxRecDepth 20000 in
theorem ggX7_stageWithout_X7_survey : GoodIn wsX7_stageWithout wsX7_survey := gi_q gd_wsX7_stageWithout _ [(54, 1), (2, 1), (55, 3), (5, 1), (22, 1), (58, 2), (6, 1), (60, 15), (11, 1), (75, 5), (29, 1), (80, 9), (15, 3), (89, 18), (28, 1), (30, 2), (107, 1), (50, 1), (36, 2), (34, 1), (38, 7), (108, 31), (155, 3), (139, 16)] rfl
set_option maxRecDepth 20000 in
theorem gX7_stageWithout_X7_survey : GoodIn wsX7_stageWithout (wsV RX7 510 RX7 yX7_survey wsX7_survey) := goodIn_app (gi_q gd_wsX7_stageWithout _ [(51, 3), (11, 1)] rfl) ggX7_stageWithout_X7_survey
