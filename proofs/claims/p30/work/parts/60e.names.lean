theorem dX11_drive_24 : decode cX11_drive 24 = .ok (.iload_n 2, 1) := dz_iload_n_2 (y0 zE_cX11_drive 0 24 (by decide +kernel))
theorem dX11_drive_25 : decode cX11_drive 25 = .ok (.iadd, 1) := dz_iadd (y0 zE_cX11_drive 0 25 (by decide +kernel))
theorem dX11_drive_26 : decode cX11_drive 26 = .ok (.iload_n 1, 1) := dz_iload_n_1 (y0 zE_cX11_drive 0 26 (by decide +kernel))
theorem dX11_drive_27 : decode cX11_drive 27 = .ok (.iload_n 2, 1) := dz_iload_n_2 (y0 zE_cX11_drive 0 27 (by decide +kernel))
theorem dX11_drive_28 : decode cX11_drive 28 = .ok (.if_icmp .ne 7, 3) := dz_if_icmp_ne (ys2 zE_cX11_drive 0 28 (by decide +kernel))
theorem dX11_drive_31 : decode cX11_drive 31 = .ok (.iconst 0, 1) := dz_iconst_0 (y0 zE_cX11_drive 0 31 (by decide +kernel))
theorem dX11_drive_32 : decode cX11_drive 32 = .ok (.goto 32, 3) := dz_goto (ys2 zE_cX11_drive 0 32 (by decide +kernel))
theorem dX11_drive_35 : decode cX11_drive 35 = .ok (.aload_n 0, 1) := dz_aload_n_0 (y0 zE_cX11_drive 0 35 (by decide +kernel))
theorem dX11_drive_36 : decode cX11_drive 36 = .ok (.getfield 35, 3) := dz_getfield (yu2 zE_cX11_drive 0 36 (by decide +kernel))
theorem dX11_drive_39 : decode cX11_drive 39 = .ok (.iload_n 1, 1) := dz_iload_n_1 (y0 zE_cX11_drive 0 39 (by decide +kernel))
theorem dX11_drive_40 : decode cX11_drive 40 = .ok (.bipush 6, 2) := dz_bipush (ys1 zE_cX11_drive 0 40 (by decide +kernel))
theorem dX11_drive_42 : decode cX11_drive 42 = .ok (.imul, 1) := dz_imul (y0 zE_cX11_drive 0 42 (by decide +kernel))
theorem dX11_drive_43 : decode cX11_drive 43 = .ok (.iload_n 2, 1) := dz_iload_n_2 (y0 zE_cX11_drive 0 43 (by decide +kernel))
theorem dX11_drive_44 : decode cX11_drive 44 = .ok (.iadd, 1) := dz_iadd (y0 zE_cX11_drive 0 44 (by decide +kernel))
theorem dX11_drive_45 : decode cX11_drive 45 = .ok (.iaload, 1) := dz_iaload (y0 zE_cX11_drive 0 45 (by decide +kernel))
theorem dX11_drive_46 : decode cX11_drive 46 = .ok (.ifCond .ne 7, 3) := dz_ifCond_ne (ys2 zE_cX11_drive 0 46 (by decide +kernel))
theorem dX11_drive_49 : decode cX11_drive 49 = .ok (.iconst (-1), 1) := dz_iconst_m1 (y0 zE_cX11_drive 0 49 (by decide +kernel))
theorem dX11_drive_50 : decode cX11_drive 50 = .ok (.goto 14, 3) := dz_goto (ys2 zE_cX11_drive 0 50 (by decide +kernel))
theorem dX11_drive_53 : decode cX11_drive 53 = .ok (.aload_n 0, 1) := dz_aload_n_0 (y0 zE_cX11_drive 0 53 (by decide +kernel))
theorem dX11_drive_54 : decode cX11_drive 54 = .ok (.getfield 35, 3) := dz_getfield (yu2 zE_cX11_drive 0 54 (by decide +kernel))
theorem dX11_drive_57 : decode cX11_drive 57 = .ok (.iload_n 1, 1) := dz_iload_n_1 (y0 zE_cX11_drive 0 57 (by decide +kernel))
theorem dX11_drive_58 : decode cX11_drive 58 = .ok (.bipush 6, 2) := dz_bipush (ys1 zE_cX11_drive 0 58 (by decide +kernel))
theorem dX11_drive_60 : decode cX11_drive 60 = .ok (.imul, 1) := dz_imul (y0 zE_cX11_drive 0 60 (by decide +kernel))
theorem dX11_drive_61 : decode cX11_drive 61 = .ok (.iload_n 2, 1) := dz_iload_n_2 (y0 zE_cX11_drive 0 61 (by decide +kernel))
theorem dX11_drive_62 : decode cX11_drive 62 = .ok (.iadd, 1) := dz_iadd (y0 zE_cX11_drive 0 62 (by decide +kernel))
theorem dX11_drive_63 : decode cX11_drive 63 = .ok (.iaload, 1) := dz_iaload (y0 zE_cX11_drive 0 63 (by decide +kernel))
theorem dX11_drive_64 : decode cX11_drive 64 = .ok (.iastore, 1) := dz_iastore (y0 zE_cX11_drive 1 0 (by decide +kernel))
theorem dX11_drive_65 : decode cX11_drive 65 = .ok (.iinc 2 1, 3) := dz_iinc (yii zE_cX11_drive 1 1 (by decide +kernel))
theorem dX11_drive_68 : decode cX11_drive 68 = .ok (.goto (-58), 3) := dz_goto (ys2 zE_cX11_drive 1 4 (by decide +kernel))
theorem dX11_drive_71 : decode cX11_drive 71 = .ok (.iinc 1 1, 3) := dz_iinc (yii zE_cX11_drive 1 7 (by decide +kernel))
theorem dX11_drive_74 : decode cX11_drive 74 = .ok (.goto (-72), 3) := dz_goto (ys2 zE_cX11_drive 1 10 (by decide +kernel))
theorem dX11_drive_77 : decode cX11_drive 77 = .ok (.iconst 0, 1) := dz_iconst_0 (y0 zE_cX11_drive 1 13 (by decide +kernel))
theorem dX11_drive_78 : decode cX11_drive 78 = .ok (.istore_n 1, 1) := dz_istore_n_1 (y0 zE_cX11_drive 1 14 (by decide +kernel))
theorem dX11_drive_79 : decode cX11_drive 79 = .ok (.iload_n 1, 1) := dz_iload_n_1 (y0 zE_cX11_drive 1 15 (by decide +kernel))
theorem dX11_drive_80 : decode cX11_drive 80 = .ok (.bipush 6, 2) := dz_bipush (ys1 zE_cX11_drive 1 16 (by decide +kernel))
theorem dX11_drive_82 : decode cX11_drive 82 = .ok (.if_icmp .ge 120, 3) := dz_if_icmp_ge (ys2 zE_cX11_drive 1 18 (by decide +kernel))
theorem dX11_drive_85 : decode cX11_drive 85 = .ok (.iconst 0, 1) := dz_iconst_0 (y0 zE_cX11_drive 1 21 (by decide +kernel))
theorem dX11_drive_86 : decode cX11_drive 86 = .ok (.istore_n 2, 1) := dz_istore_n_2 (y0 zE_cX11_drive 1 22 (by decide +kernel))
theorem dX11_drive_87 : decode cX11_drive 87 = .ok (.iload_n 2, 1) := dz_iload_n_2 (y0 zE_cX11_drive 1 23 (by decide +kernel))
theorem dX11_drive_88 : decode cX11_drive 88 = .ok (.bipush 6, 2) := dz_bipush (ys1 zE_cX11_drive 1 24 (by decide +kernel))
theorem dX11_drive_90 : decode cX11_drive 90 = .ok (.if_icmp .ge 106, 3) := dz_if_icmp_ge (ys2 zE_cX11_drive 1 26 (by decide +kernel))
theorem dX11_drive_93 : decode cX11_drive 93 = .ok (.iconst 0, 1) := dz_iconst_0 (y0 zE_cX11_drive 1 29 (by decide +kernel))
theorem dX11_drive_94 : decode cX11_drive 94 = .ok (.istore_n 3, 1) := dz_istore_n_3 (y0 zE_cX11_drive 1 30 (by decide +kernel))
theorem dX11_drive_95 : decode cX11_drive 95 = .ok (.iload_n 3, 1) := dz_iload_n_3 (y0 zE_cX11_drive 1 31 (by decide +kernel))
theorem dX11_drive_96 : decode cX11_drive 96 = .ok (.bipush 6, 2) := dz_bipush (ys1 zE_cX11_drive 1 32 (by decide +kernel))
theorem dX11_drive_98 : decode cX11_drive 98 = .ok (.if_icmp .ge 92, 3) := dz_if_icmp_ge (ys2 zE_cX11_drive 1 34 (by decide +kernel))
theorem dX11_drive_101 : decode cX11_drive 101 = .ok (.aload_n 0, 1) := dz_aload_n_0 (y0 zE_cX11_drive 1 37 (by decide +kernel))
theorem dX11_drive_102 : decode cX11_drive 102 = .ok (.getfield 38, 3) := dz_getfield (yu2 zE_cX11_drive 1 38 (by decide +kernel))
theorem dX11_drive_105 : decode cX11_drive 105 = .ok (.iload_n 2, 1) := dz_iload_n_2 (y0 zE_cX11_drive 1 41 (by decide +kernel))
theorem dX11_drive_106 : decode cX11_drive 106 = .ok (.bipush 6, 2) := dz_bipush (ys1 zE_cX11_drive 1 42 (by decide +kernel))
theorem dX11_drive_108 : decode cX11_drive 108 = .ok (.imul, 1) := dz_imul (y0 zE_cX11_drive 1 44 (by decide +kernel))
theorem dX11_drive_109 : decode cX11_drive 109 = .ok (.iload_n 1, 1) := dz_iload_n_1 (y0 zE_cX11_drive 1 45 (by decide +kernel))
theorem dX11_drive_110 : decode cX11_drive 110 = .ok (.iadd, 1) := dz_iadd (y0 zE_cX11_drive 1 46 (by decide +kernel))
theorem dX11_drive_111 : decode cX11_drive 111 = .ok (.iaload, 1) := dz_iaload (y0 zE_cX11_drive 1 47 (by decide +kernel))
theorem dX11_drive_112 : decode cX11_drive 112 = .ok (.istore 4, 2) := dz_istore (yu1 zE_cX11_drive 1 48 (by decide +kernel))
theorem dX11_drive_114 : decode cX11_drive 114 = .ok (.aload_n 0, 1) := dz_aload_n_0 (y0 zE_cX11_drive 1 50 (by decide +kernel))
theorem dX11_drive_115 : decode cX11_drive 115 = .ok (.getfield 38, 3) := dz_getfield (yu2 zE_cX11_drive 1 51 (by decide +kernel))
theorem dX11_drive_118 : decode cX11_drive 118 = .ok (.iload_n 1, 1) := dz_iload_n_1 (y0 zE_cX11_drive 1 54 (by decide +kernel))
theorem dX11_drive_119 : decode cX11_drive 119 = .ok (.bipush 6, 2) := dz_bipush (ys1 zE_cX11_drive 1 55 (by decide +kernel))
theorem dX11_drive_121 : decode cX11_drive 121 = .ok (.imul, 1) := dz_imul (y0 zE_cX11_drive 1 57 (by decide +kernel))
theorem dX11_drive_122 : decode cX11_drive 122 = .ok (.iload_n 3, 1) := dz_iload_n_3 (y0 zE_cX11_drive 1 58 (by decide +kernel))
theorem dX11_drive_123 : decode cX11_drive 123 = .ok (.iadd, 1) := dz_iadd (y0 zE_cX11_drive 1 59 (by decide +kernel))
theorem dX11_drive_124 : decode cX11_drive 124 = .ok (.iaload, 1) := dz_iaload (y0 zE_cX11_drive 1 60 (by decide +kernel))
theorem dX11_drive_125 : decode cX11_drive 125 = .ok (.istore 5, 2) := dz_istore (yu1 zE_cX11_drive 1 61 (by decide +kernel))
theorem dX11_drive_127 : decode cX11_drive 127 = .ok (.aload_n 0, 1) := dz_aload_n_0 (y0 zE_cX11_drive 1 63 (by decide +kernel))
theorem dX11_drive_128 : decode cX11_drive 128 = .ok (.getfield 38, 3) := dz_getfield (yu2 zE_cX11_drive 2 0 (by decide +kernel))
theorem dX11_drive_131 : decode cX11_drive 131 = .ok (.iload_n 2, 1) := dz_iload_n_2 (y0 zE_cX11_drive 2 3 (by decide +kernel))
theorem dX11_drive_132 : decode cX11_drive 132 = .ok (.bipush 6, 2) := dz_bipush (ys1 zE_cX11_drive 2 4 (by decide +kernel))
theorem dX11_drive_134 : decode cX11_drive 134 = .ok (.imul, 1) := dz_imul (y0 zE_cX11_drive 2 6 (by decide +kernel))
theorem dX11_drive_135 : decode cX11_drive 135 = .ok (.iload_n 3, 1) := dz_iload_n_3 (y0 zE_cX11_drive 2 7 (by decide +kernel))
theorem dX11_drive_136 : decode cX11_drive 136 = .ok (.iadd, 1) := dz_iadd (y0 zE_cX11_drive 2 8 (by decide +kernel))
theorem dX11_drive_137 : decode cX11_drive 137 = .ok (.iaload, 1) := dz_iaload (y0 zE_cX11_drive 2 9 (by decide +kernel))
theorem dX11_drive_138 : decode cX11_drive 138 = .ok (.istore 6, 2) := dz_istore (yu1 zE_cX11_drive 2 10 (by decide +kernel))
theorem dX11_drive_140 : decode cX11_drive 140 = .ok (.iload 4, 2) := dz_iload (yu1 zE_cX11_drive 2 12 (by decide +kernel))
theorem dX11_drive_142 : decode cX11_drive 142 = .ok (.iconst (-1), 1) := dz_iconst_m1 (y0 zE_cX11_drive 2 14 (by decide +kernel))
theorem dX11_drive_143 : decode cX11_drive 143 = .ok (.if_icmp .eq 41, 3) := dz_if_icmp_eq (ys2 zE_cX11_drive 2 15 (by decide +kernel))
theorem dX11_drive_146 : decode cX11_drive 146 = .ok (.iload 5, 2) := dz_iload (yu1 zE_cX11_drive 2 18 (by decide +kernel))
theorem dX11_drive_148 : decode cX11_drive 148 = .ok (.iconst (-1), 1) := dz_iconst_m1 (y0 zE_cX11_drive 2 20 (by decide +kernel))
theorem dX11_drive_149 : decode cX11_drive 149 = .ok (.if_icmp .eq 35, 3) := dz_if_icmp_eq (ys2 zE_cX11_drive 2 21 (by decide +kernel))
theorem dX11_drive_152 : decode cX11_drive 152 = .ok (.iload 6, 2) := dz_iload (yu1 zE_cX11_drive 2 24 (by decide +kernel))
theorem dX11_drive_154 : decode cX11_drive 154 = .ok (.iconst (-1), 1) := dz_iconst_m1 (y0 zE_cX11_drive 2 26 (by decide +kernel))
theorem dX11_drive_155 : decode cX11_drive 155 = .ok (.if_icmp .eq 13, 3) := dz_if_icmp_eq (ys2 zE_cX11_drive 2 27 (by decide +kernel))
theorem dX11_drive_158 : decode cX11_drive 158 = .ok (.iload 4, 2) := dz_iload (yu1 zE_cX11_drive 2 30 (by decide +kernel))
theorem dX11_drive_160 : decode cX11_drive 160 = .ok (.iload 5, 2) := dz_iload (yu1 zE_cX11_drive 2 32 (by decide +kernel))
theorem dX11_drive_162 : decode cX11_drive 162 = .ok (.iadd, 1) := dz_iadd (y0 zE_cX11_drive 2 34 (by decide +kernel))
theorem dX11_drive_163 : decode cX11_drive 163 = .ok (.iload 6, 2) := dz_iload (yu1 zE_cX11_drive 2 35 (by decide +kernel))
theorem dX11_drive_165 : decode cX11_drive 165 = .ok (.if_icmp .ge 19, 3) := dz_if_icmp_ge (ys2 zE_cX11_drive 2 37 (by decide +kernel))
theorem dX11_drive_168 : decode cX11_drive 168 = .ok (.aload_n 0, 1) := dz_aload_n_0 (y0 zE_cX11_drive 2 40 (by decide +kernel))
theorem dX11_drive_169 : decode cX11_drive 169 = .ok (.getfield 38, 3) := dz_getfield (yu2 zE_cX11_drive 2 41 (by decide +kernel))
theorem dX11_drive_172 : decode cX11_drive 172 = .ok (.iload_n 2, 1) := dz_iload_n_2 (y0 zE_cX11_drive 2 44 (by decide +kernel))
theorem dX11_drive_173 : decode cX11_drive 173 = .ok (.bipush 6, 2) := dz_bipush (ys1 zE_cX11_drive 2 45 (by decide +kernel))
theorem dX11_drive_175 : decode cX11_drive 175 = .ok (.imul, 1) := dz_imul (y0 zE_cX11_drive 2 47 (by decide +kernel))
theorem dX11_drive_176 : decode cX11_drive 176 = .ok (.iload_n 3, 1) := dz_iload_n_3 (y0 zE_cX11_drive 2 48 (by decide +kernel))
theorem dX11_drive_177 : decode cX11_drive 177 = .ok (.iadd, 1) := dz_iadd (y0 zE_cX11_drive 2 49 (by decide +kernel))
theorem dX11_drive_178 : decode cX11_drive 178 = .ok (.iload 4, 2) := dz_iload (yu1 zE_cX11_drive 2 50 (by decide +kernel))
theorem dX11_drive_180 : decode cX11_drive 180 = .ok (.iload 5, 2) := dz_iload (yu1 zE_cX11_drive 2 52 (by decide +kernel))
theorem dX11_drive_182 : decode cX11_drive 182 = .ok (.iadd, 1) := dz_iadd (y0 zE_cX11_drive 2 54 (by decide +kernel))
theorem dX11_drive_183 : decode cX11_drive 183 = .ok (.iastore, 1) := dz_iastore (y0 zE_cX11_drive 2 55 (by decide +kernel))
theorem dX11_drive_184 : decode cX11_drive 184 = .ok (.iinc 3 1, 3) := dz_iinc (yii zE_cX11_drive 2 56 (by decide +kernel))
theorem dX11_drive_187 : decode cX11_drive 187 = .ok (.goto (-92), 3) := dz_goto (ys2 zE_cX11_drive 2 59 (by decide +kernel))
theorem dX11_drive_190 : decode cX11_drive 190 = .ok (.iinc 2 1, 3) := dz_iinc (yii zE_cX11_drive 2 62 (by decide +kernel))
theorem dX11_drive_193 : decode cX11_drive 193 = .ok (.goto (-106), 3) := dz_goto (ys2 zE_cX11_drive 3 1 (by decide +kernel))
theorem dX11_drive_196 : decode cX11_drive 196 = .ok (.iinc 1 1, 3) := dz_iinc (yii zE_cX11_drive 3 4 (by decide +kernel))
theorem dX11_drive_199 : decode cX11_drive 199 = .ok (.goto (-120), 3) := dz_goto (ys2 zE_cX11_drive 3 7 (by decide +kernel))
theorem dX11_drive_202 : decode cX11_drive 202 = .ok (.return_, 1) := dz_return (y0 zE_cX11_drive 3 10 (by decide +kernel))
theorem dX11_driveOf_0 : decode cX11_driveOf 0 = .ok (.aload_n 0, 1) := dkT (by decide +kernel)
theorem dX11_driveOf_1 : decode cX11_driveOf 1 = .ok (.getfield 38, 3) := dkT (by decide +kernel)
theorem dX11_driveOf_4 : decode cX11_driveOf 4 = .ok (.iload_n 1, 1) := dkT (by decide +kernel)
theorem dX11_driveOf_5 : decode cX11_driveOf 5 = .ok (.bipush 6, 2) := dkT (by decide +kernel)
theorem dX11_driveOf_7 : decode cX11_driveOf 7 = .ok (.imul, 1) := dkT (by decide +kernel)
theorem dX11_driveOf_8 : decode cX11_driveOf 8 = .ok (.iload_n 2, 1) := dkT (by decide +kernel)
theorem dX11_driveOf_9 : decode cX11_driveOf 9 = .ok (.iadd, 1) := dkT (by decide +kernel)
theorem dX11_driveOf_10 : decode cX11_driveOf 10 = .ok (.iaload, 1) := dkT (by decide +kernel)
theorem dX11_driveOf_11 : decode cX11_driveOf 11 = .ok (.ireturn, 1) := dkT (by decide +kernel)
theorem gd_wsX11_road : wsX11_road.all goodWord = true := by decide +kernel
set_option maxRecDepth 20000 in
theorem ggX11_road_X11_isTown : GoodIn wsX11_road wsX11_isTown := gi_q gd_wsX11_road _ [(6, 3), (5, 1), (9, 1)] rfl
set_option maxRecDepth 20000 in
theorem gX11_road_X11_isTown : GoodIn wsX11_road (va_wsS RX11 106 yX11_isTown wsX11_isTown) := goodIn_app (gi_q gd_wsX11_road _ [(3, 3)] rfl) ggX11_road_X11_isTown
set_option maxRecDepth 20000 in
theorem ggX11_road_X11_refuse : GoodIn wsX11_road wsX11_refuse := gi_q gd_wsX11_road _ [(13, 1), (1, 1), (23, 13)] rfl
set_option maxRecDepth 20000 in
theorem gX11_road_X11_refuse : GoodIn wsX11_road (wsV RX11 60 RX11 yX11_refuse wsX11_refuse) := goodIn_app (gi_q gd_wsX11_road _ [(10, 3), (5, 1)] rfl) ggX11_road_X11_refuse
set_option maxRecDepth 20000 in
theorem ggX11_road_X11_is : GoodIn wsX11_road wsX11_is := gi_q gd_wsX11_road _ [(9, 1)] rfl
set_option maxRecDepth 20000 in
theorem gX11_road_X11_is : GoodIn wsX11_road (va_wsS RX11 52 yX11_is wsX11_is) := goodIn_app (gi_q gd_wsX11_road _ [(7, 2), (5, 1)] rfl) ggX11_road_X11_is
set_option maxRecDepth 20000 in
theorem ggX11_road_X11_drive : GoodIn wsX11_road wsX11_drive := gi_q gd_wsX11_road _ [(17, 2), (2, 1), (23, 13)] rfl
set_option maxRecDepth 20000 in
theorem gX11_road_X11_drive : GoodIn wsX11_road (wsV RX11 41 RX11 yX11_drive wsX11_drive) := goodIn_app (gi_q gd_wsX11_road _ [(14, 3), (5, 1)] rfl) ggX11_road_X11_drive
set_option maxRecDepth 20000 in
theorem ggX11_road_X11_driveOf : GoodIn wsX11_road wsX11_driveOf := gi_q gd_wsX11_road _ [(22, 1), (18, 1), (23, 13)] rfl
set_option maxRecDepth 20000 in
theorem gX11_road_X11_driveOf : GoodIn wsX11_road (wsV RX11 109 RX11 yX11_driveOf wsX11_driveOf) := goodIn_app (gi_q gd_wsX11_road _ [(19, 3), (5, 1)] rfl) ggX11_road_X11_driveOf
def zT_cX11_road : List (List Nat) := [[42, 3, 181, 0, 44, 27, 184, 0, 106, 153, 0, 10, 28, 184, 0, 106, 154, 0, 9, 42, 4, 182, 0, 60, 172, 27, 28, 159, 0, 13, 29, 3, 16, 9, 184, 0, 52, 154, 0, 9, 42, 5, 182, 0, 60, 172, 42, 180, 0, 35, 27, 16, 6, 104, 28, 96, 29, 79, 42, 180, 0, 35, 28, 16, 6, 104, 27, 96], [6, 104, 27, 96, 29, 79, 42, 182, 0, 41, 42, 27, 28, 182, 0, 109, 172]]
theorem zE_cX11_road : zTab cX11_road.data.toList zT_cX11_road = true := by decide +kernel
theorem dX11_road_0 : decode cX11_road 0 = .ok (.aload_n 0, 1) := dz_aload_n_0 (y0 zE_cX11_road 0 0 (by decide +kernel))
theorem dX11_road_1 : decode cX11_road 1 = .ok (.iconst 0, 1) := dz_iconst_0 (y0 zE_cX11_road 0 1 (by decide +kernel))
theorem dX11_road_2 : decode cX11_road 2 = .ok (.putfield 44, 3) := dz_putfield (yu2 zE_cX11_road 0 2 (by decide +kernel))
theorem dX11_road_5 : decode cX11_road 5 = .ok (.iload_n 1, 1) := dz_iload_n_1 (y0 zE_cX11_road 0 5 (by decide +kernel))
theorem dX11_road_6 : decode cX11_road 6 = .ok (.invokestatic 106, 3) := dz_invokestatic (yu2 zE_cX11_road 0 6 (by decide +kernel))
theorem dX11_road_9 : decode cX11_road 9 = .ok (.ifCond .eq 10, 3) := dz_ifCond_eq (ys2 zE_cX11_road 0 9 (by decide +kernel))
theorem dX11_road_12 : decode cX11_road 12 = .ok (.iload_n 2, 1) := dz_iload_n_2 (y0 zE_cX11_road 0 12 (by decide +kernel))
theorem dX11_road_13 : decode cX11_road 13 = .ok (.invokestatic 106, 3) := dz_invokestatic (yu2 zE_cX11_road 0 13 (by decide +kernel))
theorem dX11_road_16 : decode cX11_road 16 = .ok (.ifCond .ne 9, 3) := dz_ifCond_ne (ys2 zE_cX11_road 0 16 (by decide +kernel))
theorem dX11_road_19 : decode cX11_road 19 = .ok (.aload_n 0, 1) := dz_aload_n_0 (y0 zE_cX11_road 0 19 (by decide +kernel))
theorem dX11_road_20 : decode cX11_road 20 = .ok (.iconst 1, 1) := dz_iconst_1 (y0 zE_cX11_road 0 20 (by decide +kernel))
theorem dX11_road_21 : decode cX11_road 21 = .ok (.invokevirtual 60, 3) := dz_invokevirtual (yu2 zE_cX11_road 0 21 (by decide +kernel))
theorem dX11_road_24 : decode cX11_road 24 = .ok (.ireturn, 1) := dz_ireturn (y0 zE_cX11_road 0 24 (by decide +kernel))
theorem dX11_road_25 : decode cX11_road 25 = .ok (.iload_n 1, 1) := dz_iload_n_1 (y0 zE_cX11_road 0 25 (by decide +kernel))
theorem dX11_road_26 : decode cX11_road 26 = .ok (.iload_n 2, 1) := dz_iload_n_2 (y0 zE_cX11_road 0 26 (by decide +kernel))
theorem dX11_road_27 : decode cX11_road 27 = .ok (.if_icmp .eq 13, 3) := dz_if_icmp_eq (ys2 zE_cX11_road 0 27 (by decide +kernel))
theorem dX11_road_30 : decode cX11_road 30 = .ok (.iload_n 3, 1) := dz_iload_n_3 (y0 zE_cX11_road 0 30 (by decide +kernel))
theorem dX11_road_31 : decode cX11_road 31 = .ok (.iconst 0, 1) := dz_iconst_0 (y0 zE_cX11_road 0 31 (by decide +kernel))
theorem dX11_road_32 : decode cX11_road 32 = .ok (.bipush 9, 2) := dz_bipush (ys1 zE_cX11_road 0 32 (by decide +kernel))
theorem dX11_road_34 : decode cX11_road 34 = .ok (.invokestatic 52, 3) := dz_invokestatic (yu2 zE_cX11_road 0 34 (by decide +kernel))
theorem dX11_road_37 : decode cX11_road 37 = .ok (.ifCond .ne 9, 3) := dz_ifCond_ne (ys2 zE_cX11_road 0 37 (by decide +kernel))
theorem dX11_road_40 : decode cX11_road 40 = .ok (.aload_n 0, 1) := dz_aload_n_0 (y0 zE_cX11_road 0 40 (by decide +kernel))
theorem dX11_road_41 : decode cX11_road 41 = .ok (.iconst 2, 1) := dz_iconst_2 (y0 zE_cX11_road 0 41 (by decide +kernel))
theorem dX11_road_42 : decode cX11_road 42 = .ok (.invokevirtual 60, 3) := dz_invokevirtual (yu2 zE_cX11_road 0 42 (by decide +kernel))
theorem dX11_road_45 : decode cX11_road 45 = .ok (.ireturn, 1) := dz_ireturn (y0 zE_cX11_road 0 45 (by decide +kernel))
theorem dX11_road_46 : decode cX11_road 46 = .ok (.aload_n 0, 1) := dz_aload_n_0 (y0 zE_cX11_road 0 46 (by decide +kernel))
theorem dX11_road_47 : decode cX11_road 47 = .ok (.getfield 35, 3) := dz_getfield (yu2 zE_cX11_road 0 47 (by decide +kernel))
theorem dX11_road_50 : decode cX11_road 50 = .ok (.iload_n 1, 1) := dz_iload_n_1 (y0 zE_cX11_road 0 50 (by decide +kernel))
theorem dX11_road_51 : decode cX11_road 51 = .ok (.bipush 6, 2) := dz_bipush (ys1 zE_cX11_road 0 51 (by decide +kernel))
theorem dX11_road_53 : decode cX11_road 53 = .ok (.imul, 1) := dz_imul (y0 zE_cX11_road 0 53 (by decide +kernel))
theorem dX11_road_54 : decode cX11_road 54 = .ok (.iload_n 2, 1) := dz_iload_n_2 (y0 zE_cX11_road 0 54 (by decide +kernel))
theorem dX11_road_55 : decode cX11_road 55 = .ok (.iadd, 1) := dz_iadd (y0 zE_cX11_road 0 55 (by decide +kernel))
theorem dX11_road_56 : decode cX11_road 56 = .ok (.iload_n 3, 1) := dz_iload_n_3 (y0 zE_cX11_road 0 56 (by decide +kernel))
theorem dX11_road_57 : decode cX11_road 57 = .ok (.iastore, 1) := dz_iastore (y0 zE_cX11_road 0 57 (by decide +kernel))
theorem dX11_road_58 : decode cX11_road 58 = .ok (.aload_n 0, 1) := dz_aload_n_0 (y0 zE_cX11_road 0 58 (by decide +kernel))
theorem dX11_road_59 : decode cX11_road 59 = .ok (.getfield 35, 3) := dz_getfield (yu2 zE_cX11_road 0 59 (by decide +kernel))
theorem dX11_road_62 : decode cX11_road 62 = .ok (.iload_n 2, 1) := dz_iload_n_2 (y0 zE_cX11_road 0 62 (by decide +kernel))
theorem dX11_road_63 : decode cX11_road 63 = .ok (.bipush 6, 2) := dz_bipush (ys1 zE_cX11_road 0 63 (by decide +kernel))
theorem dX11_road_65 : decode cX11_road 65 = .ok (.imul, 1) := dz_imul (y0 zE_cX11_road 1 1 (by decide +kernel))
theorem dX11_road_66 : decode cX11_road 66 = .ok (.iload_n 1, 1) := dz_iload_n_1 (y0 zE_cX11_road 1 2 (by decide +kernel))
theorem dX11_road_67 : decode cX11_road 67 = .ok (.iadd, 1) := dz_iadd (y0 zE_cX11_road 1 3 (by decide +kernel))
theorem dX11_road_68 : decode cX11_road 68 = .ok (.iload_n 3, 1) := dz_iload_n_3 (y0 zE_cX11_road 1 4 (by decide +kernel))
theorem dX11_road_69 : decode cX11_road 69 = .ok (.iastore, 1) := dz_iastore (y0 zE_cX11_road 1 5 (by decide +kernel))
theorem dX11_road_70 : decode cX11_road 70 = .ok (.aload_n 0, 1) := dz_aload_n_0 (y0 zE_cX11_road 1 6 (by decide +kernel))
theorem dX11_road_71 : decode cX11_road 71 = .ok (.invokevirtual 41, 3) := dz_invokevirtual (yu2 zE_cX11_road 1 7 (by decide +kernel))
theorem dX11_road_74 : decode cX11_road 74 = .ok (.aload_n 0, 1) := dz_aload_n_0 (y0 zE_cX11_road 1 10 (by decide +kernel))
theorem dX11_road_75 : decode cX11_road 75 = .ok (.iload_n 1, 1) := dz_iload_n_1 (y0 zE_cX11_road 1 11 (by decide +kernel))
theorem dX11_road_76 : decode cX11_road 76 = .ok (.iload_n 2, 1) := dz_iload_n_2 (y0 zE_cX11_road 1 12 (by decide +kernel))
theorem dX11_road_77 : decode cX11_road 77 = .ok (.invokevirtual 109, 3) := dz_invokevirtual (yu2 zE_cX11_road 1 13 (by decide +kernel))
theorem dX11_road_80 : decode cX11_road 80 = .ok (.ireturn, 1) := dz_ireturn (y0 zE_cX11_road 1 16 (by decide +kernel))
theorem dX11_needed_0 : decode cX11_needed 0 = .ok (.iload_n 0, 1) := dkT (by decide +kernel)
theorem dX11_needed_1 : decode cX11_needed 1 = .ok (.istore_n 2, 1) := dkT (by decide +kernel)
theorem dX11_needed_2 : decode cX11_needed 2 = .ok (.iconst 0, 1) := dkT (by decide +kernel)
theorem dX11_needed_3 : decode cX11_needed 3 = .ok (.istore_n 3, 1) := dkT (by decide +kernel)
theorem dX11_needed_4 : decode cX11_needed 4 = .ok (.iload_n 3, 1) := dkT (by decide +kernel)
theorem dX11_needed_5 : decode cX11_needed 5 = .ok (.iload_n 1, 1) := dkT (by decide +kernel)
theorem dX11_needed_6 : decode cX11_needed 6 = .ok (.if_icmp .ge 13, 3) := dkT (by decide +kernel)
theorem dX11_needed_9 : decode cX11_needed 9 = .ok (.iload_n 2, 1) := dkT (by decide +kernel)
theorem dX11_needed_10 : decode cX11_needed 10 = .ok (.iconst 3, 1) := dkT (by decide +kernel)
theorem dX11_needed_11 : decode cX11_needed 11 = .ok (.idiv, 1) := dkT (by decide +kernel)
theorem dX11_needed_12 : decode cX11_needed 12 = .ok (.istore_n 2, 1) := dkT (by decide +kernel)
theorem dX11_needed_13 : decode cX11_needed 13 = .ok (.iinc 3 1, 3) := dkT (by decide +kernel)
theorem dX11_needed_16 : decode cX11_needed 16 = .ok (.goto (-12), 3) := dkT (by decide +kernel)
theorem dX11_needed_19 : decode cX11_needed 19 = .ok (.iload_n 2, 1) := dkT (by decide +kernel)
theorem dX11_needed_20 : decode cX11_needed 20 = .ok (.iconst 3, 1) := dkT (by decide +kernel)
theorem dX11_needed_21 : decode cX11_needed 21 = .ok (.irem, 1) := dkT (by decide +kernel)
theorem dX11_needed_22 : decode cX11_needed 22 = .ok (.ireturn, 1) := dkT (by decide +kernel)
theorem gd_wsX11_needed_ : wsX11_needed_.all goodWord = true := by decide +kernel
set_option maxRecDepth 20000 in
theorem ggX11_needed__X11_needed : GoodIn wsX11_needed_ wsX11_needed := gi_q gd_wsX11_needed_ _ [(4, 1)] rfl
set_option maxRecDepth 20000 in
theorem gX11_needed__X11_needed : GoodIn wsX11_needed_ (va_wsS RX11 113 yX11_needed wsX11_needed) := goodIn_app (gi_q gd_wsX11_needed_ _ [(1, 3)] rfl) ggX11_needed__X11_needed
def zT_cX11_needed_ : List (List Nat) := [[3, 60, 3, 61, 28, 16, 6, 162, 0, 17, 27, 26, 28, 184, 0, 113, 96, 60, 132, 2, 1, 167, 255, 239, 27, 172]]
theorem zE_cX11_needed_ : zTab cX11_needed_.data.toList zT_cX11_needed_ = true := by decide +kernel
theorem dX11_needed__0 : decode cX11_needed_ 0 = .ok (.iconst 0, 1) := dz_iconst_0 (y0 zE_cX11_needed_ 0 0 (by decide +kernel))
theorem dX11_needed__1 : decode cX11_needed_ 1 = .ok (.istore_n 1, 1) := dz_istore_n_1 (y0 zE_cX11_needed_ 0 1 (by decide +kernel))
theorem dX11_needed__2 : decode cX11_needed_ 2 = .ok (.iconst 0, 1) := dz_iconst_0 (y0 zE_cX11_needed_ 0 2 (by decide +kernel))
theorem dX11_needed__3 : decode cX11_needed_ 3 = .ok (.istore_n 2, 1) := dz_istore_n_2 (y0 zE_cX11_needed_ 0 3 (by decide +kernel))
theorem dX11_needed__4 : decode cX11_needed_ 4 = .ok (.iload_n 2, 1) := dz_iload_n_2 (y0 zE_cX11_needed_ 0 4 (by decide +kernel))
theorem dX11_needed__5 : decode cX11_needed_ 5 = .ok (.bipush 6, 2) := dz_bipush (ys1 zE_cX11_needed_ 0 5 (by decide +kernel))
theorem dX11_needed__7 : decode cX11_needed_ 7 = .ok (.if_icmp .ge 17, 3) := dz_if_icmp_ge (ys2 zE_cX11_needed_ 0 7 (by decide +kernel))
theorem dX11_needed__10 : decode cX11_needed_ 10 = .ok (.iload_n 1, 1) := dz_iload_n_1 (y0 zE_cX11_needed_ 0 10 (by decide +kernel))
theorem dX11_needed__11 : decode cX11_needed_ 11 = .ok (.iload_n 0, 1) := dz_iload_n_0 (y0 zE_cX11_needed_ 0 11 (by decide +kernel))
theorem dX11_needed__12 : decode cX11_needed_ 12 = .ok (.iload_n 2, 1) := dz_iload_n_2 (y0 zE_cX11_needed_ 0 12 (by decide +kernel))
theorem dX11_needed__13 : decode cX11_needed_ 13 = .ok (.invokestatic 113, 3) := dz_invokestatic (yu2 zE_cX11_needed_ 0 13 (by decide +kernel))
theorem dX11_needed__16 : decode cX11_needed_ 16 = .ok (.iadd, 1) := dz_iadd (y0 zE_cX11_needed_ 0 16 (by decide +kernel))
theorem dX11_needed__17 : decode cX11_needed_ 17 = .ok (.istore_n 1, 1) := dz_istore_n_1 (y0 zE_cX11_needed_ 0 17 (by decide +kernel))
theorem dX11_needed__18 : decode cX11_needed_ 18 = .ok (.iinc 2 1, 3) := dz_iinc (yii zE_cX11_needed_ 0 18 (by decide +kernel))
theorem dX11_needed__21 : decode cX11_needed_ 21 = .ok (.goto (-17), 3) := dz_goto (ys2 zE_cX11_needed_ 0 21 (by decide +kernel))
theorem dX11_needed__24 : decode cX11_needed_ 24 = .ok (.iload_n 1, 1) := dz_iload_n_1 (y0 zE_cX11_needed_ 0 24 (by decide +kernel))
theorem dX11_needed__25 : decode cX11_needed_ 25 = .ok (.ireturn, 1) := dz_ireturn (y0 zE_cX11_needed_ 0 25 (by decide +kernel))
theorem gd_wsX11_band : wsX11_band.all goodWord = true := by decide +kernel
set_option maxRecDepth 20000 in
theorem ggX11_band_X11_is : GoodIn wsX11_band wsX11_is := gi_q gd_wsX11_band _ [(6, 1)] rfl
set_option maxRecDepth 20000 in
theorem gX11_band_X11_is : GoodIn wsX11_band (va_wsS RX11 52 yX11_is wsX11_is) := goodIn_app (gi_q gd_wsX11_band _ [(3, 3)] rfl) ggX11_band_X11_is
set_option maxRecDepth 20000 in
theorem ggX11_band_X11_needed_ : GoodIn wsX11_band wsX11_needed_ := gi_q gd_wsX11_band _ [(9, 3), (5, 1), (12, 1)] rfl
set_option maxRecDepth 20000 in
theorem gX11_band_X11_needed_ : GoodIn wsX11_band (va_wsS RX11 116 yX11_needed_ wsX11_needed_) := goodIn_app (gi_q gd_wsX11_band _ [(7, 2), (5, 1)] rfl) ggX11_band_X11_needed_
set_option maxRecDepth 20000 in
theorem ggX11_band_X11_refuse : GoodIn wsX11_band wsX11_refuse := gi_q gd_wsX11_band _ [(16, 1), (1, 1), (96, 13)] rfl
set_option maxRecDepth 20000 in
theorem gX11_band_X11_refuse : GoodIn wsX11_band (wsV RX11 60 RX11 yX11_refuse wsX11_refuse) := goodIn_app (gi_q gd_wsX11_band _ [(13, 3), (5, 1)] rfl) ggX11_band_X11_refuse
set_option maxRecDepth 20000 in
theorem ggX11_band_Jx4a65c_size_8abf5 : GoodIn wsX11_band wsJx4a65c_size_8abf5 := gi_q gd_wsX11_band _ [(21, 2), (109, 3)] rfl
set_option maxRecDepth 20000 in
theorem gX11_band_Jx4a65c_size_8abf5 : GoodIn wsX11_band (wsV RX11 48 RJx4a65c yJx4a65c_size_8abf5 wsJx4a65c_size_8abf5) := goodIn_app (gi_q gd_wsX11_band _ [(17, 4)] rfl) ggX11_band_Jx4a65c_size_8abf5
set_option maxRecDepth 20000 in
theorem ggX11_band_J6_valueOf_2dffe : GoodIn wsX11_band wsJ6_valueOf_2dffe := gi_q gd_wsX11_band _ [(26, 5), (25, 1), (31, 11), (112, 1)] rfl
set_option maxRecDepth 20000 in
theorem gX11_band_J6_valueOf_2dffe : GoodIn wsX11_band (va_wsS RX11 118 yJ6_valueOf_2dffe wsJ6_valueOf_2dffe) := goodIn_app (gi_q gd_wsX11_band _ [(23, 3)] rfl) ggX11_band_J6_valueOf_2dffe
set_option maxRecDepth 20000 in
theorem ggX11_band_Jx4a65c_add_9ea2d : GoodIn wsX11_band wsJx4a65c_add_9ea2d := gi_q gd_wsX11_band _ [(45, 4), (22, 1), (49, 3), (20, 1), (52, 44), (109, 3)] rfl
set_option maxRecDepth 20000 in
theorem gX11_band_Jx4a65c_add_9ea2d : GoodIn wsX11_band (wsV RX11 83 RJx4a65c yJx4a65c_add_9ea2d wsJx4a65c_add_9ea2d) := goodIn_app (gi_q gd_wsX11_band _ [(42, 3), (20, 1)] rfl) ggX11_band_Jx4a65c_add_9ea2d
def zT_cX11_band : List (List Nat) := [[42, 3, 181, 0, 44, 27, 4, 17, 2, 216, 184, 0, 52, 153, 0, 11, 27, 184, 0, 116, 8, 164, 0, 9, 42, 4, 182, 0, 60, 172, 42, 180, 0, 16, 182, 0, 48, 16, 6, 160, 0, 9, 42, 5, 182, 0, 60, 172, 42, 180, 0, 16, 27, 184, 0, 118, 182, 0, 83, 87, 42, 180, 0, 16, 182, 0, 48, 4], [182, 0, 48, 4, 100, 172]]
theorem zE_cX11_band : zTab cX11_band.data.toList zT_cX11_band = true := by decide +kernel
theorem dX11_band_0 : decode cX11_band 0 = .ok (.aload_n 0, 1) := dz_aload_n_0 (y0 zE_cX11_band 0 0 (by decide +kernel))
theorem dX11_band_1 : decode cX11_band 1 = .ok (.iconst 0, 1) := dz_iconst_0 (y0 zE_cX11_band 0 1 (by decide +kernel))
theorem dX11_band_2 : decode cX11_band 2 = .ok (.putfield 44, 3) := dz_putfield (yu2 zE_cX11_band 0 2 (by decide +kernel))
theorem dX11_band_5 : decode cX11_band 5 = .ok (.iload_n 1, 1) := dz_iload_n_1 (y0 zE_cX11_band 0 5 (by decide +kernel))
theorem dX11_band_6 : decode cX11_band 6 = .ok (.iconst 1, 1) := dz_iconst_1 (y0 zE_cX11_band 0 6 (by decide +kernel))
theorem dX11_band_7 : decode cX11_band 7 = .ok (.sipush 728, 3) := dz_sipush (ys2 zE_cX11_band 0 7 (by decide +kernel))
theorem dX11_band_10 : decode cX11_band 10 = .ok (.invokestatic 52, 3) := dz_invokestatic (yu2 zE_cX11_band 0 10 (by decide +kernel))
theorem dX11_band_13 : decode cX11_band 13 = .ok (.ifCond .eq 11, 3) := dz_ifCond_eq (ys2 zE_cX11_band 0 13 (by decide +kernel))
theorem dX11_band_16 : decode cX11_band 16 = .ok (.iload_n 1, 1) := dz_iload_n_1 (y0 zE_cX11_band 0 16 (by decide +kernel))
theorem dX11_band_17 : decode cX11_band 17 = .ok (.invokestatic 116, 3) := dz_invokestatic (yu2 zE_cX11_band 0 17 (by decide +kernel))
theorem dX11_band_20 : decode cX11_band 20 = .ok (.iconst 5, 1) := dz_iconst_5 (y0 zE_cX11_band 0 20 (by decide +kernel))
theorem dX11_band_21 : decode cX11_band 21 = .ok (.if_icmp .le 9, 3) := dz_if_icmp_le (ys2 zE_cX11_band 0 21 (by decide +kernel))
theorem dX11_band_24 : decode cX11_band 24 = .ok (.aload_n 0, 1) := dz_aload_n_0 (y0 zE_cX11_band 0 24 (by decide +kernel))
theorem dX11_band_25 : decode cX11_band 25 = .ok (.iconst 1, 1) := dz_iconst_1 (y0 zE_cX11_band 0 25 (by decide +kernel))
theorem dX11_band_26 : decode cX11_band 26 = .ok (.invokevirtual 60, 3) := dz_invokevirtual (yu2 zE_cX11_band 0 26 (by decide +kernel))
theorem dX11_band_29 : decode cX11_band 29 = .ok (.ireturn, 1) := dz_ireturn (y0 zE_cX11_band 0 29 (by decide +kernel))
theorem dX11_band_30 : decode cX11_band 30 = .ok (.aload_n 0, 1) := dz_aload_n_0 (y0 zE_cX11_band 0 30 (by decide +kernel))
theorem dX11_band_31 : decode cX11_band 31 = .ok (.getfield 16, 3) := dz_getfield (yu2 zE_cX11_band 0 31 (by decide +kernel))
theorem dX11_band_34 : decode cX11_band 34 = .ok (.invokevirtual 48, 3) := dz_invokevirtual (yu2 zE_cX11_band 0 34 (by decide +kernel))
theorem dX11_band_37 : decode cX11_band 37 = .ok (.bipush 6, 2) := dz_bipush (ys1 zE_cX11_band 0 37 (by decide +kernel))
theorem dX11_band_39 : decode cX11_band 39 = .ok (.if_icmp .ne 9, 3) := dz_if_icmp_ne (ys2 zE_cX11_band 0 39 (by decide +kernel))
theorem dX11_band_42 : decode cX11_band 42 = .ok (.aload_n 0, 1) := dz_aload_n_0 (y0 zE_cX11_band 0 42 (by decide +kernel))
theorem dX11_band_43 : decode cX11_band 43 = .ok (.iconst 2, 1) := dz_iconst_2 (y0 zE_cX11_band 0 43 (by decide +kernel))
theorem dX11_band_44 : decode cX11_band 44 = .ok (.invokevirtual 60, 3) := dz_invokevirtual (yu2 zE_cX11_band 0 44 (by decide +kernel))
theorem dX11_band_47 : decode cX11_band 47 = .ok (.ireturn, 1) := dz_ireturn (y0 zE_cX11_band 0 47 (by decide +kernel))
theorem dX11_band_48 : decode cX11_band 48 = .ok (.aload_n 0, 1) := dz_aload_n_0 (y0 zE_cX11_band 0 48 (by decide +kernel))
theorem dX11_band_49 : decode cX11_band 49 = .ok (.getfield 16, 3) := dz_getfield (yu2 zE_cX11_band 0 49 (by decide +kernel))
theorem dX11_band_52 : decode cX11_band 52 = .ok (.iload_n 1, 1) := dz_iload_n_1 (y0 zE_cX11_band 0 52 (by decide +kernel))
theorem dX11_band_53 : decode cX11_band 53 = .ok (.invokestatic 118, 3) := dz_invokestatic (yu2 zE_cX11_band 0 53 (by decide +kernel))
theorem dX11_band_56 : decode cX11_band 56 = .ok (.invokevirtual 83, 3) := dz_invokevirtual (yu2 zE_cX11_band 0 56 (by decide +kernel))
theorem dX11_band_59 : decode cX11_band 59 = .ok (.pop, 1) := dz_pop (y0 zE_cX11_band 0 59 (by decide +kernel))
theorem dX11_band_60 : decode cX11_band 60 = .ok (.aload_n 0, 1) := dz_aload_n_0 (y0 zE_cX11_band 0 60 (by decide +kernel))
theorem dX11_band_61 : decode cX11_band 61 = .ok (.getfield 16, 3) := dz_getfield (yu2 zE_cX11_band 0 61 (by decide +kernel))
theorem dX11_band_64 : decode cX11_band 64 = .ok (.invokevirtual 48, 3) := dz_invokevirtual (yu2 zE_cX11_band 1 0 (by decide +kernel))
theorem dX11_band_67 : decode cX11_band 67 = .ok (.iconst 1, 1) := dz_iconst_1 (y0 zE_cX11_band 1 3 (by decide +kernel))
theorem dX11_band_68 : decode cX11_band 68 = .ok (.isub, 1) := dz_isub (y0 zE_cX11_band 1 4 (by decide +kernel))
theorem dX11_band_69 : decode cX11_band 69 = .ok (.ireturn, 1) := dz_ireturn (y0 zE_cX11_band 1 5 (by decide +kernel))
theorem gd_wsX11_isBand : wsX11_isBand.all goodWord = true := by decide +kernel
set_option maxRecDepth 20000 in
theorem ggX11_isBand_Jx4a65c_size_8abf5 : GoodIn wsX11_isBand wsJx4a65c_size_8abf5 := gi_q gd_wsX11_isBand _ [(6, 2), (25, 3)] rfl
set_option maxRecDepth 20000 in
theorem gX11_isBand_Jx4a65c_size_8abf5 : GoodIn wsX11_isBand (wsV RX11 48 RJx4a65c yJx4a65c_size_8abf5 wsJx4a65c_size_8abf5) := goodIn_app (gi_q gd_wsX11_isBand _ [(2, 4)] rfl) ggX11_isBand_Jx4a65c_size_8abf5
set_option maxRecDepth 20000 in
theorem ggX11_isBand_X11_is : GoodIn wsX11_isBand wsX11_is := gi_q gd_wsX11_isBand _ [(11, 1)] rfl
set_option maxRecDepth 20000 in
theorem gX11_isBand_X11_is : GoodIn wsX11_isBand (va_wsS RX11 52 yX11_is wsX11_is) := goodIn_app (gi_q gd_wsX11_isBand _ [(8, 3)] rfl) ggX11_isBand_X11_is
theorem dX11_isBand_0 : decode cX11_isBand 0 = .ok (.iload_n 1, 1) := dkT (by decide +kernel)
theorem dX11_isBand_1 : decode cX11_isBand 1 = .ok (.iconst 0, 1) := dkT (by decide +kernel)
theorem dX11_isBand_2 : decode cX11_isBand 2 = .ok (.aload_n 0, 1) := dkT (by decide +kernel)
theorem dX11_isBand_3 : decode cX11_isBand 3 = .ok (.getfield 16, 3) := dkT (by decide +kernel)
theorem dX11_isBand_6 : decode cX11_isBand 6 = .ok (.invokevirtual 48, 3) := dkT (by decide +kernel)
theorem dX11_isBand_9 : decode cX11_isBand 9 = .ok (.iconst 1, 1) := dkT (by decide +kernel)
theorem dX11_isBand_10 : decode cX11_isBand 10 = .ok (.isub, 1) := dkT (by decide +kernel)
theorem dX11_isBand_11 : decode cX11_isBand 11 = .ok (.invokestatic 52, 3) := dkT (by decide +kernel)
theorem dX11_isBand_14 : decode cX11_isBand 14 = .ok (.ireturn, 1) := dkT (by decide +kernel)
theorem gd_wsX11_isFixed : wsX11_isFixed.all goodWord = true := by decide +kernel
set_option maxRecDepth 20000 in
theorem ggX11_isFixed_Jx4a65c_size_8abf5 : GoodIn wsX11_isFixed wsJx4a65c_size_8abf5 := gi_q gd_wsX11_isFixed _ [(7, 2), (51, 3)] rfl
set_option maxRecDepth 20000 in
theorem gX11_isFixed_Jx4a65c_size_8abf5 : GoodIn wsX11_isFixed (wsV RX11 48 RJx4a65c yJx4a65c_size_8abf5 wsJx4a65c_size_8abf5) := goodIn_app (gi_q gd_wsX11_isFixed _ [(3, 4)] rfl) ggX11_isFixed_Jx4a65c_size_8abf5
set_option maxRecDepth 20000 in
theorem ggX11_isFixed_Jx4a65c_get_915e3 : GoodIn wsX11_isFixed wsJx4a65c_get_915e3 := gi_q gd_wsX11_isFixed _ [(12, 1), (8, 1), (13, 11), (6, 1), (24, 2), (51, 3)] rfl
set_option maxRecDepth 20000 in
theorem gX11_isFixed_Jx4a65c_get_915e3 : GoodIn wsX11_isFixed (wsV RX11 90 RJx4a65c yJx4a65c_get_915e3 wsJx4a65c_get_915e3) := goodIn_app (gi_q gd_wsX11_isFixed _ [(9, 3), (6, 1)] rfl) ggX11_isFixed_Jx4a65c_get_915e3
def zT_cX11_isFixed : List (List Nat) := [[3, 62, 29, 42, 180, 0, 19, 182, 0, 48, 162, 0, 51, 42, 180, 0, 19, 29, 182, 0, 90, 192, 0, 122, 58, 4, 25, 4, 180, 0, 124, 4, 160, 0, 23, 25, 4, 180, 0, 127, 27, 160, 0, 14, 25, 4, 180, 0, 130, 28, 160, 0, 5, 4, 172, 132, 3, 1, 167, 255, 200, 3, 172]]
theorem zE_cX11_isFixed : zTab cX11_isFixed.data.toList zT_cX11_isFixed = true := by decide +kernel
theorem dX11_isFixed_0 : decode cX11_isFixed 0 = .ok (.iconst 0, 1) := dz_iconst_0 (y0 zE_cX11_isFixed 0 0 (by decide +kernel))
theorem dX11_isFixed_1 : decode cX11_isFixed 1 = .ok (.istore_n 3, 1) := dz_istore_n_3 (y0 zE_cX11_isFixed 0 1 (by decide +kernel))
theorem dX11_isFixed_2 : decode cX11_isFixed 2 = .ok (.iload_n 3, 1) := dz_iload_n_3 (y0 zE_cX11_isFixed 0 2 (by decide +kernel))
theorem dX11_isFixed_3 : decode cX11_isFixed 3 = .ok (.aload_n 0, 1) := dz_aload_n_0 (y0 zE_cX11_isFixed 0 3 (by decide +kernel))
theorem dX11_isFixed_4 : decode cX11_isFixed 4 = .ok (.getfield 19, 3) := dz_getfield (yu2 zE_cX11_isFixed 0 4 (by decide +kernel))
theorem dX11_isFixed_7 : decode cX11_isFixed 7 = .ok (.invokevirtual 48, 3) := dz_invokevirtual (yu2 zE_cX11_isFixed 0 7 (by decide +kernel))
theorem dX11_isFixed_10 : decode cX11_isFixed 10 = .ok (.if_icmp .ge 51, 3) := dz_if_icmp_ge (ys2 zE_cX11_isFixed 0 10 (by decide +kernel))
theorem dX11_isFixed_13 : decode cX11_isFixed 13 = .ok (.aload_n 0, 1) := dz_aload_n_0 (y0 zE_cX11_isFixed 0 13 (by decide +kernel))
theorem dX11_isFixed_14 : decode cX11_isFixed 14 = .ok (.getfield 19, 3) := dz_getfield (yu2 zE_cX11_isFixed 0 14 (by decide +kernel))
theorem dX11_isFixed_17 : decode cX11_isFixed 17 = .ok (.iload_n 3, 1) := dz_iload_n_3 (y0 zE_cX11_isFixed 0 17 (by decide +kernel))
theorem dX11_isFixed_18 : decode cX11_isFixed 18 = .ok (.invokevirtual 90, 3) := dz_invokevirtual (yu2 zE_cX11_isFixed 0 18 (by decide +kernel))
theorem dX11_isFixed_21 : decode cX11_isFixed 21 = .ok (.checkcast 122, 3) := dz_checkcast (yu2 zE_cX11_isFixed 0 21 (by decide +kernel))
theorem dX11_isFixed_24 : decode cX11_isFixed 24 = .ok (.astore 4, 2) := dz_astore (yu1 zE_cX11_isFixed 0 24 (by decide +kernel))
theorem dX11_isFixed_26 : decode cX11_isFixed 26 = .ok (.aload 4, 2) := dz_aload (yu1 zE_cX11_isFixed 0 26 (by decide +kernel))
theorem dX11_isFixed_28 : decode cX11_isFixed 28 = .ok (.getfield 124, 3) := dz_getfield (yu2 zE_cX11_isFixed 0 28 (by decide +kernel))
theorem dX11_isFixed_31 : decode cX11_isFixed 31 = .ok (.iconst 1, 1) := dz_iconst_1 (y0 zE_cX11_isFixed 0 31 (by decide +kernel))
theorem dX11_isFixed_32 : decode cX11_isFixed 32 = .ok (.if_icmp .ne 23, 3) := dz_if_icmp_ne (ys2 zE_cX11_isFixed 0 32 (by decide +kernel))
theorem dX11_isFixed_35 : decode cX11_isFixed 35 = .ok (.aload 4, 2) := dz_aload (yu1 zE_cX11_isFixed 0 35 (by decide +kernel))
theorem dX11_isFixed_37 : decode cX11_isFixed 37 = .ok (.getfield 127, 3) := dz_getfield (yu2 zE_cX11_isFixed 0 37 (by decide +kernel))
theorem dX11_isFixed_40 : decode cX11_isFixed 40 = .ok (.iload_n 1, 1) := dz_iload_n_1 (y0 zE_cX11_isFixed 0 40 (by decide +kernel))
theorem dX11_isFixed_41 : decode cX11_isFixed 41 = .ok (.if_icmp .ne 14, 3) := dz_if_icmp_ne (ys2 zE_cX11_isFixed 0 41 (by decide +kernel))
theorem dX11_isFixed_44 : decode cX11_isFixed 44 = .ok (.aload 4, 2) := dz_aload (yu1 zE_cX11_isFixed 0 44 (by decide +kernel))
theorem dX11_isFixed_46 : decode cX11_isFixed 46 = .ok (.getfield 130, 3) := dz_getfield (yu2 zE_cX11_isFixed 0 46 (by decide +kernel))
theorem dX11_isFixed_49 : decode cX11_isFixed 49 = .ok (.iload_n 2, 1) := dz_iload_n_2 (y0 zE_cX11_isFixed 0 49 (by decide +kernel))
theorem dX11_isFixed_50 : decode cX11_isFixed 50 = .ok (.if_icmp .ne 5, 3) := dz_if_icmp_ne (ys2 zE_cX11_isFixed 0 50 (by decide +kernel))
theorem dX11_isFixed_53 : decode cX11_isFixed 53 = .ok (.iconst 1, 1) := dz_iconst_1 (y0 zE_cX11_isFixed 0 53 (by decide +kernel))
theorem dX11_isFixed_54 : decode cX11_isFixed 54 = .ok (.ireturn, 1) := dz_ireturn (y0 zE_cX11_isFixed 0 54 (by decide +kernel))
theorem dX11_isFixed_55 : decode cX11_isFixed 55 = .ok (.iinc 3 1, 3) := dz_iinc (yii zE_cX11_isFixed 0 55 (by decide +kernel))
theorem dX11_isFixed_58 : decode cX11_isFixed 58 = .ok (.goto (-56), 3) := dz_goto (ys2 zE_cX11_isFixed 0 58 (by decide +kernel))
theorem dX11_isFixed_61 : decode cX11_isFixed 61 = .ok (.iconst 0, 1) := dz_iconst_0 (y0 zE_cX11_isFixed 0 61 (by decide +kernel))
theorem dX11_isFixed_62 : decode cX11_isFixed 62 = .ok (.ireturn, 1) := dz_ireturn (y0 zE_cX11_isFixed 0 62 (by decide +kernel))
theorem gd_wsX11_ask : wsX11_ask.all goodWord = true := by decide +kernel
set_option maxRecDepth 20000 in
theorem ggX11_ask_X11_isBand : GoodIn wsX11_ask wsX11_isBand := gi_q gd_wsX11_ask _ [(11, 10), (10, 1), (21, 1), (118, 13), (143, 3)] rfl
set_option maxRecDepth 20000 in
theorem gX11_ask_X11_isBand : GoodIn wsX11_ask (wsV RX11 133 RX11 yX11_isBand wsX11_isBand) := goodIn_app (gi_q gd_wsX11_ask _ [(7, 4)] rfl) ggX11_ask_X11_isBand
set_option maxRecDepth 20000 in
theorem ggX11_ask_X11_isTown : GoodIn wsX11_ask wsX11_isTown := gi_q gd_wsX11_ask _ [(24, 1), (19, 2), (10, 1), (21, 1)] rfl
set_option maxRecDepth 20000 in
theorem gX11_ask_X11_isTown : GoodIn wsX11_ask (va_wsS RX11 106 yX11_isTown wsX11_isTown) := goodIn_app (gi_q gd_wsX11_ask _ [(22, 2), (10, 1)] rfl) ggX11_ask_X11_isTown
set_option maxRecDepth 20000 in
theorem ggX11_ask_X11_refuse : GoodIn wsX11_ask wsX11_refuse := gi_q gd_wsX11_ask _ [(28, 1), (1, 1), (118, 13)] rfl
set_option maxRecDepth 20000 in
theorem gX11_ask_X11_refuse : GoodIn wsX11_ask (wsV RX11 60 RX11 yX11_refuse wsX11_refuse) := goodIn_app (gi_q gd_wsX11_ask _ [(25, 3), (10, 1)] rfl) ggX11_ask_X11_refuse
set_option maxRecDepth 20000 in
theorem ggX11_ask_X11_isDay : GoodIn wsX11_ask wsX11_isDay := gi_q gd_wsX11_ask _ [(32, 1), (6, 1), (19, 2), (10, 1), (21, 1), (118, 13)] rfl
set_option maxRecDepth 20000 in
theorem gX11_ask_X11_isDay : GoodIn wsX11_ask (wsV RX11 136 RX11 yX11_isDay wsX11_isDay) := goodIn_app (gi_q gd_wsX11_ask _ [(29, 3), (10, 1)] rfl) ggX11_ask_X11_isDay
set_option maxRecDepth 20000 in
theorem ggX11_ask_X11_is : GoodIn wsX11_ask wsX11_is := gi_q gd_wsX11_ask _ [(21, 1)] rfl
set_option maxRecDepth 20000 in
theorem gX11_ask_X11_is : GoodIn wsX11_ask (va_wsS RX11 52 yX11_is wsX11_is) := goodIn_app (gi_q gd_wsX11_ask _ [(19, 2), (10, 1)] rfl) ggX11_ask_X11_is
set_option maxRecDepth 20000 in
theorem ggX11_ask_X11_areSongs : GoodIn wsX11_ask wsX11_areSongs := gi_q gd_wsX11_ask _ [(36, 2), (19, 2), (10, 1), (21, 1)] rfl
set_option maxRecDepth 20000 in
theorem gX11_ask_X11_areSongs : GoodIn wsX11_ask (wsV RX11 64 RX11 yX11_areSongs wsX11_areSongs) := goodIn_app (gi_q gd_wsX11_ask _ [(33, 3), (10, 1)] rfl) ggX11_ask_X11_areSongs
set_option maxRecDepth 20000 in
theorem ggX11_ask_Jx4a65c_size_8abf5 : GoodIn wsX11_ask wsJx4a65c_size_8abf5 := gi_q gd_wsX11_ask _ [(17, 2), (143, 3)] rfl
set_option maxRecDepth 20000 in
theorem gX11_ask_Jx4a65c_size_8abf5 : GoodIn wsX11_ask (wsV RX11 48 RJx4a65c yJx4a65c_size_8abf5 wsJx4a65c_size_8abf5) := goodIn_app (gi_q gd_wsX11_ask _ [(13, 4)] rfl) ggX11_ask_Jx4a65c_size_8abf5
set_option maxRecDepth 20000 in
theorem ggX11_ask_X11_isFixed : GoodIn wsX11_ask wsX11_isFixed := gi_q gd_wsX11_ask _ [(41, 1), (2, 1), (42, 1), (13, 6), (43, 17), (118, 28)] rfl
set_option maxRecDepth 20000 in
theorem gX11_ask_X11_isFixed : GoodIn wsX11_ask (wsV RX11 139 RX11 yX11_isFixed wsX11_isFixed) := goodIn_app (gi_q gd_wsX11_ask _ [(38, 3), (10, 1)] rfl) ggX11_ask_X11_isFixed
set_option maxRecDepth 20000 in
theorem ggX11_ask_X10_init : GoodIn wsX11_ask wsX10_init := gi_q gd_wsX11_ask _ [(61, 4)] rfl
set_option maxRecDepth 20000 in
theorem gX11_ask_X10_init_n142 : GoodIn wsX11_ask (wsX10_init) := ggX11_ask_X10_init
set_option maxRecDepth 20000 in
theorem ggX11_ask_Jx4a65c_add_9ea2d : GoodIn wsX11_ask wsJx4a65c_add_9ea2d := gi_q gd_wsX11_ask _ [(68, 3), (59, 1), (18, 1), (71, 3), (16, 1), (74, 44), (143, 3)] rfl
set_option maxRecDepth 20000 in
theorem gX11_ask_Jx4a65c_add_9ea2d : GoodIn wsX11_ask (wsV RX11 83 RJx4a65c yJx4a65c_add_9ea2d wsJx4a65c_add_9ea2d) := goodIn_app (gi_q gd_wsX11_ask _ [(65, 3), (16, 1)] rfl) ggX11_ask_Jx4a65c_add_9ea2d
def zT_cX11_ask : List (List Nat) := [[42, 3, 181, 0, 44, 42, 27, 182, 0, 133, 153, 0, 10, 29, 184, 0, 106, 154, 0, 9, 42, 4, 182, 0, 60, 172, 42, 28, 182, 0, 136, 153, 0, 45, 21, 4, 16, 10, 16, 22, 184, 0, 52, 153, 0, 33, 21, 5, 4, 16, 6, 184, 0, 52, 153, 0, 22, 21, 4, 21, 5, 96, 16, 24, 163, 0, 12, 42], [163, 0, 12, 42, 21, 6, 182, 0, 64, 154, 0, 9, 42, 5, 182, 0, 60, 172, 42, 180, 0, 19, 182, 0, 48, 16, 14, 159, 0, 12, 42, 27, 28, 182, 0, 139, 153, 0, 9, 42, 6, 182, 0, 60, 172, 187, 0, 122, 89, 183, 0, 142, 58, 7, 25, 7, 27, 181, 0, 127, 25, 7, 28, 181, 0, 130, 25, 7], [0, 130, 25, 7, 29, 181, 0, 143, 25, 7, 21, 4, 181, 0, 146, 25, 7, 21, 5, 181, 0, 149, 25, 7, 21, 6, 181, 0, 152, 25, 7, 42, 180, 0, 57, 181, 0, 153, 42, 180, 0, 19, 25, 7, 182, 0, 83, 87, 42, 180, 0, 19, 182, 0, 48, 4, 100, 172]]
theorem zE_cX11_ask : zTab cX11_ask.data.toList zT_cX11_ask = true := by decide +kernel
theorem dX11_ask_0 : decode cX11_ask 0 = .ok (.aload_n 0, 1) := dz_aload_n_0 (y0 zE_cX11_ask 0 0 (by decide +kernel))
theorem dX11_ask_1 : decode cX11_ask 1 = .ok (.iconst 0, 1) := dz_iconst_0 (y0 zE_cX11_ask 0 1 (by decide +kernel))
theorem dX11_ask_2 : decode cX11_ask 2 = .ok (.putfield 44, 3) := dz_putfield (yu2 zE_cX11_ask 0 2 (by decide +kernel))
theorem dX11_ask_5 : decode cX11_ask 5 = .ok (.aload_n 0, 1) := dz_aload_n_0 (y0 zE_cX11_ask 0 5 (by decide +kernel))
theorem dX11_ask_6 : decode cX11_ask 6 = .ok (.iload_n 1, 1) := dz_iload_n_1 (y0 zE_cX11_ask 0 6 (by decide +kernel))
theorem dX11_ask_7 : decode cX11_ask 7 = .ok (.invokevirtual 133, 3) := dz_invokevirtual (yu2 zE_cX11_ask 0 7 (by decide +kernel))
theorem dX11_ask_10 : decode cX11_ask 10 = .ok (.ifCond .eq 10, 3) := dz_ifCond_eq (ys2 zE_cX11_ask 0 10 (by decide +kernel))
theorem dX11_ask_13 : decode cX11_ask 13 = .ok (.iload_n 3, 1) := dz_iload_n_3 (y0 zE_cX11_ask 0 13 (by decide +kernel))
theorem dX11_ask_14 : decode cX11_ask 14 = .ok (.invokestatic 106, 3) := dz_invokestatic (yu2 zE_cX11_ask 0 14 (by decide +kernel))
theorem dX11_ask_17 : decode cX11_ask 17 = .ok (.ifCond .ne 9, 3) := dz_ifCond_ne (ys2 zE_cX11_ask 0 17 (by decide +kernel))
theorem dX11_ask_20 : decode cX11_ask 20 = .ok (.aload_n 0, 1) := dz_aload_n_0 (y0 zE_cX11_ask 0 20 (by decide +kernel))
theorem dX11_ask_21 : decode cX11_ask 21 = .ok (.iconst 1, 1) := dz_iconst_1 (y0 zE_cX11_ask 0 21 (by decide +kernel))
theorem dX11_ask_22 : decode cX11_ask 22 = .ok (.invokevirtual 60, 3) := dz_invokevirtual (yu2 zE_cX11_ask 0 22 (by decide +kernel))
theorem dX11_ask_25 : decode cX11_ask 25 = .ok (.ireturn, 1) := dz_ireturn (y0 zE_cX11_ask 0 25 (by decide +kernel))
theorem dX11_ask_26 : decode cX11_ask 26 = .ok (.aload_n 0, 1) := dz_aload_n_0 (y0 zE_cX11_ask 0 26 (by decide +kernel))
theorem dX11_ask_27 : decode cX11_ask 27 = .ok (.iload_n 2, 1) := dz_iload_n_2 (y0 zE_cX11_ask 0 27 (by decide +kernel))
theorem dX11_ask_28 : decode cX11_ask 28 = .ok (.invokevirtual 136, 3) := dz_invokevirtual (yu2 zE_cX11_ask 0 28 (by decide +kernel))
theorem dX11_ask_31 : decode cX11_ask 31 = .ok (.ifCond .eq 45, 3) := dz_ifCond_eq (ys2 zE_cX11_ask 0 31 (by decide +kernel))
theorem dX11_ask_34 : decode cX11_ask 34 = .ok (.iload 4, 2) := dz_iload (yu1 zE_cX11_ask 0 34 (by decide +kernel))
theorem dX11_ask_36 : decode cX11_ask 36 = .ok (.bipush 10, 2) := dz_bipush (ys1 zE_cX11_ask 0 36 (by decide +kernel))
theorem dX11_ask_38 : decode cX11_ask 38 = .ok (.bipush 22, 2) := dz_bipush (ys1 zE_cX11_ask 0 38 (by decide +kernel))
theorem dX11_ask_40 : decode cX11_ask 40 = .ok (.invokestatic 52, 3) := dz_invokestatic (yu2 zE_cX11_ask 0 40 (by decide +kernel))
theorem dX11_ask_43 : decode cX11_ask 43 = .ok (.ifCond .eq 33, 3) := dz_ifCond_eq (ys2 zE_cX11_ask 0 43 (by decide +kernel))
theorem dX11_ask_46 : decode cX11_ask 46 = .ok (.iload 5, 2) := dz_iload (yu1 zE_cX11_ask 0 46 (by decide +kernel))
theorem dX11_ask_48 : decode cX11_ask 48 = .ok (.iconst 1, 1) := dz_iconst_1 (y0 zE_cX11_ask 0 48 (by decide +kernel))
theorem dX11_ask_49 : decode cX11_ask 49 = .ok (.bipush 6, 2) := dz_bipush (ys1 zE_cX11_ask 0 49 (by decide +kernel))
theorem dX11_ask_51 : decode cX11_ask 51 = .ok (.invokestatic 52, 3) := dz_invokestatic (yu2 zE_cX11_ask 0 51 (by decide +kernel))
theorem dX11_ask_54 : decode cX11_ask 54 = .ok (.ifCond .eq 22, 3) := dz_ifCond_eq (ys2 zE_cX11_ask 0 54 (by decide +kernel))
theorem dX11_ask_57 : decode cX11_ask 57 = .ok (.iload 4, 2) := dz_iload (yu1 zE_cX11_ask 0 57 (by decide +kernel))
theorem dX11_ask_59 : decode cX11_ask 59 = .ok (.iload 5, 2) := dz_iload (yu1 zE_cX11_ask 0 59 (by decide +kernel))
theorem dX11_ask_61 : decode cX11_ask 61 = .ok (.iadd, 1) := dz_iadd (y0 zE_cX11_ask 0 61 (by decide +kernel))
theorem dX11_ask_62 : decode cX11_ask 62 = .ok (.bipush 24, 2) := dz_bipush (ys1 zE_cX11_ask 0 62 (by decide +kernel))
theorem dX11_ask_64 : decode cX11_ask 64 = .ok (.if_icmp .gt 12, 3) := dz_if_icmp_gt (ys2 zE_cX11_ask 1 0 (by decide +kernel))
theorem dX11_ask_67 : decode cX11_ask 67 = .ok (.aload_n 0, 1) := dz_aload_n_0 (y0 zE_cX11_ask 1 3 (by decide +kernel))
theorem dX11_ask_68 : decode cX11_ask 68 = .ok (.iload 6, 2) := dz_iload (yu1 zE_cX11_ask 1 4 (by decide +kernel))
theorem dX11_ask_70 : decode cX11_ask 70 = .ok (.invokevirtual 64, 3) := dz_invokevirtual (yu2 zE_cX11_ask 1 6 (by decide +kernel))
theorem dX11_ask_73 : decode cX11_ask 73 = .ok (.ifCond .ne 9, 3) := dz_ifCond_ne (ys2 zE_cX11_ask 1 9 (by decide +kernel))
theorem dX11_ask_76 : decode cX11_ask 76 = .ok (.aload_n 0, 1) := dz_aload_n_0 (y0 zE_cX11_ask 1 12 (by decide +kernel))
theorem dX11_ask_77 : decode cX11_ask 77 = .ok (.iconst 2, 1) := dz_iconst_2 (y0 zE_cX11_ask 1 13 (by decide +kernel))
theorem dX11_ask_78 : decode cX11_ask 78 = .ok (.invokevirtual 60, 3) := dz_invokevirtual (yu2 zE_cX11_ask 1 14 (by decide +kernel))
theorem dX11_ask_81 : decode cX11_ask 81 = .ok (.ireturn, 1) := dz_ireturn (y0 zE_cX11_ask 1 17 (by decide +kernel))
theorem dX11_ask_82 : decode cX11_ask 82 = .ok (.aload_n 0, 1) := dz_aload_n_0 (y0 zE_cX11_ask 1 18 (by decide +kernel))
theorem dX11_ask_83 : decode cX11_ask 83 = .ok (.getfield 19, 3) := dz_getfield (yu2 zE_cX11_ask 1 19 (by decide +kernel))
theorem dX11_ask_86 : decode cX11_ask 86 = .ok (.invokevirtual 48, 3) := dz_invokevirtual (yu2 zE_cX11_ask 1 22 (by decide +kernel))
theorem dX11_ask_89 : decode cX11_ask 89 = .ok (.bipush 14, 2) := dz_bipush (ys1 zE_cX11_ask 1 25 (by decide +kernel))
theorem dX11_ask_91 : decode cX11_ask 91 = .ok (.if_icmp .eq 12, 3) := dz_if_icmp_eq (ys2 zE_cX11_ask 1 27 (by decide +kernel))
theorem dX11_ask_94 : decode cX11_ask 94 = .ok (.aload_n 0, 1) := dz_aload_n_0 (y0 zE_cX11_ask 1 30 (by decide +kernel))
theorem dX11_ask_95 : decode cX11_ask 95 = .ok (.iload_n 1, 1) := dz_iload_n_1 (y0 zE_cX11_ask 1 31 (by decide +kernel))
theorem dX11_ask_96 : decode cX11_ask 96 = .ok (.iload_n 2, 1) := dz_iload_n_2 (y0 zE_cX11_ask 1 32 (by decide +kernel))
theorem dX11_ask_97 : decode cX11_ask 97 = .ok (.invokevirtual 139, 3) := dz_invokevirtual (yu2 zE_cX11_ask 1 33 (by decide +kernel))
theorem dX11_ask_100 : decode cX11_ask 100 = .ok (.ifCond .eq 9, 3) := dz_ifCond_eq (ys2 zE_cX11_ask 1 36 (by decide +kernel))
theorem dX11_ask_103 : decode cX11_ask 103 = .ok (.aload_n 0, 1) := dz_aload_n_0 (y0 zE_cX11_ask 1 39 (by decide +kernel))
theorem dX11_ask_104 : decode cX11_ask 104 = .ok (.iconst 3, 1) := dz_iconst_3 (y0 zE_cX11_ask 1 40 (by decide +kernel))
theorem dX11_ask_105 : decode cX11_ask 105 = .ok (.invokevirtual 60, 3) := dz_invokevirtual (yu2 zE_cX11_ask 1 41 (by decide +kernel))
theorem dX11_ask_108 : decode cX11_ask 108 = .ok (.ireturn, 1) := dz_ireturn (y0 zE_cX11_ask 1 44 (by decide +kernel))
theorem dX11_ask_109 : decode cX11_ask 109 = .ok (.new 122, 3) := dz_new (yu2 zE_cX11_ask 1 45 (by decide +kernel))
theorem dX11_ask_112 : decode cX11_ask 112 = .ok (.dup, 1) := dz_dup (y0 zE_cX11_ask 1 48 (by decide +kernel))
theorem dX11_ask_113 : decode cX11_ask 113 = .ok (.invokespecial 142, 3) := dz_invokespecial (yu2 zE_cX11_ask 1 49 (by decide +kernel))
theorem dX11_ask_116 : decode cX11_ask 116 = .ok (.astore 7, 2) := dz_astore (yu1 zE_cX11_ask 1 52 (by decide +kernel))
theorem dX11_ask_118 : decode cX11_ask 118 = .ok (.aload 7, 2) := dz_aload (yu1 zE_cX11_ask 1 54 (by decide +kernel))
theorem dX11_ask_120 : decode cX11_ask 120 = .ok (.iload_n 1, 1) := dz_iload_n_1 (y0 zE_cX11_ask 1 56 (by decide +kernel))
theorem dX11_ask_121 : decode cX11_ask 121 = .ok (.putfield 127, 3) := dz_putfield (yu2 zE_cX11_ask 1 57 (by decide +kernel))
theorem dX11_ask_124 : decode cX11_ask 124 = .ok (.aload 7, 2) := dz_aload (yu1 zE_cX11_ask 1 60 (by decide +kernel))
theorem dX11_ask_126 : decode cX11_ask 126 = .ok (.iload_n 2, 1) := dz_iload_n_2 (y0 zE_cX11_ask 1 62 (by decide +kernel))
theorem dX11_ask_127 : decode cX11_ask 127 = .ok (.putfield 130, 3) := dz_putfield (yu2 zE_cX11_ask 1 63 (by decide +kernel))
theorem dX11_ask_130 : decode cX11_ask 130 = .ok (.aload 7, 2) := dz_aload (yu1 zE_cX11_ask 2 2 (by decide +kernel))
theorem dX11_ask_132 : decode cX11_ask 132 = .ok (.iload_n 3, 1) := dz_iload_n_3 (y0 zE_cX11_ask 2 4 (by decide +kernel))
theorem dX11_ask_133 : decode cX11_ask 133 = .ok (.putfield 143, 3) := dz_putfield (yu2 zE_cX11_ask 2 5 (by decide +kernel))
theorem dX11_ask_136 : decode cX11_ask 136 = .ok (.aload 7, 2) := dz_aload (yu1 zE_cX11_ask 2 8 (by decide +kernel))
theorem dX11_ask_138 : decode cX11_ask 138 = .ok (.iload 4, 2) := dz_iload (yu1 zE_cX11_ask 2 10 (by decide +kernel))
theorem dX11_ask_140 : decode cX11_ask 140 = .ok (.putfield 146, 3) := dz_putfield (yu2 zE_cX11_ask 2 12 (by decide +kernel))
theorem dX11_ask_143 : decode cX11_ask 143 = .ok (.aload 7, 2) := dz_aload (yu1 zE_cX11_ask 2 15 (by decide +kernel))
theorem dX11_ask_145 : decode cX11_ask 145 = .ok (.iload 5, 2) := dz_iload (yu1 zE_cX11_ask 2 17 (by decide +kernel))
theorem dX11_ask_147 : decode cX11_ask 147 = .ok (.putfield 149, 3) := dz_putfield (yu2 zE_cX11_ask 2 19 (by decide +kernel))
theorem dX11_ask_150 : decode cX11_ask 150 = .ok (.aload 7, 2) := dz_aload (yu1 zE_cX11_ask 2 22 (by decide +kernel))
theorem dX11_ask_152 : decode cX11_ask 152 = .ok (.iload 6, 2) := dz_iload (yu1 zE_cX11_ask 2 24 (by decide +kernel))
theorem dX11_ask_154 : decode cX11_ask 154 = .ok (.putfield 152, 3) := dz_putfield (yu2 zE_cX11_ask 2 26 (by decide +kernel))
theorem dX11_ask_157 : decode cX11_ask 157 = .ok (.aload 7, 2) := dz_aload (yu1 zE_cX11_ask 2 29 (by decide +kernel))
theorem dX11_ask_159 : decode cX11_ask 159 = .ok (.aload_n 0, 1) := dz_aload_n_0 (y0 zE_cX11_ask 2 31 (by decide +kernel))
theorem dX11_ask_160 : decode cX11_ask 160 = .ok (.getfield 57, 3) := dz_getfield (yu2 zE_cX11_ask 2 32 (by decide +kernel))
theorem dX11_ask_163 : decode cX11_ask 163 = .ok (.putfield 153, 3) := dz_putfield (yu2 zE_cX11_ask 2 35 (by decide +kernel))
theorem dX11_ask_166 : decode cX11_ask 166 = .ok (.aload_n 0, 1) := dz_aload_n_0 (y0 zE_cX11_ask 2 38 (by decide +kernel))
theorem dX11_ask_167 : decode cX11_ask 167 = .ok (.getfield 19, 3) := dz_getfield (yu2 zE_cX11_ask 2 39 (by decide +kernel))
theorem dX11_ask_170 : decode cX11_ask 170 = .ok (.aload 7, 2) := dz_aload (yu1 zE_cX11_ask 2 42 (by decide +kernel))
theorem dX11_ask_172 : decode cX11_ask 172 = .ok (.invokevirtual 83, 3) := dz_invokevirtual (yu2 zE_cX11_ask 2 44 (by decide +kernel))
theorem dX11_ask_175 : decode cX11_ask 175 = .ok (.pop, 1) := dz_pop (y0 zE_cX11_ask 2 47 (by decide +kernel))
theorem dX11_ask_176 : decode cX11_ask 176 = .ok (.aload_n 0, 1) := dz_aload_n_0 (y0 zE_cX11_ask 2 48 (by decide +kernel))
theorem dX11_ask_177 : decode cX11_ask 177 = .ok (.getfield 19, 3) := dz_getfield (yu2 zE_cX11_ask 2 49 (by decide +kernel))
theorem dX11_ask_180 : decode cX11_ask 180 = .ok (.invokevirtual 48, 3) := dz_invokevirtual (yu2 zE_cX11_ask 2 52 (by decide +kernel))
theorem dX11_ask_183 : decode cX11_ask 183 = .ok (.iconst 1, 1) := dz_iconst_1 (y0 zE_cX11_ask 2 55 (by decide +kernel))
theorem dX11_ask_184 : decode cX11_ask 184 = .ok (.isub, 1) := dz_isub (y0 zE_cX11_ask 2 56 (by decide +kernel))
theorem dX11_ask_185 : decode cX11_ask 185 = .ok (.ireturn, 1) := dz_ireturn (y0 zE_cX11_ask 2 57 (by decide +kernel))
theorem gd_wsX11_place : wsX11_place.all goodWord = true := by decide +kernel
set_option maxRecDepth 20000 in
theorem ggX11_place_Jx4a65c_get_915e3 : GoodIn wsX11_place wsJx4a65c_get_915e3 := gi_q gd_wsX11_place _ [(7, 13), (6, 1), (20, 2), (47, 3)] rfl
set_option maxRecDepth 20000 in
theorem gX11_place_Jx4a65c_get_915e3 : GoodIn wsX11_place (wsV RX11 90 RJx4a65c yJx4a65c_get_915e3 wsJx4a65c_get_915e3) := goodIn_app (gi_q gd_wsX11_place _ [(3, 4)] rfl) ggX11_place_Jx4a65c_get_915e3
def zT_cX11_place : List (List Nat) := [[42, 180, 0, 19, 27, 182, 0, 90, 192, 0, 122, 77, 44, 180, 0, 124, 153, 0, 5, 2, 172, 3, 62, 3, 54, 4, 21, 4, 27, 162, 0, 63, 42, 180, 0, 19, 21, 4, 182, 0, 90, 192, 0, 122, 58, 5, 29, 25, 5, 180, 0, 124, 154, 0, 31, 25, 5, 180, 0, 127, 44, 180, 0, 127, 160, 0, 19, 25], [160, 0, 19, 25, 5, 180, 0, 130, 44, 180, 0, 130, 160, 0, 7, 4, 167, 0, 4, 3, 96, 62, 132, 4, 1, 167, 255, 193, 29, 172]]
theorem zE_cX11_place : zTab cX11_place.data.toList zT_cX11_place = true := by decide +kernel
theorem dX11_place_0 : decode cX11_place 0 = .ok (.aload_n 0, 1) := dz_aload_n_0 (y0 zE_cX11_place 0 0 (by decide +kernel))
theorem dX11_place_1 : decode cX11_place 1 = .ok (.getfield 19, 3) := dz_getfield (yu2 zE_cX11_place 0 1 (by decide +kernel))
theorem dX11_place_4 : decode cX11_place 4 = .ok (.iload_n 1, 1) := dz_iload_n_1 (y0 zE_cX11_place 0 4 (by decide +kernel))
theorem dX11_place_5 : decode cX11_place 5 = .ok (.invokevirtual 90, 3) := dz_invokevirtual (yu2 zE_cX11_place 0 5 (by decide +kernel))
theorem dX11_place_8 : decode cX11_place 8 = .ok (.checkcast 122, 3) := dz_checkcast (yu2 zE_cX11_place 0 8 (by decide +kernel))
theorem dX11_place_11 : decode cX11_place 11 = .ok (.astore_n 2, 1) := dz_astore_n_2 (y0 zE_cX11_place 0 11 (by decide +kernel))
theorem dX11_place_12 : decode cX11_place 12 = .ok (.aload_n 2, 1) := dz_aload_n_2 (y0 zE_cX11_place 0 12 (by decide +kernel))
theorem dX11_place_13 : decode cX11_place 13 = .ok (.getfield 124, 3) := dz_getfield (yu2 zE_cX11_place 0 13 (by decide +kernel))
theorem dX11_place_16 : decode cX11_place 16 = .ok (.ifCond .eq 5, 3) := dz_ifCond_eq (ys2 zE_cX11_place 0 16 (by decide +kernel))
theorem dX11_place_19 : decode cX11_place 19 = .ok (.iconst (-1), 1) := dz_iconst_m1 (y0 zE_cX11_place 0 19 (by decide +kernel))
theorem dX11_place_20 : decode cX11_place 20 = .ok (.ireturn, 1) := dz_ireturn (y0 zE_cX11_place 0 20 (by decide +kernel))
theorem dX11_place_21 : decode cX11_place 21 = .ok (.iconst 0, 1) := dz_iconst_0 (y0 zE_cX11_place 0 21 (by decide +kernel))
theorem dX11_place_22 : decode cX11_place 22 = .ok (.istore_n 3, 1) := dz_istore_n_3 (y0 zE_cX11_place 0 22 (by decide +kernel))
theorem dX11_place_23 : decode cX11_place 23 = .ok (.iconst 0, 1) := dz_iconst_0 (y0 zE_cX11_place 0 23 (by decide +kernel))
theorem dX11_place_24 : decode cX11_place 24 = .ok (.istore 4, 2) := dz_istore (yu1 zE_cX11_place 0 24 (by decide +kernel))
theorem dX11_place_26 : decode cX11_place 26 = .ok (.iload 4, 2) := dz_iload (yu1 zE_cX11_place 0 26 (by decide +kernel))
theorem dX11_place_28 : decode cX11_place 28 = .ok (.iload_n 1, 1) := dz_iload_n_1 (y0 zE_cX11_place 0 28 (by decide +kernel))
theorem dX11_place_29 : decode cX11_place 29 = .ok (.if_icmp .ge 63, 3) := dz_if_icmp_ge (ys2 zE_cX11_place 0 29 (by decide +kernel))
theorem dX11_place_32 : decode cX11_place 32 = .ok (.aload_n 0, 1) := dz_aload_n_0 (y0 zE_cX11_place 0 32 (by decide +kernel))
theorem dX11_place_33 : decode cX11_place 33 = .ok (.getfield 19, 3) := dz_getfield (yu2 zE_cX11_place 0 33 (by decide +kernel))
theorem dX11_place_36 : decode cX11_place 36 = .ok (.iload 4, 2) := dz_iload (yu1 zE_cX11_place 0 36 (by decide +kernel))
theorem dX11_place_38 : decode cX11_place 38 = .ok (.invokevirtual 90, 3) := dz_invokevirtual (yu2 zE_cX11_place 0 38 (by decide +kernel))
theorem dX11_place_41 : decode cX11_place 41 = .ok (.checkcast 122, 3) := dz_checkcast (yu2 zE_cX11_place 0 41 (by decide +kernel))
theorem dX11_place_44 : decode cX11_place 44 = .ok (.astore 5, 2) := dz_astore (yu1 zE_cX11_place 0 44 (by decide +kernel))
theorem dX11_place_46 : decode cX11_place 46 = .ok (.iload_n 3, 1) := dz_iload_n_3 (y0 zE_cX11_place 0 46 (by decide +kernel))
theorem dX11_place_47 : decode cX11_place 47 = .ok (.aload 5, 2) := dz_aload (yu1 zE_cX11_place 0 47 (by decide +kernel))
theorem dX11_place_49 : decode cX11_place 49 = .ok (.getfield 124, 3) := dz_getfield (yu2 zE_cX11_place 0 49 (by decide +kernel))
theorem dX11_place_52 : decode cX11_place 52 = .ok (.ifCond .ne 31, 3) := dz_ifCond_ne (ys2 zE_cX11_place 0 52 (by decide +kernel))
theorem dX11_place_55 : decode cX11_place 55 = .ok (.aload 5, 2) := dz_aload (yu1 zE_cX11_place 0 55 (by decide +kernel))
theorem dX11_place_57 : decode cX11_place 57 = .ok (.getfield 127, 3) := dz_getfield (yu2 zE_cX11_place 0 57 (by decide +kernel))
theorem dX11_place_60 : decode cX11_place 60 = .ok (.aload_n 2, 1) := dz_aload_n_2 (y0 zE_cX11_place 0 60 (by decide +kernel))
theorem dX11_place_61 : decode cX11_place 61 = .ok (.getfield 127, 3) := dz_getfield (yu2 zE_cX11_place 0 61 (by decide +kernel))
theorem dX11_place_64 : decode cX11_place 64 = .ok (.if_icmp .ne 19, 3) := dz_if_icmp_ne (ys2 zE_cX11_place 1 0 (by decide +kernel))
theorem dX11_place_67 : decode cX11_place 67 = .ok (.aload 5, 2) := dz_aload (yu1 zE_cX11_place 1 3 (by decide +kernel))
theorem dX11_place_69 : decode cX11_place 69 = .ok (.getfield 130, 3) := dz_getfield (yu2 zE_cX11_place 1 5 (by decide +kernel))
theorem dX11_place_72 : decode cX11_place 72 = .ok (.aload_n 2, 1) := dz_aload_n_2 (y0 zE_cX11_place 1 8 (by decide +kernel))
theorem dX11_place_73 : decode cX11_place 73 = .ok (.getfield 130, 3) := dz_getfield (yu2 zE_cX11_place 1 9 (by decide +kernel))
theorem dX11_place_76 : decode cX11_place 76 = .ok (.if_icmp .ne 7, 3) := dz_if_icmp_ne (ys2 zE_cX11_place 1 12 (by decide +kernel))
theorem dX11_place_79 : decode cX11_place 79 = .ok (.iconst 1, 1) := dz_iconst_1 (y0 zE_cX11_place 1 15 (by decide +kernel))
theorem dX11_place_80 : decode cX11_place 80 = .ok (.goto 4, 3) := dz_goto (ys2 zE_cX11_place 1 16 (by decide +kernel))
theorem dX11_place_83 : decode cX11_place 83 = .ok (.iconst 0, 1) := dz_iconst_0 (y0 zE_cX11_place 1 19 (by decide +kernel))
theorem dX11_place_84 : decode cX11_place 84 = .ok (.iadd, 1) := dz_iadd (y0 zE_cX11_place 1 20 (by decide +kernel))
theorem dX11_place_85 : decode cX11_place 85 = .ok (.istore_n 3, 1) := dz_istore_n_3 (y0 zE_cX11_place 1 21 (by decide +kernel))
theorem dX11_place_86 : decode cX11_place 86 = .ok (.iinc 4 1, 3) := dz_iinc (yii zE_cX11_place 1 22 (by decide +kernel))
theorem dX11_place_89 : decode cX11_place 89 = .ok (.goto (-63), 3) := dz_goto (ys2 zE_cX11_place 1 25 (by decide +kernel))
theorem dX11_place_92 : decode cX11_place 92 = .ok (.iload_n 3, 1) := dz_iload_n_3 (y0 zE_cX11_place 1 28 (by decide +kernel))
theorem dX11_place_93 : decode cX11_place 93 = .ok (.ireturn, 1) := dz_ireturn (y0 zE_cX11_place 1 29 (by decide +kernel))
theorem gd_wsX11_isFree : wsX11_isFree.all goodWord = true := by decide +kernel
set_option maxRecDepth 20000 in
theorem ggX11_isFree_Jx4a65c_get_915e3 : GoodIn wsX11_isFree wsJx4a65c_get_915e3 := gi_q gd_wsX11_isFree _ [(9, 13), (8, 1), (22, 2), (69, 3)] rfl
set_option maxRecDepth 20000 in
theorem gX11_isFree_Jx4a65c_get_915e3 : GoodIn wsX11_isFree (wsV RX11 90 RJx4a65c yJx4a65c_get_915e3 wsJx4a65c_get_915e3) := goodIn_app (gi_q gd_wsX11_isFree _ [(5, 4)] rfl) ggX11_isFree_Jx4a65c_get_915e3
set_option maxRecDepth 20000 in
theorem ggX11_isFree_X11_driveOf : GoodIn wsX11_isFree wsX11_driveOf := gi_q gd_wsX11_isFree _ [(28, 2), (37, 13)] rfl
set_option maxRecDepth 20000 in
theorem gX11_isFree_X11_driveOf : GoodIn wsX11_isFree (wsV RX11 109 RX11 yX11_driveOf wsX11_driveOf) := goodIn_app (gi_q gd_wsX11_isFree _ [(24, 4)] rfl) ggX11_isFree_X11_driveOf
set_option maxRecDepth 20000 in
theorem ggX11_isFree_Jx4a65c_size_8abf5 : GoodIn wsX11_isFree wsJx4a65c_size_8abf5 := gi_q gd_wsX11_isFree _ [(33, 1), (10, 1), (69, 3)] rfl
set_option maxRecDepth 20000 in
theorem gX11_isFree_Jx4a65c_size_8abf5 : GoodIn wsX11_isFree (wsV RX11 48 RJx4a65c yJx4a65c_size_8abf5 wsJx4a65c_size_8abf5) := goodIn_app (gi_q gd_wsX11_isFree _ [(30, 3), (8, 1)] rfl) ggX11_isFree_Jx4a65c_size_8abf5
set_option maxRecDepth 20000 in
theorem ggX11_isFree_X11_isIn : GoodIn wsX11_isFree wsX11_isIn := gi_q gd_wsX11_isFree _ [(36, 1)] rfl
set_option maxRecDepth 20000 in
theorem gX11_isFree_X11_isIn : GoodIn wsX11_isFree (va_wsS RX11 102 yX11_isIn wsX11_isIn) := goodIn_app (gi_q gd_wsX11_isFree _ [(34, 2), (27, 1)] rfl) ggX11_isFree_X11_isIn
def zT_cX11_isFree : List (List Nat) := [[42, 180, 0, 19, 28, 182, 0, 90, 192, 0, 122, 78, 42, 180, 0, 10, 27, 182, 0, 90, 192, 0, 68, 58, 4, 25, 4, 180, 0, 156, 45, 180, 0, 130, 51, 154, 0, 20, 42, 25, 4, 180, 0, 77, 45, 180, 0, 143, 182, 0, 109, 2, 160, 0, 5, 3, 172, 3, 54, 5, 21, 5, 42, 180, 0, 19, 182, 0], [0, 19, 182, 0, 48, 162, 0, 173, 42, 180, 0, 19, 21, 5, 182, 0, 90, 192, 0, 122, 58, 6, 21, 5, 28, 159, 0, 147, 25, 6, 180, 0, 124, 4, 160, 0, 138, 25, 6, 180, 0, 130, 45, 180, 0, 130, 160, 0, 126, 25, 6, 180, 0, 160, 27, 184, 0, 102, 154, 0, 6, 167, 0, 111, 25, 6, 180, 0], [25, 6, 180, 0, 146, 45, 180, 0, 146, 161, 0, 21, 25, 6, 180, 0, 146, 45, 180, 0, 146, 160, 0, 13, 21, 5, 28, 162, 0, 7, 4, 167, 0, 4, 3, 54, 7, 21, 7, 153, 0, 8, 25, 6, 167, 0, 4, 45, 58, 8, 21, 7, 153, 0, 7, 45, 167, 0, 5, 25, 6, 58, 9, 42, 45, 180, 0, 143], [45, 180, 0, 143, 25, 6, 180, 0, 143, 182, 0, 109, 54, 10, 21, 10, 2, 159, 0, 25, 25, 8, 180, 0, 146, 25, 8, 180, 0, 149, 96, 21, 10, 96, 25, 9, 180, 0, 146, 164, 0, 5, 3, 172, 132, 5, 1, 167, 255, 77, 4, 172]]
theorem zE_cX11_isFree : zTab cX11_isFree.data.toList zT_cX11_isFree = true := by decide +kernel
theorem dX11_isFree_0 : decode cX11_isFree 0 = .ok (.aload_n 0, 1) := dz_aload_n_0 (y0 zE_cX11_isFree 0 0 (by decide +kernel))
theorem dX11_isFree_1 : decode cX11_isFree 1 = .ok (.getfield 19, 3) := dz_getfield (yu2 zE_cX11_isFree 0 1 (by decide +kernel))
theorem dX11_isFree_4 : decode cX11_isFree 4 = .ok (.iload_n 2, 1) := dz_iload_n_2 (y0 zE_cX11_isFree 0 4 (by decide +kernel))
theorem dX11_isFree_5 : decode cX11_isFree 5 = .ok (.invokevirtual 90, 3) := dz_invokevirtual (yu2 zE_cX11_isFree 0 5 (by decide +kernel))
theorem dX11_isFree_8 : decode cX11_isFree 8 = .ok (.checkcast 122, 3) := dz_checkcast (yu2 zE_cX11_isFree 0 8 (by decide +kernel))
theorem dX11_isFree_11 : decode cX11_isFree 11 = .ok (.astore_n 3, 1) := dz_astore_n_3 (y0 zE_cX11_isFree 0 11 (by decide +kernel))
theorem dX11_isFree_12 : decode cX11_isFree 12 = .ok (.aload_n 0, 1) := dz_aload_n_0 (y0 zE_cX11_isFree 0 12 (by decide +kernel))
theorem dX11_isFree_13 : decode cX11_isFree 13 = .ok (.getfield 10, 3) := dz_getfield (yu2 zE_cX11_isFree 0 13 (by decide +kernel))
theorem dX11_isFree_16 : decode cX11_isFree 16 = .ok (.iload_n 1, 1) := dz_iload_n_1 (y0 zE_cX11_isFree 0 16 (by decide +kernel))
theorem dX11_isFree_17 : decode cX11_isFree 17 = .ok (.invokevirtual 90, 3) := dz_invokevirtual (yu2 zE_cX11_isFree 0 17 (by decide +kernel))
theorem dX11_isFree_20 : decode cX11_isFree 20 = .ok (.checkcast 68, 3) := dz_checkcast (yu2 zE_cX11_isFree 0 20 (by decide +kernel))
theorem dX11_isFree_23 : decode cX11_isFree 23 = .ok (.astore 4, 2) := dz_astore (yu1 zE_cX11_isFree 0 23 (by decide +kernel))
theorem dX11_isFree_25 : decode cX11_isFree 25 = .ok (.aload 4, 2) := dz_aload (yu1 zE_cX11_isFree 0 25 (by decide +kernel))
theorem dX11_isFree_27 : decode cX11_isFree 27 = .ok (.getfield 156, 3) := dz_getfield (yu2 zE_cX11_isFree 0 27 (by decide +kernel))
theorem dX11_isFree_30 : decode cX11_isFree 30 = .ok (.aload_n 3, 1) := dz_aload_n_3 (y0 zE_cX11_isFree 0 30 (by decide +kernel))
theorem dX11_isFree_31 : decode cX11_isFree 31 = .ok (.getfield 130, 3) := dz_getfield (yu2 zE_cX11_isFree 0 31 (by decide +kernel))
theorem dX11_isFree_34 : decode cX11_isFree 34 = .ok (.baload, 1) := dz_baload (y0 zE_cX11_isFree 0 34 (by decide +kernel))
theorem dX11_isFree_35 : decode cX11_isFree 35 = .ok (.ifCond .ne 20, 3) := dz_ifCond_ne (ys2 zE_cX11_isFree 0 35 (by decide +kernel))
theorem dX11_isFree_38 : decode cX11_isFree 38 = .ok (.aload_n 0, 1) := dz_aload_n_0 (y0 zE_cX11_isFree 0 38 (by decide +kernel))
theorem dX11_isFree_39 : decode cX11_isFree 39 = .ok (.aload 4, 2) := dz_aload (yu1 zE_cX11_isFree 0 39 (by decide +kernel))
theorem dX11_isFree_41 : decode cX11_isFree 41 = .ok (.getfield 77, 3) := dz_getfield (yu2 zE_cX11_isFree 0 41 (by decide +kernel))
theorem dX11_isFree_44 : decode cX11_isFree 44 = .ok (.aload_n 3, 1) := dz_aload_n_3 (y0 zE_cX11_isFree 0 44 (by decide +kernel))
theorem dX11_isFree_45 : decode cX11_isFree 45 = .ok (.getfield 143, 3) := dz_getfield (yu2 zE_cX11_isFree 0 45 (by decide +kernel))
theorem dX11_isFree_48 : decode cX11_isFree 48 = .ok (.invokevirtual 109, 3) := dz_invokevirtual (yu2 zE_cX11_isFree 0 48 (by decide +kernel))
theorem dX11_isFree_51 : decode cX11_isFree 51 = .ok (.iconst (-1), 1) := dz_iconst_m1 (y0 zE_cX11_isFree 0 51 (by decide +kernel))
theorem dX11_isFree_52 : decode cX11_isFree 52 = .ok (.if_icmp .ne 5, 3) := dz_if_icmp_ne (ys2 zE_cX11_isFree 0 52 (by decide +kernel))
theorem dX11_isFree_55 : decode cX11_isFree 55 = .ok (.iconst 0, 1) := dz_iconst_0 (y0 zE_cX11_isFree 0 55 (by decide +kernel))
theorem dX11_isFree_56 : decode cX11_isFree 56 = .ok (.ireturn, 1) := dz_ireturn (y0 zE_cX11_isFree 0 56 (by decide +kernel))
theorem dX11_isFree_57 : decode cX11_isFree 57 = .ok (.iconst 0, 1) := dz_iconst_0 (y0 zE_cX11_isFree 0 57 (by decide +kernel))
theorem dX11_isFree_58 : decode cX11_isFree 58 = .ok (.istore 5, 2) := dz_istore (yu1 zE_cX11_isFree 0 58 (by decide +kernel))
theorem dX11_isFree_60 : decode cX11_isFree 60 = .ok (.iload 5, 2) := dz_iload (yu1 zE_cX11_isFree 0 60 (by decide +kernel))
theorem dX11_isFree_62 : decode cX11_isFree 62 = .ok (.aload_n 0, 1) := dz_aload_n_0 (y0 zE_cX11_isFree 0 62 (by decide +kernel))
theorem dX11_isFree_63 : decode cX11_isFree 63 = .ok (.getfield 19, 3) := dz_getfield (yu2 zE_cX11_isFree 0 63 (by decide +kernel))
theorem dX11_isFree_66 : decode cX11_isFree 66 = .ok (.invokevirtual 48, 3) := dz_invokevirtual (yu2 zE_cX11_isFree 1 2 (by decide +kernel))
theorem dX11_isFree_69 : decode cX11_isFree 69 = .ok (.if_icmp .ge 173, 3) := dz_if_icmp_ge (ys2 zE_cX11_isFree 1 5 (by decide +kernel))
theorem dX11_isFree_72 : decode cX11_isFree 72 = .ok (.aload_n 0, 1) := dz_aload_n_0 (y0 zE_cX11_isFree 1 8 (by decide +kernel))
theorem dX11_isFree_73 : decode cX11_isFree 73 = .ok (.getfield 19, 3) := dz_getfield (yu2 zE_cX11_isFree 1 9 (by decide +kernel))
theorem dX11_isFree_76 : decode cX11_isFree 76 = .ok (.iload 5, 2) := dz_iload (yu1 zE_cX11_isFree 1 12 (by decide +kernel))
theorem dX11_isFree_78 : decode cX11_isFree 78 = .ok (.invokevirtual 90, 3) := dz_invokevirtual (yu2 zE_cX11_isFree 1 14 (by decide +kernel))
theorem dX11_isFree_81 : decode cX11_isFree 81 = .ok (.checkcast 122, 3) := dz_checkcast (yu2 zE_cX11_isFree 1 17 (by decide +kernel))
theorem dX11_isFree_84 : decode cX11_isFree 84 = .ok (.astore 6, 2) := dz_astore (yu1 zE_cX11_isFree 1 20 (by decide +kernel))
theorem dX11_isFree_86 : decode cX11_isFree 86 = .ok (.iload 5, 2) := dz_iload (yu1 zE_cX11_isFree 1 22 (by decide +kernel))
theorem dX11_isFree_88 : decode cX11_isFree 88 = .ok (.iload_n 2, 1) := dz_iload_n_2 (y0 zE_cX11_isFree 1 24 (by decide +kernel))
theorem dX11_isFree_89 : decode cX11_isFree 89 = .ok (.if_icmp .eq 147, 3) := dz_if_icmp_eq (ys2 zE_cX11_isFree 1 25 (by decide +kernel))
theorem dX11_isFree_92 : decode cX11_isFree 92 = .ok (.aload 6, 2) := dz_aload (yu1 zE_cX11_isFree 1 28 (by decide +kernel))
theorem dX11_isFree_94 : decode cX11_isFree 94 = .ok (.getfield 124, 3) := dz_getfield (yu2 zE_cX11_isFree 1 30 (by decide +kernel))
theorem dX11_isFree_97 : decode cX11_isFree 97 = .ok (.iconst 1, 1) := dz_iconst_1 (y0 zE_cX11_isFree 1 33 (by decide +kernel))
theorem dX11_isFree_98 : decode cX11_isFree 98 = .ok (.if_icmp .ne 138, 3) := dz_if_icmp_ne (ys2 zE_cX11_isFree 1 34 (by decide +kernel))
theorem dX11_isFree_101 : decode cX11_isFree 101 = .ok (.aload 6, 2) := dz_aload (yu1 zE_cX11_isFree 1 37 (by decide +kernel))
theorem dX11_isFree_103 : decode cX11_isFree 103 = .ok (.getfield 130, 3) := dz_getfield (yu2 zE_cX11_isFree 1 39 (by decide +kernel))
theorem dX11_isFree_106 : decode cX11_isFree 106 = .ok (.aload_n 3, 1) := dz_aload_n_3 (y0 zE_cX11_isFree 1 42 (by decide +kernel))
theorem dX11_isFree_107 : decode cX11_isFree 107 = .ok (.getfield 130, 3) := dz_getfield (yu2 zE_cX11_isFree 1 43 (by decide +kernel))
theorem dX11_isFree_110 : decode cX11_isFree 110 = .ok (.if_icmp .ne 126, 3) := dz_if_icmp_ne (ys2 zE_cX11_isFree 1 46 (by decide +kernel))
theorem dX11_isFree_113 : decode cX11_isFree 113 = .ok (.aload 6, 2) := dz_aload (yu1 zE_cX11_isFree 1 49 (by decide +kernel))
theorem dX11_isFree_115 : decode cX11_isFree 115 = .ok (.getfield 160, 3) := dz_getfield (yu2 zE_cX11_isFree 1 51 (by decide +kernel))
theorem dX11_isFree_118 : decode cX11_isFree 118 = .ok (.iload_n 1, 1) := dz_iload_n_1 (y0 zE_cX11_isFree 1 54 (by decide +kernel))
theorem dX11_isFree_119 : decode cX11_isFree 119 = .ok (.invokestatic 102, 3) := dz_invokestatic (yu2 zE_cX11_isFree 1 55 (by decide +kernel))
theorem dX11_isFree_122 : decode cX11_isFree 122 = .ok (.ifCond .ne 6, 3) := dz_ifCond_ne (ys2 zE_cX11_isFree 1 58 (by decide +kernel))
theorem dX11_isFree_125 : decode cX11_isFree 125 = .ok (.goto 111, 3) := dz_goto (ys2 zE_cX11_isFree 1 61 (by decide +kernel))
theorem dX11_isFree_128 : decode cX11_isFree 128 = .ok (.aload 6, 2) := dz_aload (yu1 zE_cX11_isFree 2 0 (by decide +kernel))
theorem dX11_isFree_130 : decode cX11_isFree 130 = .ok (.getfield 146, 3) := dz_getfield (yu2 zE_cX11_isFree 2 2 (by decide +kernel))
theorem dX11_isFree_133 : decode cX11_isFree 133 = .ok (.aload_n 3, 1) := dz_aload_n_3 (y0 zE_cX11_isFree 2 5 (by decide +kernel))
theorem dX11_isFree_134 : decode cX11_isFree 134 = .ok (.getfield 146, 3) := dz_getfield (yu2 zE_cX11_isFree 2 6 (by decide +kernel))
theorem dX11_isFree_137 : decode cX11_isFree 137 = .ok (.if_icmp .lt 21, 3) := dz_if_icmp_lt (ys2 zE_cX11_isFree 2 9 (by decide +kernel))
theorem dX11_isFree_140 : decode cX11_isFree 140 = .ok (.aload 6, 2) := dz_aload (yu1 zE_cX11_isFree 2 12 (by decide +kernel))
theorem dX11_isFree_142 : decode cX11_isFree 142 = .ok (.getfield 146, 3) := dz_getfield (yu2 zE_cX11_isFree 2 14 (by decide +kernel))
theorem dX11_isFree_145 : decode cX11_isFree 145 = .ok (.aload_n 3, 1) := dz_aload_n_3 (y0 zE_cX11_isFree 2 17 (by decide +kernel))
theorem dX11_isFree_146 : decode cX11_isFree 146 = .ok (.getfield 146, 3) := dz_getfield (yu2 zE_cX11_isFree 2 18 (by decide +kernel))
theorem dX11_isFree_149 : decode cX11_isFree 149 = .ok (.if_icmp .ne 13, 3) := dz_if_icmp_ne (ys2 zE_cX11_isFree 2 21 (by decide +kernel))
theorem dX11_isFree_152 : decode cX11_isFree 152 = .ok (.iload 5, 2) := dz_iload (yu1 zE_cX11_isFree 2 24 (by decide +kernel))
theorem dX11_isFree_154 : decode cX11_isFree 154 = .ok (.iload_n 2, 1) := dz_iload_n_2 (y0 zE_cX11_isFree 2 26 (by decide +kernel))
theorem dX11_isFree_155 : decode cX11_isFree 155 = .ok (.if_icmp .ge 7, 3) := dz_if_icmp_ge (ys2 zE_cX11_isFree 2 27 (by decide +kernel))
theorem dX11_isFree_158 : decode cX11_isFree 158 = .ok (.iconst 1, 1) := dz_iconst_1 (y0 zE_cX11_isFree 2 30 (by decide +kernel))
theorem dX11_isFree_159 : decode cX11_isFree 159 = .ok (.goto 4, 3) := dz_goto (ys2 zE_cX11_isFree 2 31 (by decide +kernel))
theorem dX11_isFree_162 : decode cX11_isFree 162 = .ok (.iconst 0, 1) := dz_iconst_0 (y0 zE_cX11_isFree 2 34 (by decide +kernel))
theorem dX11_isFree_163 : decode cX11_isFree 163 = .ok (.istore 7, 2) := dz_istore (yu1 zE_cX11_isFree 2 35 (by decide +kernel))
theorem dX11_isFree_165 : decode cX11_isFree 165 = .ok (.iload 7, 2) := dz_iload (yu1 zE_cX11_isFree 2 37 (by decide +kernel))
theorem dX11_isFree_167 : decode cX11_isFree 167 = .ok (.ifCond .eq 8, 3) := dz_ifCond_eq (ys2 zE_cX11_isFree 2 39 (by decide +kernel))
theorem dX11_isFree_170 : decode cX11_isFree 170 = .ok (.aload 6, 2) := dz_aload (yu1 zE_cX11_isFree 2 42 (by decide +kernel))
theorem dX11_isFree_172 : decode cX11_isFree 172 = .ok (.goto 4, 3) := dz_goto (ys2 zE_cX11_isFree 2 44 (by decide +kernel))
theorem dX11_isFree_175 : decode cX11_isFree 175 = .ok (.aload_n 3, 1) := dz_aload_n_3 (y0 zE_cX11_isFree 2 47 (by decide +kernel))
theorem dX11_isFree_176 : decode cX11_isFree 176 = .ok (.astore 8, 2) := dz_astore (yu1 zE_cX11_isFree 2 48 (by decide +kernel))
theorem dX11_isFree_178 : decode cX11_isFree 178 = .ok (.iload 7, 2) := dz_iload (yu1 zE_cX11_isFree 2 50 (by decide +kernel))
theorem dX11_isFree_180 : decode cX11_isFree 180 = .ok (.ifCond .eq 7, 3) := dz_ifCond_eq (ys2 zE_cX11_isFree 2 52 (by decide +kernel))
theorem dX11_isFree_183 : decode cX11_isFree 183 = .ok (.aload_n 3, 1) := dz_aload_n_3 (y0 zE_cX11_isFree 2 55 (by decide +kernel))
theorem dX11_isFree_184 : decode cX11_isFree 184 = .ok (.goto 5, 3) := dz_goto (ys2 zE_cX11_isFree 2 56 (by decide +kernel))
theorem dX11_isFree_187 : decode cX11_isFree 187 = .ok (.aload 6, 2) := dz_aload (yu1 zE_cX11_isFree 2 59 (by decide +kernel))
theorem dX11_isFree_189 : decode cX11_isFree 189 = .ok (.astore 9, 2) := dz_astore (yu1 zE_cX11_isFree 2 61 (by decide +kernel))
theorem dX11_isFree_191 : decode cX11_isFree 191 = .ok (.aload_n 0, 1) := dz_aload_n_0 (y0 zE_cX11_isFree 2 63 (by decide +kernel))
theorem dX11_isFree_192 : decode cX11_isFree 192 = .ok (.aload_n 3, 1) := dz_aload_n_3 (y0 zE_cX11_isFree 3 0 (by decide +kernel))
theorem dX11_isFree_193 : decode cX11_isFree 193 = .ok (.getfield 143, 3) := dz_getfield (yu2 zE_cX11_isFree 3 1 (by decide +kernel))
theorem dX11_isFree_196 : decode cX11_isFree 196 = .ok (.aload 6, 2) := dz_aload (yu1 zE_cX11_isFree 3 4 (by decide +kernel))
theorem dX11_isFree_198 : decode cX11_isFree 198 = .ok (.getfield 143, 3) := dz_getfield (yu2 zE_cX11_isFree 3 6 (by decide +kernel))
theorem dX11_isFree_201 : decode cX11_isFree 201 = .ok (.invokevirtual 109, 3) := dz_invokevirtual (yu2 zE_cX11_isFree 3 9 (by decide +kernel))
theorem dX11_isFree_204 : decode cX11_isFree 204 = .ok (.istore 10, 2) := dz_istore (yu1 zE_cX11_isFree 3 12 (by decide +kernel))
theorem dX11_isFree_206 : decode cX11_isFree 206 = .ok (.iload 10, 2) := dz_iload (yu1 zE_cX11_isFree 3 14 (by decide +kernel))
theorem dX11_isFree_208 : decode cX11_isFree 208 = .ok (.iconst (-1), 1) := dz_iconst_m1 (y0 zE_cX11_isFree 3 16 (by decide +kernel))
theorem dX11_isFree_209 : decode cX11_isFree 209 = .ok (.if_icmp .eq 25, 3) := dz_if_icmp_eq (ys2 zE_cX11_isFree 3 17 (by decide +kernel))
theorem dX11_isFree_212 : decode cX11_isFree 212 = .ok (.aload 8, 2) := dz_aload (yu1 zE_cX11_isFree 3 20 (by decide +kernel))
theorem dX11_isFree_214 : decode cX11_isFree 214 = .ok (.getfield 146, 3) := dz_getfield (yu2 zE_cX11_isFree 3 22 (by decide +kernel))
theorem dX11_isFree_217 : decode cX11_isFree 217 = .ok (.aload 8, 2) := dz_aload (yu1 zE_cX11_isFree 3 25 (by decide +kernel))
theorem dX11_isFree_219 : decode cX11_isFree 219 = .ok (.getfield 149, 3) := dz_getfield (yu2 zE_cX11_isFree 3 27 (by decide +kernel))
theorem dX11_isFree_222 : decode cX11_isFree 222 = .ok (.iadd, 1) := dz_iadd (y0 zE_cX11_isFree 3 30 (by decide +kernel))
theorem dX11_isFree_223 : decode cX11_isFree 223 = .ok (.iload 10, 2) := dz_iload (yu1 zE_cX11_isFree 3 31 (by decide +kernel))
theorem dX11_isFree_225 : decode cX11_isFree 225 = .ok (.iadd, 1) := dz_iadd (y0 zE_cX11_isFree 3 33 (by decide +kernel))
theorem dX11_isFree_226 : decode cX11_isFree 226 = .ok (.aload 9, 2) := dz_aload (yu1 zE_cX11_isFree 3 34 (by decide +kernel))
theorem dX11_isFree_228 : decode cX11_isFree 228 = .ok (.getfield 146, 3) := dz_getfield (yu2 zE_cX11_isFree 3 36 (by decide +kernel))
theorem dX11_isFree_231 : decode cX11_isFree 231 = .ok (.if_icmp .le 5, 3) := dz_if_icmp_le (ys2 zE_cX11_isFree 3 39 (by decide +kernel))
theorem dX11_isFree_234 : decode cX11_isFree 234 = .ok (.iconst 0, 1) := dz_iconst_0 (y0 zE_cX11_isFree 3 42 (by decide +kernel))
theorem dX11_isFree_235 : decode cX11_isFree 235 = .ok (.ireturn, 1) := dz_ireturn (y0 zE_cX11_isFree 3 43 (by decide +kernel))
theorem dX11_isFree_236 : decode cX11_isFree 236 = .ok (.iinc 5 1, 3) := dz_iinc (yii zE_cX11_isFree 3 44 (by decide +kernel))
theorem dX11_isFree_239 : decode cX11_isFree 239 = .ok (.goto (-179), 3) := dz_goto (ys2 zE_cX11_isFree 3 47 (by decide +kernel))
theorem dX11_isFree_242 : decode cX11_isFree 242 = .ok (.iconst 1, 1) := dz_iconst_1 (y0 zE_cX11_isFree 3 50 (by decide +kernel))
theorem dX11_isFree_243 : decode cX11_isFree 243 = .ok (.ireturn, 1) := dz_ireturn (y0 zE_cX11_isFree 3 51 (by decide +kernel))
theorem gd_wsX11_freeFor : wsX11_freeFor.all goodWord = true := by decide +kernel
set_option maxRecDepth 20000 in
theorem ggX11_freeFor_Jx4a65c_size_8abf5 : GoodIn wsX11_freeFor wsJx4a65c_size_8abf5 := gi_q gd_wsX11_freeFor _ [(6, 2), (54, 3)] rfl
set_option maxRecDepth 20000 in
theorem gX11_freeFor_Jx4a65c_size_8abf5 : GoodIn wsX11_freeFor (wsV RX11 48 RJx4a65c yJx4a65c_size_8abf5 wsJx4a65c_size_8abf5) := goodIn_app (gi_q gd_wsX11_freeFor _ [(2, 4)] rfl) ggX11_freeFor_Jx4a65c_size_8abf5
set_option maxRecDepth 20000 in
theorem ggX11_freeFor_X11_isFree : GoodIn wsX11_freeFor wsX11_isFree := gi_q gd_wsX11_freeFor _ [(12, 3), (1, 1), (15, 4), (5, 1), (19, 1), (7, 1), (20, 16), (11, 1), (36, 2), (2, 3), (6, 1), (38, 16), (57, 19), (54, 3)] rfl
set_option maxRecDepth 20000 in
theorem gX11_freeFor_X11_isFree : GoodIn wsX11_freeFor (wsV RX11 163 RX11 yX11_isFree wsX11_isFree) := goodIn_app (gi_q gd_wsX11_freeFor _ [(8, 4)] rfl) ggX11_freeFor_X11_isFree
def zT_cX11_freeFor : List (List Nat) := [[3, 61, 3, 62, 29, 42, 180, 0, 10, 182, 0, 48, 162, 0, 28, 28, 42, 29, 27, 182, 0, 163, 153, 0, 9, 4, 29, 120, 167, 0, 4, 3, 128, 61, 132, 3, 1, 167, 255, 223, 28, 172]]
theorem zE_cX11_freeFor : zTab cX11_freeFor.data.toList zT_cX11_freeFor = true := by decide +kernel
theorem dX11_freeFor_0 : decode cX11_freeFor 0 = .ok (.iconst 0, 1) := dz_iconst_0 (y0 zE_cX11_freeFor 0 0 (by decide +kernel))
theorem dX11_freeFor_1 : decode cX11_freeFor 1 = .ok (.istore_n 2, 1) := dz_istore_n_2 (y0 zE_cX11_freeFor 0 1 (by decide +kernel))
theorem dX11_freeFor_2 : decode cX11_freeFor 2 = .ok (.iconst 0, 1) := dz_iconst_0 (y0 zE_cX11_freeFor 0 2 (by decide +kernel))
theorem dX11_freeFor_3 : decode cX11_freeFor 3 = .ok (.istore_n 3, 1) := dz_istore_n_3 (y0 zE_cX11_freeFor 0 3 (by decide +kernel))
theorem dX11_freeFor_4 : decode cX11_freeFor 4 = .ok (.iload_n 3, 1) := dz_iload_n_3 (y0 zE_cX11_freeFor 0 4 (by decide +kernel))
theorem dX11_freeFor_5 : decode cX11_freeFor 5 = .ok (.aload_n 0, 1) := dz_aload_n_0 (y0 zE_cX11_freeFor 0 5 (by decide +kernel))
theorem dX11_freeFor_6 : decode cX11_freeFor 6 = .ok (.getfield 10, 3) := dz_getfield (yu2 zE_cX11_freeFor 0 6 (by decide +kernel))
theorem dX11_freeFor_9 : decode cX11_freeFor 9 = .ok (.invokevirtual 48, 3) := dz_invokevirtual (yu2 zE_cX11_freeFor 0 9 (by decide +kernel))
theorem dX11_freeFor_12 : decode cX11_freeFor 12 = .ok (.if_icmp .ge 28, 3) := dz_if_icmp_ge (ys2 zE_cX11_freeFor 0 12 (by decide +kernel))
theorem dX11_freeFor_15 : decode cX11_freeFor 15 = .ok (.iload_n 2, 1) := dz_iload_n_2 (y0 zE_cX11_freeFor 0 15 (by decide +kernel))
theorem dX11_freeFor_16 : decode cX11_freeFor 16 = .ok (.aload_n 0, 1) := dz_aload_n_0 (y0 zE_cX11_freeFor 0 16 (by decide +kernel))
theorem dX11_freeFor_17 : decode cX11_freeFor 17 = .ok (.iload_n 3, 1) := dz_iload_n_3 (y0 zE_cX11_freeFor 0 17 (by decide +kernel))
theorem dX11_freeFor_18 : decode cX11_freeFor 18 = .ok (.iload_n 1, 1) := dz_iload_n_1 (y0 zE_cX11_freeFor 0 18 (by decide +kernel))
theorem dX11_freeFor_19 : decode cX11_freeFor 19 = .ok (.invokevirtual 163, 3) := dz_invokevirtual (yu2 zE_cX11_freeFor 0 19 (by decide +kernel))
theorem dX11_freeFor_22 : decode cX11_freeFor 22 = .ok (.ifCond .eq 9, 3) := dz_ifCond_eq (ys2 zE_cX11_freeFor 0 22 (by decide +kernel))
theorem dX11_freeFor_25 : decode cX11_freeFor 25 = .ok (.iconst 1, 1) := dz_iconst_1 (y0 zE_cX11_freeFor 0 25 (by decide +kernel))
theorem dX11_freeFor_26 : decode cX11_freeFor 26 = .ok (.iload_n 3, 1) := dz_iload_n_3 (y0 zE_cX11_freeFor 0 26 (by decide +kernel))
theorem dX11_freeFor_27 : decode cX11_freeFor 27 = .ok (.ishl, 1) := dz_ishl (y0 zE_cX11_freeFor 0 27 (by decide +kernel))
theorem dX11_freeFor_28 : decode cX11_freeFor 28 = .ok (.goto 4, 3) := dz_goto (ys2 zE_cX11_freeFor 0 28 (by decide +kernel))
theorem dX11_freeFor_31 : decode cX11_freeFor 31 = .ok (.iconst 0, 1) := dz_iconst_0 (y0 zE_cX11_freeFor 0 31 (by decide +kernel))
theorem dX11_freeFor_32 : decode cX11_freeFor 32 = .ok (.ior, 1) := dz_ior (y0 zE_cX11_freeFor 0 32 (by decide +kernel))
theorem dX11_freeFor_33 : decode cX11_freeFor 33 = .ok (.istore_n 2, 1) := dz_istore_n_2 (y0 zE_cX11_freeFor 0 33 (by decide +kernel))
theorem dX11_freeFor_34 : decode cX11_freeFor 34 = .ok (.iinc 3 1, 3) := dz_iinc (yii zE_cX11_freeFor 0 34 (by decide +kernel))
theorem dX11_freeFor_37 : decode cX11_freeFor 37 = .ok (.goto (-33), 3) := dz_goto (ys2 zE_cX11_freeFor 0 37 (by decide +kernel))
theorem dX11_freeFor_40 : decode cX11_freeFor 40 = .ok (.iload_n 2, 1) := dz_iload_n_2 (y0 zE_cX11_freeFor 0 40 (by decide +kernel))
theorem dX11_freeFor_41 : decode cX11_freeFor 41 = .ok (.ireturn, 1) := dz_ireturn (y0 zE_cX11_freeFor 0 41 (by decide +kernel))
theorem gd_wsX11_canPlay : wsX11_canPlay.all goodWord = true := by decide +kernel
set_option maxRecDepth 20000 in
theorem ggX11_canPlay_X11_needed : GoodIn wsX11_canPlay wsX11_needed := gi_q gd_wsX11_canPlay _ [(6, 1)] rfl
set_option maxRecDepth 20000 in
theorem gX11_canPlay_X11_needed : GoodIn wsX11_canPlay (va_wsS RX11 113 yX11_needed wsX11_needed) := goodIn_app (gi_q gd_wsX11_canPlay _ [(3, 3)] rfl) ggX11_canPlay_X11_needed
set_option maxRecDepth 20000 in
theorem ggX11_canPlay_X11_canPlay : GoodIn wsX11_canPlay wsX11_canPlay := gi_q gd_wsX11_canPlay _ [(0, 59)] rfl
set_option maxRecDepth 20000 in
theorem gX11_canPlay_X11_canPlay : GoodIn wsX11_canPlay (wsV RX11 166 RX11 yX11_canPlay wsX11_canPlay) := goodIn_app (gi_q gd_wsX11_canPlay _ [(7, 3), (5, 1)] rfl) ggX11_canPlay_X11_canPlay
set_option maxRecDepth 20000 in
theorem ggX11_canPlay_Jx4a65c_size_8abf5 : GoodIn wsX11_canPlay wsJx4a65c_size_8abf5 := gi_q gd_wsX11_canPlay _ [(14, 2), (56, 3)] rfl
set_option maxRecDepth 20000 in
theorem gX11_canPlay_Jx4a65c_size_8abf5 : GoodIn wsX11_canPlay (wsV RX11 48 RJx4a65c yJx4a65c_size_8abf5 wsJx4a65c_size_8abf5) := goodIn_app (gi_q gd_wsX11_canPlay _ [(10, 4)] rfl) ggX11_canPlay_Jx4a65c_size_8abf5
set_option maxRecDepth 20000 in
theorem ggX11_canPlay_X11_isIn : GoodIn wsX11_canPlay wsX11_isIn := gi_q gd_wsX11_canPlay _ [(18, 1)] rfl
set_option maxRecDepth 20000 in
theorem gX11_canPlay_X11_isIn : GoodIn wsX11_canPlay (va_wsS RX11 102 yX11_isIn wsX11_isIn) := goodIn_app (gi_q gd_wsX11_canPlay _ [(16, 2), (5, 1)] rfl) ggX11_canPlay_X11_isIn
set_option maxRecDepth 20000 in
theorem ggX11_canPlay_Jx4a65c_get_915e3 : GoodIn wsX11_canPlay wsJx4a65c_get_915e3 := gi_q gd_wsX11_canPlay _ [(22, 1), (15, 1), (23, 11), (13, 1), (34, 2), (56, 3)] rfl
set_option maxRecDepth 20000 in
theorem gX11_canPlay_Jx4a65c_get_915e3 : GoodIn wsX11_canPlay (wsV RX11 90 RJx4a65c yJx4a65c_get_915e3 wsJx4a65c_get_915e3) := goodIn_app (gi_q gd_wsX11_canPlay _ [(19, 3), (13, 1)] rfl) ggX11_canPlay_Jx4a65c_get_915e3
def zT_cX11_canPlay : List (List Nat) := [[29, 16, 6, 160, 0, 5, 4, 172, 28, 29, 184, 0, 113, 54, 5, 21, 5, 154, 0, 15, 42, 27, 28, 29, 4, 96, 21, 4, 182, 0, 166, 172, 3, 54, 6, 21, 6, 42, 180, 0, 10, 182, 0, 48, 162, 0, 166, 27, 21, 4, 2, 130, 126, 21, 6, 184, 0, 102, 153, 0, 146, 42, 180, 0, 10, 21, 6, 182], [10, 21, 6, 182, 0, 90, 192, 0, 68, 180, 0, 71, 29, 184, 0, 102, 154, 0, 6, 167, 0, 121, 21, 4, 4, 21, 6, 120, 128, 54, 7, 21, 5, 4, 160, 0, 19, 42, 27, 28, 29, 4, 96, 21, 7, 182, 0, 166, 153, 0, 5, 4, 172, 21, 6, 4, 96, 54, 8, 21, 8, 42, 180, 0, 10, 182, 0, 48], [10, 182, 0, 48, 162, 0, 72, 21, 5, 5, 160, 0, 66, 27, 21, 7, 2, 130, 126, 21, 8, 184, 0, 102, 153, 0, 46, 42, 180, 0, 10, 21, 8, 182, 0, 90, 192, 0, 68, 180, 0, 71, 29, 184, 0, 102, 153, 0, 24, 42, 27, 28, 29, 4, 96, 21, 7, 4, 21, 8, 120, 128, 182, 0, 166, 153, 0, 5], [166, 153, 0, 5, 4, 172, 132, 8, 1, 167, 255, 178, 132, 6, 1, 167, 255, 84, 3, 172]]
theorem zE_cX11_canPlay : zTab cX11_canPlay.data.toList zT_cX11_canPlay = true := by decide +kernel
theorem dX11_canPlay_0 : decode cX11_canPlay 0 = .ok (.iload_n 3, 1) := dz_iload_n_3 (y0 zE_cX11_canPlay 0 0 (by decide +kernel))
theorem dX11_canPlay_1 : decode cX11_canPlay 1 = .ok (.bipush 6, 2) := dz_bipush (ys1 zE_cX11_canPlay 0 1 (by decide +kernel))
theorem dX11_canPlay_3 : decode cX11_canPlay 3 = .ok (.if_icmp .ne 5, 3) := dz_if_icmp_ne (ys2 zE_cX11_canPlay 0 3 (by decide +kernel))
theorem dX11_canPlay_6 : decode cX11_canPlay 6 = .ok (.iconst 1, 1) := dz_iconst_1 (y0 zE_cX11_canPlay 0 6 (by decide +kernel))
theorem dX11_canPlay_7 : decode cX11_canPlay 7 = .ok (.ireturn, 1) := dz_ireturn (y0 zE_cX11_canPlay 0 7 (by decide +kernel))
theorem dX11_canPlay_8 : decode cX11_canPlay 8 = .ok (.iload_n 2, 1) := dz_iload_n_2 (y0 zE_cX11_canPlay 0 8 (by decide +kernel))
theorem dX11_canPlay_9 : decode cX11_canPlay 9 = .ok (.iload_n 3, 1) := dz_iload_n_3 (y0 zE_cX11_canPlay 0 9 (by decide +kernel))
theorem dX11_canPlay_10 : decode cX11_canPlay 10 = .ok (.invokestatic 113, 3) := dz_invokestatic (yu2 zE_cX11_canPlay 0 10 (by decide +kernel))
theorem dX11_canPlay_13 : decode cX11_canPlay 13 = .ok (.istore 5, 2) := dz_istore (yu1 zE_cX11_canPlay 0 13 (by decide +kernel))
theorem dX11_canPlay_15 : decode cX11_canPlay 15 = .ok (.iload 5, 2) := dz_iload (yu1 zE_cX11_canPlay 0 15 (by decide +kernel))
theorem dX11_canPlay_17 : decode cX11_canPlay 17 = .ok (.ifCond .ne 15, 3) := dz_ifCond_ne (ys2 zE_cX11_canPlay 0 17 (by decide +kernel))
theorem dX11_canPlay_20 : decode cX11_canPlay 20 = .ok (.aload_n 0, 1) := dz_aload_n_0 (y0 zE_cX11_canPlay 0 20 (by decide +kernel))
theorem dX11_canPlay_21 : decode cX11_canPlay 21 = .ok (.iload_n 1, 1) := dz_iload_n_1 (y0 zE_cX11_canPlay 0 21 (by decide +kernel))
theorem dX11_canPlay_22 : decode cX11_canPlay 22 = .ok (.iload_n 2, 1) := dz_iload_n_2 (y0 zE_cX11_canPlay 0 22 (by decide +kernel))
theorem dX11_canPlay_23 : decode cX11_canPlay 23 = .ok (.iload_n 3, 1) := dz_iload_n_3 (y0 zE_cX11_canPlay 0 23 (by decide +kernel))
theorem dX11_canPlay_24 : decode cX11_canPlay 24 = .ok (.iconst 1, 1) := dz_iconst_1 (y0 zE_cX11_canPlay 0 24 (by decide +kernel))
theorem dX11_canPlay_25 : decode cX11_canPlay 25 = .ok (.iadd, 1) := dz_iadd (y0 zE_cX11_canPlay 0 25 (by decide +kernel))
theorem dX11_canPlay_26 : decode cX11_canPlay 26 = .ok (.iload 4, 2) := dz_iload (yu1 zE_cX11_canPlay 0 26 (by decide +kernel))
theorem dX11_canPlay_28 : decode cX11_canPlay 28 = .ok (.invokevirtual 166, 3) := dz_invokevirtual (yu2 zE_cX11_canPlay 0 28 (by decide +kernel))
theorem dX11_canPlay_31 : decode cX11_canPlay 31 = .ok (.ireturn, 1) := dz_ireturn (y0 zE_cX11_canPlay 0 31 (by decide +kernel))
theorem dX11_canPlay_32 : decode cX11_canPlay 32 = .ok (.iconst 0, 1) := dz_iconst_0 (y0 zE_cX11_canPlay 0 32 (by decide +kernel))
theorem dX11_canPlay_33 : decode cX11_canPlay 33 = .ok (.istore 6, 2) := dz_istore (yu1 zE_cX11_canPlay 0 33 (by decide +kernel))
theorem dX11_canPlay_35 : decode cX11_canPlay 35 = .ok (.iload 6, 2) := dz_iload (yu1 zE_cX11_canPlay 0 35 (by decide +kernel))
theorem dX11_canPlay_37 : decode cX11_canPlay 37 = .ok (.aload_n 0, 1) := dz_aload_n_0 (y0 zE_cX11_canPlay 0 37 (by decide +kernel))
theorem dX11_canPlay_38 : decode cX11_canPlay 38 = .ok (.getfield 10, 3) := dz_getfield (yu2 zE_cX11_canPlay 0 38 (by decide +kernel))
theorem dX11_canPlay_41 : decode cX11_canPlay 41 = .ok (.invokevirtual 48, 3) := dz_invokevirtual (yu2 zE_cX11_canPlay 0 41 (by decide +kernel))
theorem dX11_canPlay_44 : decode cX11_canPlay 44 = .ok (.if_icmp .ge 166, 3) := dz_if_icmp_ge (ys2 zE_cX11_canPlay 0 44 (by decide +kernel))
theorem dX11_canPlay_47 : decode cX11_canPlay 47 = .ok (.iload_n 1, 1) := dz_iload_n_1 (y0 zE_cX11_canPlay 0 47 (by decide +kernel))
theorem dX11_canPlay_48 : decode cX11_canPlay 48 = .ok (.iload 4, 2) := dz_iload (yu1 zE_cX11_canPlay 0 48 (by decide +kernel))
theorem dX11_canPlay_50 : decode cX11_canPlay 50 = .ok (.iconst (-1), 1) := dz_iconst_m1 (y0 zE_cX11_canPlay 0 50 (by decide +kernel))
theorem dX11_canPlay_51 : decode cX11_canPlay 51 = .ok (.ixor, 1) := dz_ixor (y0 zE_cX11_canPlay 0 51 (by decide +kernel))
theorem dX11_canPlay_52 : decode cX11_canPlay 52 = .ok (.iand, 1) := dz_iand (y0 zE_cX11_canPlay 0 52 (by decide +kernel))
theorem dX11_canPlay_53 : decode cX11_canPlay 53 = .ok (.iload 6, 2) := dz_iload (yu1 zE_cX11_canPlay 0 53 (by decide +kernel))
theorem dX11_canPlay_55 : decode cX11_canPlay 55 = .ok (.invokestatic 102, 3) := dz_invokestatic (yu2 zE_cX11_canPlay 0 55 (by decide +kernel))
theorem dX11_canPlay_58 : decode cX11_canPlay 58 = .ok (.ifCond .eq 146, 3) := dz_ifCond_eq (ys2 zE_cX11_canPlay 0 58 (by decide +kernel))
theorem dX11_canPlay_61 : decode cX11_canPlay 61 = .ok (.aload_n 0, 1) := dz_aload_n_0 (y0 zE_cX11_canPlay 0 61 (by decide +kernel))
theorem dX11_canPlay_62 : decode cX11_canPlay 62 = .ok (.getfield 10, 3) := dz_getfield (yu2 zE_cX11_canPlay 0 62 (by decide +kernel))
theorem dX11_canPlay_65 : decode cX11_canPlay 65 = .ok (.iload 6, 2) := dz_iload (yu1 zE_cX11_canPlay 1 1 (by decide +kernel))
theorem dX11_canPlay_67 : decode cX11_canPlay 67 = .ok (.invokevirtual 90, 3) := dz_invokevirtual (yu2 zE_cX11_canPlay 1 3 (by decide +kernel))
theorem dX11_canPlay_70 : decode cX11_canPlay 70 = .ok (.checkcast 68, 3) := dz_checkcast (yu2 zE_cX11_canPlay 1 6 (by decide +kernel))
theorem dX11_canPlay_73 : decode cX11_canPlay 73 = .ok (.getfield 71, 3) := dz_getfield (yu2 zE_cX11_canPlay 1 9 (by decide +kernel))
theorem dX11_canPlay_76 : decode cX11_canPlay 76 = .ok (.iload_n 3, 1) := dz_iload_n_3 (y0 zE_cX11_canPlay 1 12 (by decide +kernel))
theorem dX11_canPlay_77 : decode cX11_canPlay 77 = .ok (.invokestatic 102, 3) := dz_invokestatic (yu2 zE_cX11_canPlay 1 13 (by decide +kernel))
theorem dX11_canPlay_80 : decode cX11_canPlay 80 = .ok (.ifCond .ne 6, 3) := dz_ifCond_ne (ys2 zE_cX11_canPlay 1 16 (by decide +kernel))
theorem dX11_canPlay_83 : decode cX11_canPlay 83 = .ok (.goto 121, 3) := dz_goto (ys2 zE_cX11_canPlay 1 19 (by decide +kernel))
theorem dX11_canPlay_86 : decode cX11_canPlay 86 = .ok (.iload 4, 2) := dz_iload (yu1 zE_cX11_canPlay 1 22 (by decide +kernel))
theorem dX11_canPlay_88 : decode cX11_canPlay 88 = .ok (.iconst 1, 1) := dz_iconst_1 (y0 zE_cX11_canPlay 1 24 (by decide +kernel))
theorem dX11_canPlay_89 : decode cX11_canPlay 89 = .ok (.iload 6, 2) := dz_iload (yu1 zE_cX11_canPlay 1 25 (by decide +kernel))
theorem dX11_canPlay_91 : decode cX11_canPlay 91 = .ok (.ishl, 1) := dz_ishl (y0 zE_cX11_canPlay 1 27 (by decide +kernel))
theorem dX11_canPlay_92 : decode cX11_canPlay 92 = .ok (.ior, 1) := dz_ior (y0 zE_cX11_canPlay 1 28 (by decide +kernel))
theorem dX11_canPlay_93 : decode cX11_canPlay 93 = .ok (.istore 7, 2) := dz_istore (yu1 zE_cX11_canPlay 1 29 (by decide +kernel))
theorem dX11_canPlay_95 : decode cX11_canPlay 95 = .ok (.iload 5, 2) := dz_iload (yu1 zE_cX11_canPlay 1 31 (by decide +kernel))
theorem dX11_canPlay_97 : decode cX11_canPlay 97 = .ok (.iconst 1, 1) := dz_iconst_1 (y0 zE_cX11_canPlay 1 33 (by decide +kernel))
theorem dX11_canPlay_98 : decode cX11_canPlay 98 = .ok (.if_icmp .ne 19, 3) := dz_if_icmp_ne (ys2 zE_cX11_canPlay 1 34 (by decide +kernel))
theorem dX11_canPlay_101 : decode cX11_canPlay 101 = .ok (.aload_n 0, 1) := dz_aload_n_0 (y0 zE_cX11_canPlay 1 37 (by decide +kernel))
theorem dX11_canPlay_102 : decode cX11_canPlay 102 = .ok (.iload_n 1, 1) := dz_iload_n_1 (y0 zE_cX11_canPlay 1 38 (by decide +kernel))
theorem dX11_canPlay_103 : decode cX11_canPlay 103 = .ok (.iload_n 2, 1) := dz_iload_n_2 (y0 zE_cX11_canPlay 1 39 (by decide +kernel))
theorem dX11_canPlay_104 : decode cX11_canPlay 104 = .ok (.iload_n 3, 1) := dz_iload_n_3 (y0 zE_cX11_canPlay 1 40 (by decide +kernel))
theorem dX11_canPlay_105 : decode cX11_canPlay 105 = .ok (.iconst 1, 1) := dz_iconst_1 (y0 zE_cX11_canPlay 1 41 (by decide +kernel))
theorem dX11_canPlay_106 : decode cX11_canPlay 106 = .ok (.iadd, 1) := dz_iadd (y0 zE_cX11_canPlay 1 42 (by decide +kernel))
theorem dX11_canPlay_107 : decode cX11_canPlay 107 = .ok (.iload 7, 2) := dz_iload (yu1 zE_cX11_canPlay 1 43 (by decide +kernel))
theorem dX11_canPlay_109 : decode cX11_canPlay 109 = .ok (.invokevirtual 166, 3) := dz_invokevirtual (yu2 zE_cX11_canPlay 1 45 (by decide +kernel))
theorem dX11_canPlay_112 : decode cX11_canPlay 112 = .ok (.ifCond .eq 5, 3) := dz_ifCond_eq (ys2 zE_cX11_canPlay 1 48 (by decide +kernel))
theorem dX11_canPlay_115 : decode cX11_canPlay 115 = .ok (.iconst 1, 1) := dz_iconst_1 (y0 zE_cX11_canPlay 1 51 (by decide +kernel))
theorem dX11_canPlay_116 : decode cX11_canPlay 116 = .ok (.ireturn, 1) := dz_ireturn (y0 zE_cX11_canPlay 1 52 (by decide +kernel))
theorem dX11_canPlay_117 : decode cX11_canPlay 117 = .ok (.iload 6, 2) := dz_iload (yu1 zE_cX11_canPlay 1 53 (by decide +kernel))
theorem dX11_canPlay_119 : decode cX11_canPlay 119 = .ok (.iconst 1, 1) := dz_iconst_1 (y0 zE_cX11_canPlay 1 55 (by decide +kernel))
theorem dX11_canPlay_120 : decode cX11_canPlay 120 = .ok (.iadd, 1) := dz_iadd (y0 zE_cX11_canPlay 1 56 (by decide +kernel))
theorem dX11_canPlay_121 : decode cX11_canPlay 121 = .ok (.istore 8, 2) := dz_istore (yu1 zE_cX11_canPlay 1 57 (by decide +kernel))
theorem dX11_canPlay_123 : decode cX11_canPlay 123 = .ok (.iload 8, 2) := dz_iload (yu1 zE_cX11_canPlay 1 59 (by decide +kernel))
theorem dX11_canPlay_125 : decode cX11_canPlay 125 = .ok (.aload_n 0, 1) := dz_aload_n_0 (y0 zE_cX11_canPlay 1 61 (by decide +kernel))
theorem dX11_canPlay_126 : decode cX11_canPlay 126 = .ok (.getfield 10, 3) := dz_getfield (yu2 zE_cX11_canPlay 1 62 (by decide +kernel))
theorem dX11_canPlay_129 : decode cX11_canPlay 129 = .ok (.invokevirtual 48, 3) := dz_invokevirtual (yu2 zE_cX11_canPlay 2 1 (by decide +kernel))
theorem dX11_canPlay_132 : decode cX11_canPlay 132 = .ok (.if_icmp .ge 72, 3) := dz_if_icmp_ge (ys2 zE_cX11_canPlay 2 4 (by decide +kernel))
theorem dX11_canPlay_135 : decode cX11_canPlay 135 = .ok (.iload 5, 2) := dz_iload (yu1 zE_cX11_canPlay 2 7 (by decide +kernel))
theorem dX11_canPlay_137 : decode cX11_canPlay 137 = .ok (.iconst 2, 1) := dz_iconst_2 (y0 zE_cX11_canPlay 2 9 (by decide +kernel))
theorem dX11_canPlay_138 : decode cX11_canPlay 138 = .ok (.if_icmp .ne 66, 3) := dz_if_icmp_ne (ys2 zE_cX11_canPlay 2 10 (by decide +kernel))
theorem dX11_canPlay_141 : decode cX11_canPlay 141 = .ok (.iload_n 1, 1) := dz_iload_n_1 (y0 zE_cX11_canPlay 2 13 (by decide +kernel))
theorem dX11_canPlay_142 : decode cX11_canPlay 142 = .ok (.iload 7, 2) := dz_iload (yu1 zE_cX11_canPlay 2 14 (by decide +kernel))
theorem dX11_canPlay_144 : decode cX11_canPlay 144 = .ok (.iconst (-1), 1) := dz_iconst_m1 (y0 zE_cX11_canPlay 2 16 (by decide +kernel))
theorem dX11_canPlay_145 : decode cX11_canPlay 145 = .ok (.ixor, 1) := dz_ixor (y0 zE_cX11_canPlay 2 17 (by decide +kernel))
theorem dX11_canPlay_146 : decode cX11_canPlay 146 = .ok (.iand, 1) := dz_iand (y0 zE_cX11_canPlay 2 18 (by decide +kernel))
theorem dX11_canPlay_147 : decode cX11_canPlay 147 = .ok (.iload 8, 2) := dz_iload (yu1 zE_cX11_canPlay 2 19 (by decide +kernel))
theorem dX11_canPlay_149 : decode cX11_canPlay 149 = .ok (.invokestatic 102, 3) := dz_invokestatic (yu2 zE_cX11_canPlay 2 21 (by decide +kernel))
theorem dX11_canPlay_152 : decode cX11_canPlay 152 = .ok (.ifCond .eq 46, 3) := dz_ifCond_eq (ys2 zE_cX11_canPlay 2 24 (by decide +kernel))
theorem dX11_canPlay_155 : decode cX11_canPlay 155 = .ok (.aload_n 0, 1) := dz_aload_n_0 (y0 zE_cX11_canPlay 2 27 (by decide +kernel))
theorem dX11_canPlay_156 : decode cX11_canPlay 156 = .ok (.getfield 10, 3) := dz_getfield (yu2 zE_cX11_canPlay 2 28 (by decide +kernel))
theorem dX11_canPlay_159 : decode cX11_canPlay 159 = .ok (.iload 8, 2) := dz_iload (yu1 zE_cX11_canPlay 2 31 (by decide +kernel))
theorem dX11_canPlay_161 : decode cX11_canPlay 161 = .ok (.invokevirtual 90, 3) := dz_invokevirtual (yu2 zE_cX11_canPlay 2 33 (by decide +kernel))
theorem dX11_canPlay_164 : decode cX11_canPlay 164 = .ok (.checkcast 68, 3) := dz_checkcast (yu2 zE_cX11_canPlay 2 36 (by decide +kernel))
theorem dX11_canPlay_167 : decode cX11_canPlay 167 = .ok (.getfield 71, 3) := dz_getfield (yu2 zE_cX11_canPlay 2 39 (by decide +kernel))
theorem dX11_canPlay_170 : decode cX11_canPlay 170 = .ok (.iload_n 3, 1) := dz_iload_n_3 (y0 zE_cX11_canPlay 2 42 (by decide +kernel))
theorem dX11_canPlay_171 : decode cX11_canPlay 171 = .ok (.invokestatic 102, 3) := dz_invokestatic (yu2 zE_cX11_canPlay 2 43 (by decide +kernel))
theorem dX11_canPlay_174 : decode cX11_canPlay 174 = .ok (.ifCond .eq 24, 3) := dz_ifCond_eq (ys2 zE_cX11_canPlay 2 46 (by decide +kernel))
theorem dX11_canPlay_177 : decode cX11_canPlay 177 = .ok (.aload_n 0, 1) := dz_aload_n_0 (y0 zE_cX11_canPlay 2 49 (by decide +kernel))
theorem dX11_canPlay_178 : decode cX11_canPlay 178 = .ok (.iload_n 1, 1) := dz_iload_n_1 (y0 zE_cX11_canPlay 2 50 (by decide +kernel))
theorem dX11_canPlay_179 : decode cX11_canPlay 179 = .ok (.iload_n 2, 1) := dz_iload_n_2 (y0 zE_cX11_canPlay 2 51 (by decide +kernel))
theorem dX11_canPlay_180 : decode cX11_canPlay 180 = .ok (.iload_n 3, 1) := dz_iload_n_3 (y0 zE_cX11_canPlay 2 52 (by decide +kernel))
theorem dX11_canPlay_181 : decode cX11_canPlay 181 = .ok (.iconst 1, 1) := dz_iconst_1 (y0 zE_cX11_canPlay 2 53 (by decide +kernel))
theorem dX11_canPlay_182 : decode cX11_canPlay 182 = .ok (.iadd, 1) := dz_iadd (y0 zE_cX11_canPlay 2 54 (by decide +kernel))
theorem dX11_canPlay_183 : decode cX11_canPlay 183 = .ok (.iload 7, 2) := dz_iload (yu1 zE_cX11_canPlay 2 55 (by decide +kernel))
theorem dX11_canPlay_185 : decode cX11_canPlay 185 = .ok (.iconst 1, 1) := dz_iconst_1 (y0 zE_cX11_canPlay 2 57 (by decide +kernel))
theorem dX11_canPlay_186 : decode cX11_canPlay 186 = .ok (.iload 8, 2) := dz_iload (yu1 zE_cX11_canPlay 2 58 (by decide +kernel))
theorem dX11_canPlay_188 : decode cX11_canPlay 188 = .ok (.ishl, 1) := dz_ishl (y0 zE_cX11_canPlay 2 60 (by decide +kernel))
theorem dX11_canPlay_189 : decode cX11_canPlay 189 = .ok (.ior, 1) := dz_ior (y0 zE_cX11_canPlay 2 61 (by decide +kernel))
theorem dX11_canPlay_190 : decode cX11_canPlay 190 = .ok (.invokevirtual 166, 3) := dz_invokevirtual (yu2 zE_cX11_canPlay 2 62 (by decide +kernel))
theorem dX11_canPlay_193 : decode cX11_canPlay 193 = .ok (.ifCond .eq 5, 3) := dz_ifCond_eq (ys2 zE_cX11_canPlay 3 1 (by decide +kernel))
theorem dX11_canPlay_196 : decode cX11_canPlay 196 = .ok (.iconst 1, 1) := dz_iconst_1 (y0 zE_cX11_canPlay 3 4 (by decide +kernel))
theorem dX11_canPlay_197 : decode cX11_canPlay 197 = .ok (.ireturn, 1) := dz_ireturn (y0 zE_cX11_canPlay 3 5 (by decide +kernel))
theorem dX11_canPlay_198 : decode cX11_canPlay 198 = .ok (.iinc 8 1, 3) := dz_iinc (yii zE_cX11_canPlay 3 6 (by decide +kernel))
theorem dX11_canPlay_201 : decode cX11_canPlay 201 = .ok (.goto (-78), 3) := dz_goto (ys2 zE_cX11_canPlay 3 9 (by decide +kernel))
theorem dX11_canPlay_204 : decode cX11_canPlay 204 = .ok (.iinc 6 1, 3) := dz_iinc (yii zE_cX11_canPlay 3 12 (by decide +kernel))
theorem dX11_canPlay_207 : decode cX11_canPlay 207 = .ok (.goto (-172), 3) := dz_goto (ys2 zE_cX11_canPlay 3 15 (by decide +kernel))
theorem dX11_canPlay_210 : decode cX11_canPlay 210 = .ok (.iconst 0, 1) := dz_iconst_0 (y0 zE_cX11_canPlay 3 18 (by decide +kernel))
theorem dX11_canPlay_211 : decode cX11_canPlay 211 = .ok (.ireturn, 1) := dz_ireturn (y0 zE_cX11_canPlay 3 19 (by decide +kernel))
theorem gd_wsX11_isPeaceful : wsX11_isPeaceful.all goodWord = true := by decide +kernel
set_option maxRecDepth 20000 in
theorem ggX11_isPeaceful_Jx4a65c_size_8abf5 : GoodIn wsX11_isPeaceful wsJx4a65c_size_8abf5 := gi_q gd_wsX11_isPeaceful _ [(7, 2), (50, 3)] rfl
set_option maxRecDepth 20000 in
theorem gX11_isPeaceful_Jx4a65c_size_8abf5 : GoodIn wsX11_isPeaceful (wsV RX11 48 RJx4a65c yJx4a65c_size_8abf5 wsJx4a65c_size_8abf5) := goodIn_app (gi_q gd_wsX11_isPeaceful _ [(3, 4)] rfl) ggX11_isPeaceful_Jx4a65c_size_8abf5
set_option maxRecDepth 20000 in
theorem ggX11_isPeaceful_X11_isIn : GoodIn wsX11_isPeaceful wsX11_isIn := gi_q gd_wsX11_isPeaceful _ [(12, 1)] rfl
set_option maxRecDepth 20000 in
theorem gX11_isPeaceful_X11_isIn : GoodIn wsX11_isPeaceful (va_wsS RX11 102 yX11_isIn wsX11_isIn) := goodIn_app (gi_q gd_wsX11_isPeaceful _ [(9, 3)] rfl) ggX11_isPeaceful_X11_isIn
set_option maxRecDepth 20000 in
theorem ggX11_isPeaceful_Jx4a65c_get_915e3 : GoodIn wsX11_isPeaceful wsJx4a65c_get_915e3 := gi_q gd_wsX11_isPeaceful _ [(16, 1), (8, 1), (17, 11), (6, 1), (28, 2), (50, 3)] rfl
set_option maxRecDepth 20000 in
theorem gX11_isPeaceful_Jx4a65c_get_915e3 : GoodIn wsX11_isPeaceful (wsV RX11 90 RJx4a65c yJx4a65c_get_915e3 wsJx4a65c_get_915e3) := goodIn_app (gi_q gd_wsX11_isPeaceful _ [(13, 3), (6, 1)] rfl) ggX11_isPeaceful_Jx4a65c_get_915e3
def zT_cX11_isPeaceful : List (List Nat) := [[3, 61, 28, 42, 180, 0, 10, 182, 0, 48, 162, 0, 38, 27, 28, 184, 0, 102, 153, 0, 24, 42, 180, 0, 10, 28, 182, 0, 90, 192, 0, 68, 180, 0, 99, 27, 126, 153, 0, 5, 3, 172, 132, 2, 1, 167, 255, 213, 4, 172]]
theorem zE_cX11_isPeaceful : zTab cX11_isPeaceful.data.toList zT_cX11_isPeaceful = true := by decide +kernel
theorem dX11_isPeaceful_0 : decode cX11_isPeaceful 0 = .ok (.iconst 0, 1) := dz_iconst_0 (y0 zE_cX11_isPeaceful 0 0 (by decide +kernel))
theorem dX11_isPeaceful_1 : decode cX11_isPeaceful 1 = .ok (.istore_n 2, 1) := dz_istore_n_2 (y0 zE_cX11_isPeaceful 0 1 (by decide +kernel))
theorem dX11_isPeaceful_2 : decode cX11_isPeaceful 2 = .ok (.iload_n 2, 1) := dz_iload_n_2 (y0 zE_cX11_isPeaceful 0 2 (by decide +kernel))
theorem dX11_isPeaceful_3 : decode cX11_isPeaceful 3 = .ok (.aload_n 0, 1) := dz_aload_n_0 (y0 zE_cX11_isPeaceful 0 3 (by decide +kernel))
theorem dX11_isPeaceful_4 : decode cX11_isPeaceful 4 = .ok (.getfield 10, 3) := dz_getfield (yu2 zE_cX11_isPeaceful 0 4 (by decide +kernel))
theorem dX11_isPeaceful_7 : decode cX11_isPeaceful 7 = .ok (.invokevirtual 48, 3) := dz_invokevirtual (yu2 zE_cX11_isPeaceful 0 7 (by decide +kernel))
theorem dX11_isPeaceful_10 : decode cX11_isPeaceful 10 = .ok (.if_icmp .ge 38, 3) := dz_if_icmp_ge (ys2 zE_cX11_isPeaceful 0 10 (by decide +kernel))
theorem dX11_isPeaceful_13 : decode cX11_isPeaceful 13 = .ok (.iload_n 1, 1) := dz_iload_n_1 (y0 zE_cX11_isPeaceful 0 13 (by decide +kernel))
theorem dX11_isPeaceful_14 : decode cX11_isPeaceful 14 = .ok (.iload_n 2, 1) := dz_iload_n_2 (y0 zE_cX11_isPeaceful 0 14 (by decide +kernel))
theorem dX11_isPeaceful_15 : decode cX11_isPeaceful 15 = .ok (.invokestatic 102, 3) := dz_invokestatic (yu2 zE_cX11_isPeaceful 0 15 (by decide +kernel))
theorem dX11_isPeaceful_18 : decode cX11_isPeaceful 18 = .ok (.ifCond .eq 24, 3) := dz_ifCond_eq (ys2 zE_cX11_isPeaceful 0 18 (by decide +kernel))
theorem dX11_isPeaceful_21 : decode cX11_isPeaceful 21 = .ok (.aload_n 0, 1) := dz_aload_n_0 (y0 zE_cX11_isPeaceful 0 21 (by decide +kernel))
theorem dX11_isPeaceful_22 : decode cX11_isPeaceful 22 = .ok (.getfield 10, 3) := dz_getfield (yu2 zE_cX11_isPeaceful 0 22 (by decide +kernel))
theorem dX11_isPeaceful_25 : decode cX11_isPeaceful 25 = .ok (.iload_n 2, 1) := dz_iload_n_2 (y0 zE_cX11_isPeaceful 0 25 (by decide +kernel))
theorem dX11_isPeaceful_26 : decode cX11_isPeaceful 26 = .ok (.invokevirtual 90, 3) := dz_invokevirtual (yu2 zE_cX11_isPeaceful 0 26 (by decide +kernel))
theorem dX11_isPeaceful_29 : decode cX11_isPeaceful 29 = .ok (.checkcast 68, 3) := dz_checkcast (yu2 zE_cX11_isPeaceful 0 29 (by decide +kernel))
theorem dX11_isPeaceful_32 : decode cX11_isPeaceful 32 = .ok (.getfield 99, 3) := dz_getfield (yu2 zE_cX11_isPeaceful 0 32 (by decide +kernel))
theorem dX11_isPeaceful_35 : decode cX11_isPeaceful 35 = .ok (.iload_n 1, 1) := dz_iload_n_1 (y0 zE_cX11_isPeaceful 0 35 (by decide +kernel))
theorem dX11_isPeaceful_36 : decode cX11_isPeaceful 36 = .ok (.iand, 1) := dz_iand (y0 zE_cX11_isPeaceful 0 36 (by decide +kernel))
theorem dX11_isPeaceful_37 : decode cX11_isPeaceful 37 = .ok (.ifCond .eq 5, 3) := dz_ifCond_eq (ys2 zE_cX11_isPeaceful 0 37 (by decide +kernel))
theorem dX11_isPeaceful_40 : decode cX11_isPeaceful 40 = .ok (.iconst 0, 1) := dz_iconst_0 (y0 zE_cX11_isPeaceful 0 40 (by decide +kernel))
theorem dX11_isPeaceful_41 : decode cX11_isPeaceful 41 = .ok (.ireturn, 1) := dz_ireturn (y0 zE_cX11_isPeaceful 0 41 (by decide +kernel))
theorem dX11_isPeaceful_42 : decode cX11_isPeaceful 42 = .ok (.iinc 2 1, 3) := dz_iinc (yii zE_cX11_isPeaceful 0 42 (by decide +kernel))
theorem dX11_isPeaceful_45 : decode cX11_isPeaceful 45 = .ok (.goto (-43), 3) := dz_goto (ys2 zE_cX11_isPeaceful 0 45 (by decide +kernel))
theorem dX11_isPeaceful_48 : decode cX11_isPeaceful 48 = .ok (.iconst 1, 1) := dz_iconst_1 (y0 zE_cX11_isPeaceful 0 48 (by decide +kernel))
theorem dX11_isPeaceful_49 : decode cX11_isPeaceful 49 = .ok (.ireturn, 1) := dz_ireturn (y0 zE_cX11_isPeaceful 0 49 (by decide +kernel))
theorem gd_wsX11_isKnown : wsX11_isKnown.all goodWord = true := by decide +kernel
set_option maxRecDepth 20000 in
theorem ggX11_isKnown_Jx4a65c_size_8abf5 : GoodIn wsX11_isKnown wsJx4a65c_size_8abf5 := gi_q gd_wsX11_isKnown _ [(7, 2), (57, 3)] rfl
set_option maxRecDepth 20000 in
theorem gX11_isKnown_Jx4a65c_size_8abf5 : GoodIn wsX11_isKnown (wsV RX11 48 RJx4a65c yJx4a65c_size_8abf5 wsJx4a65c_size_8abf5) := goodIn_app (gi_q gd_wsX11_isKnown _ [(3, 4)] rfl) ggX11_isKnown_Jx4a65c_size_8abf5
set_option maxRecDepth 20000 in
theorem ggX11_isKnown_X11_isIn : GoodIn wsX11_isKnown wsX11_isIn := gi_q gd_wsX11_isKnown _ [(12, 1)] rfl
set_option maxRecDepth 20000 in
theorem gX11_isKnown_X11_isIn : GoodIn wsX11_isKnown (va_wsS RX11 102 yX11_isIn wsX11_isIn) := goodIn_app (gi_q gd_wsX11_isKnown _ [(9, 3)] rfl) ggX11_isKnown_X11_isIn
set_option maxRecDepth 20000 in
theorem ggX11_isKnown_Jx4a65c_get_915e3 : GoodIn wsX11_isKnown wsJx4a65c_get_915e3 := gi_q gd_wsX11_isKnown _ [(16, 1), (8, 1), (17, 11), (6, 1), (28, 2), (57, 3)] rfl
set_option maxRecDepth 20000 in
theorem gX11_isKnown_Jx4a65c_get_915e3 : GoodIn wsX11_isKnown (wsV RX11 90 RJx4a65c yJx4a65c_get_915e3 wsJx4a65c_get_915e3) := goodIn_app (gi_q gd_wsX11_isKnown _ [(13, 3), (6, 1)] rfl) ggX11_isKnown_Jx4a65c_get_915e3
set_option maxRecDepth 20000 in
theorem ggX11_isKnown_J6_bitCount_0f7a4 : GoodIn wsX11_isKnown wsJ6_bitCount_0f7a4 := gi_q gd_wsX11_isKnown _ [(33, 4)] rfl
set_option maxRecDepth 20000 in
theorem gX11_isKnown_J6_bitCount_0f7a4 : GoodIn wsX11_isKnown (va_wsS RX11 94 yJ6_bitCount_0f7a4 wsJ6_bitCount_0f7a4) := goodIn_app (gi_q gd_wsX11_isKnown _ [(30, 3)] rfl) ggX11_isKnown_J6_bitCount_0f7a4
def zT_cX11_isKnown : List (List Nat) := [[3, 62, 3, 54, 4, 21, 4, 42, 180, 0, 10, 182, 0, 48, 162, 0, 48, 29, 27, 21, 4, 184, 0, 102, 153, 0, 29, 42, 180, 0, 10, 21, 4, 182, 0, 90, 192, 0, 68, 180, 0, 74, 28, 184, 0, 102, 153, 0, 7, 4, 167, 0, 4, 3, 96, 62, 132, 4, 1, 167, 255, 202, 29, 5, 162, 0, 16, 29], [162, 0, 16, 29, 4, 160, 0, 15, 27, 184, 0, 94, 4, 160, 0, 7, 4, 167, 0, 4, 3, 172]]
theorem zE_cX11_isKnown : zTab cX11_isKnown.data.toList zT_cX11_isKnown = true := by decide +kernel
theorem dX11_isKnown_0 : decode cX11_isKnown 0 = .ok (.iconst 0, 1) := dz_iconst_0 (y0 zE_cX11_isKnown 0 0 (by decide +kernel))
theorem dX11_isKnown_1 : decode cX11_isKnown 1 = .ok (.istore_n 3, 1) := dz_istore_n_3 (y0 zE_cX11_isKnown 0 1 (by decide +kernel))
theorem dX11_isKnown_2 : decode cX11_isKnown 2 = .ok (.iconst 0, 1) := dz_iconst_0 (y0 zE_cX11_isKnown 0 2 (by decide +kernel))
theorem dX11_isKnown_3 : decode cX11_isKnown 3 = .ok (.istore 4, 2) := dz_istore (yu1 zE_cX11_isKnown 0 3 (by decide +kernel))
theorem dX11_isKnown_5 : decode cX11_isKnown 5 = .ok (.iload 4, 2) := dz_iload (yu1 zE_cX11_isKnown 0 5 (by decide +kernel))
theorem dX11_isKnown_7 : decode cX11_isKnown 7 = .ok (.aload_n 0, 1) := dz_aload_n_0 (y0 zE_cX11_isKnown 0 7 (by decide +kernel))
theorem dX11_isKnown_8 : decode cX11_isKnown 8 = .ok (.getfield 10, 3) := dz_getfield (yu2 zE_cX11_isKnown 0 8 (by decide +kernel))
theorem dX11_isKnown_11 : decode cX11_isKnown 11 = .ok (.invokevirtual 48, 3) := dz_invokevirtual (yu2 zE_cX11_isKnown 0 11 (by decide +kernel))
theorem dX11_isKnown_14 : decode cX11_isKnown 14 = .ok (.if_icmp .ge 48, 3) := dz_if_icmp_ge (ys2 zE_cX11_isKnown 0 14 (by decide +kernel))
theorem dX11_isKnown_17 : decode cX11_isKnown 17 = .ok (.iload_n 3, 1) := dz_iload_n_3 (y0 zE_cX11_isKnown 0 17 (by decide +kernel))
theorem dX11_isKnown_18 : decode cX11_isKnown 18 = .ok (.iload_n 1, 1) := dz_iload_n_1 (y0 zE_cX11_isKnown 0 18 (by decide +kernel))
theorem dX11_isKnown_19 : decode cX11_isKnown 19 = .ok (.iload 4, 2) := dz_iload (yu1 zE_cX11_isKnown 0 19 (by decide +kernel))
theorem dX11_isKnown_21 : decode cX11_isKnown 21 = .ok (.invokestatic 102, 3) := dz_invokestatic (yu2 zE_cX11_isKnown 0 21 (by decide +kernel))
theorem dX11_isKnown_24 : decode cX11_isKnown 24 = .ok (.ifCond .eq 29, 3) := dz_ifCond_eq (ys2 zE_cX11_isKnown 0 24 (by decide +kernel))
theorem dX11_isKnown_27 : decode cX11_isKnown 27 = .ok (.aload_n 0, 1) := dz_aload_n_0 (y0 zE_cX11_isKnown 0 27 (by decide +kernel))
theorem dX11_isKnown_28 : decode cX11_isKnown 28 = .ok (.getfield 10, 3) := dz_getfield (yu2 zE_cX11_isKnown 0 28 (by decide +kernel))
theorem dX11_isKnown_31 : decode cX11_isKnown 31 = .ok (.iload 4, 2) := dz_iload (yu1 zE_cX11_isKnown 0 31 (by decide +kernel))
theorem dX11_isKnown_33 : decode cX11_isKnown 33 = .ok (.invokevirtual 90, 3) := dz_invokevirtual (yu2 zE_cX11_isKnown 0 33 (by decide +kernel))
theorem dX11_isKnown_36 : decode cX11_isKnown 36 = .ok (.checkcast 68, 3) := dz_checkcast (yu2 zE_cX11_isKnown 0 36 (by decide +kernel))
theorem dX11_isKnown_39 : decode cX11_isKnown 39 = .ok (.getfield 74, 3) := dz_getfield (yu2 zE_cX11_isKnown 0 39 (by decide +kernel))
theorem dX11_isKnown_42 : decode cX11_isKnown 42 = .ok (.iload_n 2, 1) := dz_iload_n_2 (y0 zE_cX11_isKnown 0 42 (by decide +kernel))
theorem dX11_isKnown_43 : decode cX11_isKnown 43 = .ok (.invokestatic 102, 3) := dz_invokestatic (yu2 zE_cX11_isKnown 0 43 (by decide +kernel))
theorem dX11_isKnown_46 : decode cX11_isKnown 46 = .ok (.ifCond .eq 7, 3) := dz_ifCond_eq (ys2 zE_cX11_isKnown 0 46 (by decide +kernel))
theorem dX11_isKnown_49 : decode cX11_isKnown 49 = .ok (.iconst 1, 1) := dz_iconst_1 (y0 zE_cX11_isKnown 0 49 (by decide +kernel))
theorem dX11_isKnown_50 : decode cX11_isKnown 50 = .ok (.goto 4, 3) := dz_goto (ys2 zE_cX11_isKnown 0 50 (by decide +kernel))
theorem dX11_isKnown_53 : decode cX11_isKnown 53 = .ok (.iconst 0, 1) := dz_iconst_0 (y0 zE_cX11_isKnown 0 53 (by decide +kernel))
theorem dX11_isKnown_54 : decode cX11_isKnown 54 = .ok (.iadd, 1) := dz_iadd (y0 zE_cX11_isKnown 0 54 (by decide +kernel))
theorem dX11_isKnown_55 : decode cX11_isKnown 55 = .ok (.istore_n 3, 1) := dz_istore_n_3 (y0 zE_cX11_isKnown 0 55 (by decide +kernel))
theorem dX11_isKnown_56 : decode cX11_isKnown 56 = .ok (.iinc 4 1, 3) := dz_iinc (yii zE_cX11_isKnown 0 56 (by decide +kernel))
theorem dX11_isKnown_59 : decode cX11_isKnown 59 = .ok (.goto (-54), 3) := dz_goto (ys2 zE_cX11_isKnown 0 59 (by decide +kernel))
theorem dX11_isKnown_62 : decode cX11_isKnown 62 = .ok (.iload_n 3, 1) := dz_iload_n_3 (y0 zE_cX11_isKnown 0 62 (by decide +kernel))
theorem dX11_isKnown_63 : decode cX11_isKnown 63 = .ok (.iconst 2, 1) := dz_iconst_2 (y0 zE_cX11_isKnown 0 63 (by decide +kernel))
theorem dX11_isKnown_64 : decode cX11_isKnown 64 = .ok (.if_icmp .ge 16, 3) := dz_if_icmp_ge (ys2 zE_cX11_isKnown 1 0 (by decide +kernel))
theorem dX11_isKnown_67 : decode cX11_isKnown 67 = .ok (.iload_n 3, 1) := dz_iload_n_3 (y0 zE_cX11_isKnown 1 3 (by decide +kernel))
theorem dX11_isKnown_68 : decode cX11_isKnown 68 = .ok (.iconst 1, 1) := dz_iconst_1 (y0 zE_cX11_isKnown 1 4 (by decide +kernel))
theorem dX11_isKnown_69 : decode cX11_isKnown 69 = .ok (.if_icmp .ne 15, 3) := dz_if_icmp_ne (ys2 zE_cX11_isKnown 1 5 (by decide +kernel))
theorem dX11_isKnown_72 : decode cX11_isKnown 72 = .ok (.iload_n 1, 1) := dz_iload_n_1 (y0 zE_cX11_isKnown 1 8 (by decide +kernel))
theorem dX11_isKnown_73 : decode cX11_isKnown 73 = .ok (.invokestatic 94, 3) := dz_invokestatic (yu2 zE_cX11_isKnown 1 9 (by decide +kernel))
theorem dX11_isKnown_76 : decode cX11_isKnown 76 = .ok (.iconst 1, 1) := dz_iconst_1 (y0 zE_cX11_isKnown 1 12 (by decide +kernel))
theorem dX11_isKnown_77 : decode cX11_isKnown 77 = .ok (.if_icmp .ne 7, 3) := dz_if_icmp_ne (ys2 zE_cX11_isKnown 1 13 (by decide +kernel))
theorem dX11_isKnown_80 : decode cX11_isKnown 80 = .ok (.iconst 1, 1) := dz_iconst_1 (y0 zE_cX11_isKnown 1 16 (by decide +kernel))
theorem dX11_isKnown_81 : decode cX11_isKnown 81 = .ok (.goto 4, 3) := dz_goto (ys2 zE_cX11_isKnown 1 17 (by decide +kernel))
theorem dX11_isKnown_84 : decode cX11_isKnown 84 = .ok (.iconst 0, 1) := dz_iconst_0 (y0 zE_cX11_isKnown 1 20 (by decide +kernel))
theorem dX11_isKnown_85 : decode cX11_isKnown 85 = .ok (.ireturn, 1) := dz_ireturn (y0 zE_cX11_isKnown 1 21 (by decide +kernel))
theorem gd_wsX11_areKnown : wsX11_areKnown.all goodWord = true := by decide +kernel
set_option maxRecDepth 20000 in
theorem ggX11_areKnown_X11_isIn : GoodIn wsX11_areKnown wsX11_isIn := gi_q gd_wsX11_areKnown _ [(4, 1)] rfl
set_option maxRecDepth 20000 in
theorem gX11_areKnown_X11_isIn : GoodIn wsX11_areKnown (va_wsS RX11 102 yX11_isIn wsX11_isIn) := goodIn_app (gi_q gd_wsX11_areKnown _ [(1, 3)] rfl) ggX11_areKnown_X11_isIn
set_option maxRecDepth 20000 in
theorem ggX11_areKnown_X11_isKnown : GoodIn wsX11_areKnown wsX11_isKnown := gi_q gd_wsX11_areKnown _ [(8, 9), (1, 4), (17, 47)] rfl
set_option maxRecDepth 20000 in
theorem gX11_areKnown_X11_isKnown : GoodIn wsX11_areKnown (wsV RX11 170 RX11 yX11_isKnown wsX11_isKnown) := goodIn_app (gi_q gd_wsX11_areKnown _ [(5, 3), (3, 1)] rfl) ggX11_areKnown_X11_isKnown
def zT_cX11_areKnown : List (List Nat) := [[3, 62, 29, 16, 16, 162, 0, 28, 28, 29, 184, 0, 102, 153, 0, 14, 42, 27, 29, 182, 0, 170, 154, 0, 5, 3, 172, 132, 3, 1, 167, 255, 228, 4, 172]]
theorem zE_cX11_areKnown : zTab cX11_areKnown.data.toList zT_cX11_areKnown = true := by decide +kernel
theorem dX11_areKnown_0 : decode cX11_areKnown 0 = .ok (.iconst 0, 1) := dz_iconst_0 (y0 zE_cX11_areKnown 0 0 (by decide +kernel))
theorem dX11_areKnown_1 : decode cX11_areKnown 1 = .ok (.istore_n 3, 1) := dz_istore_n_3 (y0 zE_cX11_areKnown 0 1 (by decide +kernel))
theorem dX11_areKnown_2 : decode cX11_areKnown 2 = .ok (.iload_n 3, 1) := dz_iload_n_3 (y0 zE_cX11_areKnown 0 2 (by decide +kernel))
theorem dX11_areKnown_3 : decode cX11_areKnown 3 = .ok (.bipush 16, 2) := dz_bipush (ys1 zE_cX11_areKnown 0 3 (by decide +kernel))
theorem dX11_areKnown_5 : decode cX11_areKnown 5 = .ok (.if_icmp .ge 28, 3) := dz_if_icmp_ge (ys2 zE_cX11_areKnown 0 5 (by decide +kernel))
theorem dX11_areKnown_8 : decode cX11_areKnown 8 = .ok (.iload_n 2, 1) := dz_iload_n_2 (y0 zE_cX11_areKnown 0 8 (by decide +kernel))
theorem dX11_areKnown_9 : decode cX11_areKnown 9 = .ok (.iload_n 3, 1) := dz_iload_n_3 (y0 zE_cX11_areKnown 0 9 (by decide +kernel))
theorem dX11_areKnown_10 : decode cX11_areKnown 10 = .ok (.invokestatic 102, 3) := dz_invokestatic (yu2 zE_cX11_areKnown 0 10 (by decide +kernel))
theorem dX11_areKnown_13 : decode cX11_areKnown 13 = .ok (.ifCond .eq 14, 3) := dz_ifCond_eq (ys2 zE_cX11_areKnown 0 13 (by decide +kernel))
theorem dX11_areKnown_16 : decode cX11_areKnown 16 = .ok (.aload_n 0, 1) := dz_aload_n_0 (y0 zE_cX11_areKnown 0 16 (by decide +kernel))
theorem dX11_areKnown_17 : decode cX11_areKnown 17 = .ok (.iload_n 1, 1) := dz_iload_n_1 (y0 zE_cX11_areKnown 0 17 (by decide +kernel))
theorem dX11_areKnown_18 : decode cX11_areKnown 18 = .ok (.iload_n 3, 1) := dz_iload_n_3 (y0 zE_cX11_areKnown 0 18 (by decide +kernel))
theorem dX11_areKnown_19 : decode cX11_areKnown 19 = .ok (.invokevirtual 170, 3) := dz_invokevirtual (yu2 zE_cX11_areKnown 0 19 (by decide +kernel))
theorem dX11_areKnown_22 : decode cX11_areKnown 22 = .ok (.ifCond .ne 5, 3) := dz_ifCond_ne (ys2 zE_cX11_areKnown 0 22 (by decide +kernel))
theorem dX11_areKnown_25 : decode cX11_areKnown 25 = .ok (.iconst 0, 1) := dz_iconst_0 (y0 zE_cX11_areKnown 0 25 (by decide +kernel))
theorem dX11_areKnown_26 : decode cX11_areKnown 26 = .ok (.ireturn, 1) := dz_ireturn (y0 zE_cX11_areKnown 0 26 (by decide +kernel))
theorem dX11_areKnown_27 : decode cX11_areKnown 27 = .ok (.iinc 3 1, 3) := dz_iinc (yii zE_cX11_areKnown 0 27 (by decide +kernel))
theorem dX11_areKnown_30 : decode cX11_areKnown 30 = .ok (.goto (-28), 3) := dz_goto (ys2 zE_cX11_areKnown 0 30 (by decide +kernel))
theorem dX11_areKnown_33 : decode cX11_areKnown 33 = .ok (.iconst 1, 1) := dz_iconst_1 (y0 zE_cX11_areKnown 0 33 (by decide +kernel))
theorem dX11_areKnown_34 : decode cX11_areKnown 34 = .ok (.ireturn, 1) := dz_ireturn (y0 zE_cX11_areKnown 0 34 (by decide +kernel))
theorem gd_wsX11_cost : wsX11_cost.all goodWord = true := by decide +kernel
set_option maxRecDepth 20000 in
theorem ggX11_cost_Jx4a65c_get_915e3 : GoodIn wsX11_cost wsJx4a65c_get_915e3 := gi_q gd_wsX11_cost _ [(7, 13), (6, 1), (20, 2), (60, 3)] rfl
set_option maxRecDepth 20000 in
theorem gX11_cost_Jx4a65c_get_915e3 : GoodIn wsX11_cost (wsV RX11 90 RJx4a65c yJx4a65c_get_915e3 wsJx4a65c_get_915e3) := goodIn_app (gi_q gd_wsX11_cost _ [(3, 4)] rfl) ggX11_cost_Jx4a65c_get_915e3
set_option maxRecDepth 20000 in
theorem ggX11_cost_X11_driveOf : GoodIn wsX11_cost wsX11_driveOf := gi_q gd_wsX11_cost _ [(26, 15)] rfl
set_option maxRecDepth 20000 in
theorem gX11_cost_X11_driveOf : GoodIn wsX11_cost (wsV RX11 109 RX11 yX11_driveOf wsX11_driveOf) := goodIn_app (gi_q gd_wsX11_cost _ [(22, 4)] rfl) ggX11_cost_X11_driveOf
def zT_cX11_cost : List (List Nat) := [[42, 180, 0, 10, 27, 182, 0, 90, 192, 0, 68, 78, 42, 45, 180, 0, 77, 44, 180, 0, 143, 182, 0, 109, 54, 4, 45, 180, 0, 80, 44, 180, 0, 149, 104, 21, 4, 2, 160, 0, 7, 3, 167, 0, 8, 16, 10, 21, 4, 104, 96, 172]]
theorem zE_cX11_cost : zTab cX11_cost.data.toList zT_cX11_cost = true := by decide +kernel
theorem dX11_cost_0 : decode cX11_cost 0 = .ok (.aload_n 0, 1) := dz_aload_n_0 (y0 zE_cX11_cost 0 0 (by decide +kernel))
theorem dX11_cost_1 : decode cX11_cost 1 = .ok (.getfield 10, 3) := dz_getfield (yu2 zE_cX11_cost 0 1 (by decide +kernel))
theorem dX11_cost_4 : decode cX11_cost 4 = .ok (.iload_n 1, 1) := dz_iload_n_1 (y0 zE_cX11_cost 0 4 (by decide +kernel))
theorem dX11_cost_5 : decode cX11_cost 5 = .ok (.invokevirtual 90, 3) := dz_invokevirtual (yu2 zE_cX11_cost 0 5 (by decide +kernel))
theorem dX11_cost_8 : decode cX11_cost 8 = .ok (.checkcast 68, 3) := dz_checkcast (yu2 zE_cX11_cost 0 8 (by decide +kernel))
theorem dX11_cost_11 : decode cX11_cost 11 = .ok (.astore_n 3, 1) := dz_astore_n_3 (y0 zE_cX11_cost 0 11 (by decide +kernel))
theorem dX11_cost_12 : decode cX11_cost 12 = .ok (.aload_n 0, 1) := dz_aload_n_0 (y0 zE_cX11_cost 0 12 (by decide +kernel))
theorem dX11_cost_13 : decode cX11_cost 13 = .ok (.aload_n 3, 1) := dz_aload_n_3 (y0 zE_cX11_cost 0 13 (by decide +kernel))
theorem dX11_cost_14 : decode cX11_cost 14 = .ok (.getfield 77, 3) := dz_getfield (yu2 zE_cX11_cost 0 14 (by decide +kernel))
theorem dX11_cost_17 : decode cX11_cost 17 = .ok (.aload_n 2, 1) := dz_aload_n_2 (y0 zE_cX11_cost 0 17 (by decide +kernel))
theorem dX11_cost_18 : decode cX11_cost 18 = .ok (.getfield 143, 3) := dz_getfield (yu2 zE_cX11_cost 0 18 (by decide +kernel))
theorem dX11_cost_21 : decode cX11_cost 21 = .ok (.invokevirtual 109, 3) := dz_invokevirtual (yu2 zE_cX11_cost 0 21 (by decide +kernel))
theorem dX11_cost_24 : decode cX11_cost 24 = .ok (.istore 4, 2) := dz_istore (yu1 zE_cX11_cost 0 24 (by decide +kernel))
theorem dX11_cost_26 : decode cX11_cost 26 = .ok (.aload_n 3, 1) := dz_aload_n_3 (y0 zE_cX11_cost 0 26 (by decide +kernel))
theorem dX11_cost_27 : decode cX11_cost 27 = .ok (.getfield 80, 3) := dz_getfield (yu2 zE_cX11_cost 0 27 (by decide +kernel))
theorem dX11_cost_30 : decode cX11_cost 30 = .ok (.aload_n 2, 1) := dz_aload_n_2 (y0 zE_cX11_cost 0 30 (by decide +kernel))
theorem dX11_cost_31 : decode cX11_cost 31 = .ok (.getfield 149, 3) := dz_getfield (yu2 zE_cX11_cost 0 31 (by decide +kernel))
theorem dX11_cost_34 : decode cX11_cost 34 = .ok (.imul, 1) := dz_imul (y0 zE_cX11_cost 0 34 (by decide +kernel))
theorem dX11_cost_35 : decode cX11_cost 35 = .ok (.iload 4, 2) := dz_iload (yu1 zE_cX11_cost 0 35 (by decide +kernel))
theorem dX11_cost_37 : decode cX11_cost 37 = .ok (.iconst (-1), 1) := dz_iconst_m1 (y0 zE_cX11_cost 0 37 (by decide +kernel))
theorem dX11_cost_38 : decode cX11_cost 38 = .ok (.if_icmp .ne 7, 3) := dz_if_icmp_ne (ys2 zE_cX11_cost 0 38 (by decide +kernel))
theorem dX11_cost_41 : decode cX11_cost 41 = .ok (.iconst 0, 1) := dz_iconst_0 (y0 zE_cX11_cost 0 41 (by decide +kernel))
theorem dX11_cost_42 : decode cX11_cost 42 = .ok (.goto 8, 3) := dz_goto (ys2 zE_cX11_cost 0 42 (by decide +kernel))
theorem dX11_cost_45 : decode cX11_cost 45 = .ok (.bipush 10, 2) := dz_bipush (ys1 zE_cX11_cost 0 45 (by decide +kernel))
theorem dX11_cost_47 : decode cX11_cost 47 = .ok (.iload 4, 2) := dz_iload (yu1 zE_cX11_cost 0 47 (by decide +kernel))
theorem dX11_cost_49 : decode cX11_cost 49 = .ok (.imul, 1) := dz_imul (y0 zE_cX11_cost 0 49 (by decide +kernel))
theorem dX11_cost_50 : decode cX11_cost 50 = .ok (.iadd, 1) := dz_iadd (y0 zE_cX11_cost 0 50 (by decide +kernel))
theorem dX11_cost_51 : decode cX11_cost 51 = .ok (.ireturn, 1) := dz_ireturn (y0 zE_cX11_cost 0 51 (by decide +kernel))
theorem gd_wsX11_costOf : wsX11_costOf.all goodWord = true := by decide +kernel
set_option maxRecDepth 20000 in
theorem ggX11_costOf_Jx4a65c_size_8abf5 : GoodIn wsX11_costOf wsJx4a65c_size_8abf5 := gi_q gd_wsX11_costOf _ [(6, 2), (52, 3)] rfl
set_option maxRecDepth 20000 in
theorem gX11_costOf_Jx4a65c_size_8abf5 : GoodIn wsX11_costOf (wsV RX11 48 RJx4a65c yJx4a65c_size_8abf5 wsJx4a65c_size_8abf5) := goodIn_app (gi_q gd_wsX11_costOf _ [(2, 4)] rfl) ggX11_costOf_Jx4a65c_size_8abf5
set_option maxRecDepth 20000 in
theorem ggX11_costOf_X11_isIn : GoodIn wsX11_costOf wsX11_isIn := gi_q gd_wsX11_costOf _ [(11, 1)] rfl
set_option maxRecDepth 20000 in
theorem gX11_costOf_X11_isIn : GoodIn wsX11_costOf (va_wsS RX11 102 yX11_isIn wsX11_isIn) := goodIn_app (gi_q gd_wsX11_costOf _ [(8, 3)] rfl) ggX11_costOf_X11_isIn
set_option maxRecDepth 20000 in
theorem ggX11_costOf_X11_cost : GoodIn wsX11_costOf wsX11_cost := gi_q gd_wsX11_costOf _ [(15, 1), (1, 1), (16, 4), (5, 1), (20, 1), (7, 1), (21, 16), (10, 1), (37, 15), (55, 19), (52, 3)] rfl
set_option maxRecDepth 20000 in
theorem gX11_costOf_X11_cost : GoodIn wsX11_costOf (wsV RX11 173 RX11 yX11_cost wsX11_cost) := goodIn_app (gi_q gd_wsX11_costOf _ [(12, 3), (10, 1)] rfl) ggX11_costOf_X11_cost
def zT_cX11_costOf : List (List Nat) := [[3, 62, 3, 54, 4, 21, 4, 42, 180, 0, 10, 182, 0, 48, 162, 0, 32, 29, 27, 21, 4, 184, 0, 102, 153, 0, 13, 42, 21, 4, 44, 182, 0, 173, 167, 0, 4, 3, 96, 62, 132, 4, 1, 167, 255, 218, 29, 172]]
theorem zE_cX11_costOf : zTab cX11_costOf.data.toList zT_cX11_costOf = true := by decide +kernel
theorem dX11_costOf_0 : decode cX11_costOf 0 = .ok (.iconst 0, 1) := dz_iconst_0 (y0 zE_cX11_costOf 0 0 (by decide +kernel))
theorem dX11_costOf_1 : decode cX11_costOf 1 = .ok (.istore_n 3, 1) := dz_istore_n_3 (y0 zE_cX11_costOf 0 1 (by decide +kernel))
theorem dX11_costOf_2 : decode cX11_costOf 2 = .ok (.iconst 0, 1) := dz_iconst_0 (y0 zE_cX11_costOf 0 2 (by decide +kernel))
theorem dX11_costOf_3 : decode cX11_costOf 3 = .ok (.istore 4, 2) := dz_istore (yu1 zE_cX11_costOf 0 3 (by decide +kernel))
theorem dX11_costOf_5 : decode cX11_costOf 5 = .ok (.iload 4, 2) := dz_iload (yu1 zE_cX11_costOf 0 5 (by decide +kernel))
theorem dX11_costOf_7 : decode cX11_costOf 7 = .ok (.aload_n 0, 1) := dz_aload_n_0 (y0 zE_cX11_costOf 0 7 (by decide +kernel))
theorem dX11_costOf_8 : decode cX11_costOf 8 = .ok (.getfield 10, 3) := dz_getfield (yu2 zE_cX11_costOf 0 8 (by decide +kernel))
theorem dX11_costOf_11 : decode cX11_costOf 11 = .ok (.invokevirtual 48, 3) := dz_invokevirtual (yu2 zE_cX11_costOf 0 11 (by decide +kernel))
theorem dX11_costOf_14 : decode cX11_costOf 14 = .ok (.if_icmp .ge 32, 3) := dz_if_icmp_ge (ys2 zE_cX11_costOf 0 14 (by decide +kernel))
theorem dX11_costOf_17 : decode cX11_costOf 17 = .ok (.iload_n 3, 1) := dz_iload_n_3 (y0 zE_cX11_costOf 0 17 (by decide +kernel))
theorem dX11_costOf_18 : decode cX11_costOf 18 = .ok (.iload_n 1, 1) := dz_iload_n_1 (y0 zE_cX11_costOf 0 18 (by decide +kernel))
theorem dX11_costOf_19 : decode cX11_costOf 19 = .ok (.iload 4, 2) := dz_iload (yu1 zE_cX11_costOf 0 19 (by decide +kernel))
theorem dX11_costOf_21 : decode cX11_costOf 21 = .ok (.invokestatic 102, 3) := dz_invokestatic (yu2 zE_cX11_costOf 0 21 (by decide +kernel))
theorem dX11_costOf_24 : decode cX11_costOf 24 = .ok (.ifCond .eq 13, 3) := dz_ifCond_eq (ys2 zE_cX11_costOf 0 24 (by decide +kernel))
theorem dX11_costOf_27 : decode cX11_costOf 27 = .ok (.aload_n 0, 1) := dz_aload_n_0 (y0 zE_cX11_costOf 0 27 (by decide +kernel))
theorem dX11_costOf_28 : decode cX11_costOf 28 = .ok (.iload 4, 2) := dz_iload (yu1 zE_cX11_costOf 0 28 (by decide +kernel))
theorem dX11_costOf_30 : decode cX11_costOf 30 = .ok (.aload_n 2, 1) := dz_aload_n_2 (y0 zE_cX11_costOf 0 30 (by decide +kernel))
theorem dX11_costOf_31 : decode cX11_costOf 31 = .ok (.invokevirtual 173, 3) := dz_invokevirtual (yu2 zE_cX11_costOf 0 31 (by decide +kernel))
theorem dX11_costOf_34 : decode cX11_costOf 34 = .ok (.goto 4, 3) := dz_goto (ys2 zE_cX11_costOf 0 34 (by decide +kernel))
theorem dX11_costOf_37 : decode cX11_costOf 37 = .ok (.iconst 0, 1) := dz_iconst_0 (y0 zE_cX11_costOf 0 37 (by decide +kernel))
theorem dX11_costOf_38 : decode cX11_costOf 38 = .ok (.iadd, 1) := dz_iadd (y0 zE_cX11_costOf 0 38 (by decide +kernel))
theorem dX11_costOf_39 : decode cX11_costOf 39 = .ok (.istore_n 3, 1) := dz_istore_n_3 (y0 zE_cX11_costOf 0 39 (by decide +kernel))
theorem dX11_costOf_40 : decode cX11_costOf 40 = .ok (.iinc 4 1, 3) := dz_iinc (yii zE_cX11_costOf 0 40 (by decide +kernel))
theorem dX11_costOf_43 : decode cX11_costOf 43 = .ok (.goto (-38), 3) := dz_goto (ys2 zE_cX11_costOf 0 43 (by decide +kernel))
theorem dX11_costOf_46 : decode cX11_costOf 46 = .ok (.iload_n 3, 1) := dz_iload_n_3 (y0 zE_cX11_costOf 0 46 (by decide +kernel))
theorem dX11_costOf_47 : decode cX11_costOf 47 = .ok (.ireturn, 1) := dz_ireturn (y0 zE_cX11_costOf 0 47 (by decide +kernel))
theorem gd_wsX11_isFilling : wsX11_isFilling.all goodWord = true := by decide +kernel
set_option maxRecDepth 20000 in
theorem ggX11_isFilling_Jx4a65c_get_915e3 : GoodIn wsX11_isFilling wsJx4a65c_get_915e3 := gi_q gd_wsX11_isFilling _ [(7, 13), (6, 1), (20, 2), (91, 3)] rfl
set_option maxRecDepth 20000 in
theorem gX11_isFilling_Jx4a65c_get_915e3 : GoodIn wsX11_isFilling (wsV RX11 90 RJx4a65c yJx4a65c_get_915e3 wsJx4a65c_get_915e3) := goodIn_app (gi_q gd_wsX11_isFilling _ [(3, 4)] rfl) ggX11_isFilling_Jx4a65c_get_915e3
set_option maxRecDepth 20000 in
theorem ggX11_isFilling_J6_intValue_8abf5 : GoodIn wsX11_isFilling wsJ6_intValue_8abf5 := gi_q gd_wsX11_isFilling _ [(26, 2), (94, 1)] rfl
set_option maxRecDepth 20000 in
theorem gX11_isFilling_J6_intValue_8abf5 : GoodIn wsX11_isFilling (wsV RX11 177 RJ6 yJ6_intValue_8abf5 wsJ6_intValue_8abf5) := goodIn_app (gi_q gd_wsX11_isFilling _ [(22, 4)] rfl) ggX11_isFilling_J6_intValue_8abf5
set_option maxRecDepth 20000 in
theorem ggX11_isFilling_J6_bitCount_0f7a4 : GoodIn wsX11_isFilling wsJ6_bitCount_0f7a4 := gi_q gd_wsX11_isFilling _ [(30, 4)] rfl
set_option maxRecDepth 20000 in
theorem gX11_isFilling_J6_bitCount_0f7a4 : GoodIn wsX11_isFilling (va_wsS RX11 94 yJ6_bitCount_0f7a4 wsJ6_bitCount_0f7a4) := goodIn_app (gi_q gd_wsX11_isFilling _ [(28, 2), (25, 1)] rfl) ggX11_isFilling_J6_bitCount_0f7a4
set_option maxRecDepth 20000 in
theorem ggX11_isFilling_X11_needed_ : GoodIn wsX11_isFilling wsX11_needed_ := gi_q gd_wsX11_isFilling _ [(37, 3), (36, 1), (40, 1)] rfl
set_option maxRecDepth 20000 in
theorem gX11_isFilling_X11_needed_ : GoodIn wsX11_isFilling (va_wsS RX11 116 yX11_needed_ wsX11_needed_) := goodIn_app (gi_q gd_wsX11_isFilling _ [(34, 3)] rfl) ggX11_isFilling_X11_needed_
set_option maxRecDepth 20000 in
theorem ggX11_isFilling_X11_isPeaceful : GoodIn wsX11_isFilling wsX11_isPeaceful := gi_q gd_wsX11_isFilling _ [(44, 6), (6, 1), (50, 1), (8, 1), (51, 2), (36, 1), (53, 1), (3, 3), (7, 1), (9, 13), (66, 13), (95, 7), (91, 3)] rfl
set_option maxRecDepth 20000 in
theorem gX11_isFilling_X11_isPeaceful : GoodIn wsX11_isFilling (wsV RX11 180 RX11 yX11_isPeaceful wsX11_isPeaceful) := goodIn_app (gi_q gd_wsX11_isFilling _ [(41, 3), (36, 1)] rfl) ggX11_isFilling_X11_isPeaceful
set_option maxRecDepth 20000 in
theorem ggX11_isFilling_X11_areKnown : GoodIn wsX11_isFilling wsX11_areKnown := gi_q gd_wsX11_isFilling _ [(57, 1), (51, 2), (36, 1), (53, 1), (58, 4), (45, 5), (6, 1), (50, 1), (8, 1), (3, 3), (7, 1), (9, 13), (28, 2), (25, 1), (30, 4), (66, 13), (95, 7), (91, 3)] rfl
set_option maxRecDepth 20000 in
theorem gX11_isFilling_X11_areKnown : GoodIn wsX11_isFilling (wsV RX11 183 RX11 yX11_areKnown wsX11_areKnown) := goodIn_app (gi_q gd_wsX11_isFilling _ [(54, 3), (36, 1)] rfl) ggX11_isFilling_X11_areKnown
set_option maxRecDepth 20000 in
theorem ggX11_isFilling_X11_canPlay : GoodIn wsX11_isFilling wsX11_canPlay := gi_q gd_wsX11_isFilling _ [(65, 1), (45, 2), (38, 2), (36, 1), (40, 1), (62, 3), (47, 3), (6, 1), (50, 1), (8, 1), (51, 3), (3, 3), (7, 1), (9, 13), (66, 13), (95, 7), (91, 3)] rfl
set_option maxRecDepth 20000 in
theorem gX11_isFilling_X11_canPlay : GoodIn wsX11_isFilling (wsV RX11 166 RX11 yX11_canPlay wsX11_canPlay) := goodIn_app (gi_q gd_wsX11_isFilling _ [(62, 3), (36, 1)] rfl) ggX11_isFilling_X11_canPlay
def zT_cX11_isFilling : List (List Nat) := [[42, 180, 0, 16, 44, 180, 0, 127, 182, 0, 90, 192, 0, 95, 182, 0, 177, 62, 27, 184, 0, 94, 29, 184, 0, 116, 160, 0, 38, 42, 27, 182, 0, 180, 153, 0, 30, 42, 27, 44, 180, 0, 152, 182, 0, 183, 153, 0, 18, 42, 27, 29, 3, 3, 182, 0, 166, 153, 0, 7, 4, 167, 0, 4, 3, 172], [3, 172]]
theorem zE_cX11_isFilling : zTab cX11_isFilling.data.toList zT_cX11_isFilling = true := by decide +kernel
theorem dX11_isFilling_0 : decode cX11_isFilling 0 = .ok (.aload_n 0, 1) := dz_aload_n_0 (y0 zE_cX11_isFilling 0 0 (by decide +kernel))
theorem dX11_isFilling_1 : decode cX11_isFilling 1 = .ok (.getfield 16, 3) := dz_getfield (yu2 zE_cX11_isFilling 0 1 (by decide +kernel))
theorem dX11_isFilling_4 : decode cX11_isFilling 4 = .ok (.aload_n 2, 1) := dz_aload_n_2 (y0 zE_cX11_isFilling 0 4 (by decide +kernel))
theorem dX11_isFilling_5 : decode cX11_isFilling 5 = .ok (.getfield 127, 3) := dz_getfield (yu2 zE_cX11_isFilling 0 5 (by decide +kernel))
theorem dX11_isFilling_8 : decode cX11_isFilling 8 = .ok (.invokevirtual 90, 3) := dz_invokevirtual (yu2 zE_cX11_isFilling 0 8 (by decide +kernel))
theorem dX11_isFilling_11 : decode cX11_isFilling 11 = .ok (.checkcast 95, 3) := dz_checkcast (yu2 zE_cX11_isFilling 0 11 (by decide +kernel))
theorem dX11_isFilling_14 : decode cX11_isFilling 14 = .ok (.invokevirtual 177, 3) := dz_invokevirtual (yu2 zE_cX11_isFilling 0 14 (by decide +kernel))
theorem dX11_isFilling_17 : decode cX11_isFilling 17 = .ok (.istore_n 3, 1) := dz_istore_n_3 (y0 zE_cX11_isFilling 0 17 (by decide +kernel))
theorem dX11_isFilling_18 : decode cX11_isFilling 18 = .ok (.iload_n 1, 1) := dz_iload_n_1 (y0 zE_cX11_isFilling 0 18 (by decide +kernel))
theorem dX11_isFilling_19 : decode cX11_isFilling 19 = .ok (.invokestatic 94, 3) := dz_invokestatic (yu2 zE_cX11_isFilling 0 19 (by decide +kernel))
theorem dX11_isFilling_22 : decode cX11_isFilling 22 = .ok (.iload_n 3, 1) := dz_iload_n_3 (y0 zE_cX11_isFilling 0 22 (by decide +kernel))
theorem dX11_isFilling_23 : decode cX11_isFilling 23 = .ok (.invokestatic 116, 3) := dz_invokestatic (yu2 zE_cX11_isFilling 0 23 (by decide +kernel))
theorem dX11_isFilling_26 : decode cX11_isFilling 26 = .ok (.if_icmp .ne 38, 3) := dz_if_icmp_ne (ys2 zE_cX11_isFilling 0 26 (by decide +kernel))
theorem dX11_isFilling_29 : decode cX11_isFilling 29 = .ok (.aload_n 0, 1) := dz_aload_n_0 (y0 zE_cX11_isFilling 0 29 (by decide +kernel))
theorem dX11_isFilling_30 : decode cX11_isFilling 30 = .ok (.iload_n 1, 1) := dz_iload_n_1 (y0 zE_cX11_isFilling 0 30 (by decide +kernel))
theorem dX11_isFilling_31 : decode cX11_isFilling 31 = .ok (.invokevirtual 180, 3) := dz_invokevirtual (yu2 zE_cX11_isFilling 0 31 (by decide +kernel))
theorem dX11_isFilling_34 : decode cX11_isFilling 34 = .ok (.ifCond .eq 30, 3) := dz_ifCond_eq (ys2 zE_cX11_isFilling 0 34 (by decide +kernel))
theorem dX11_isFilling_37 : decode cX11_isFilling 37 = .ok (.aload_n 0, 1) := dz_aload_n_0 (y0 zE_cX11_isFilling 0 37 (by decide +kernel))
theorem dX11_isFilling_38 : decode cX11_isFilling 38 = .ok (.iload_n 1, 1) := dz_iload_n_1 (y0 zE_cX11_isFilling 0 38 (by decide +kernel))
theorem dX11_isFilling_39 : decode cX11_isFilling 39 = .ok (.aload_n 2, 1) := dz_aload_n_2 (y0 zE_cX11_isFilling 0 39 (by decide +kernel))
theorem dX11_isFilling_40 : decode cX11_isFilling 40 = .ok (.getfield 152, 3) := dz_getfield (yu2 zE_cX11_isFilling 0 40 (by decide +kernel))
theorem dX11_isFilling_43 : decode cX11_isFilling 43 = .ok (.invokevirtual 183, 3) := dz_invokevirtual (yu2 zE_cX11_isFilling 0 43 (by decide +kernel))
theorem dX11_isFilling_46 : decode cX11_isFilling 46 = .ok (.ifCond .eq 18, 3) := dz_ifCond_eq (ys2 zE_cX11_isFilling 0 46 (by decide +kernel))
theorem dX11_isFilling_49 : decode cX11_isFilling 49 = .ok (.aload_n 0, 1) := dz_aload_n_0 (y0 zE_cX11_isFilling 0 49 (by decide +kernel))
theorem dX11_isFilling_50 : decode cX11_isFilling 50 = .ok (.iload_n 1, 1) := dz_iload_n_1 (y0 zE_cX11_isFilling 0 50 (by decide +kernel))
theorem dX11_isFilling_51 : decode cX11_isFilling 51 = .ok (.iload_n 3, 1) := dz_iload_n_3 (y0 zE_cX11_isFilling 0 51 (by decide +kernel))
theorem dX11_isFilling_52 : decode cX11_isFilling 52 = .ok (.iconst 0, 1) := dz_iconst_0 (y0 zE_cX11_isFilling 0 52 (by decide +kernel))
theorem dX11_isFilling_53 : decode cX11_isFilling 53 = .ok (.iconst 0, 1) := dz_iconst_0 (y0 zE_cX11_isFilling 0 53 (by decide +kernel))
theorem dX11_isFilling_54 : decode cX11_isFilling 54 = .ok (.invokevirtual 166, 3) := dz_invokevirtual (yu2 zE_cX11_isFilling 0 54 (by decide +kernel))
theorem dX11_isFilling_57 : decode cX11_isFilling 57 = .ok (.ifCond .eq 7, 3) := dz_ifCond_eq (ys2 zE_cX11_isFilling 0 57 (by decide +kernel))
theorem dX11_isFilling_60 : decode cX11_isFilling 60 = .ok (.iconst 1, 1) := dz_iconst_1 (y0 zE_cX11_isFilling 0 60 (by decide +kernel))
theorem dX11_isFilling_61 : decode cX11_isFilling 61 = .ok (.goto 4, 3) := dz_goto (ys2 zE_cX11_isFilling 0 61 (by decide +kernel))
theorem dX11_isFilling_64 : decode cX11_isFilling 64 = .ok (.iconst 0, 1) := dz_iconst_0 (y0 zE_cX11_isFilling 1 0 (by decide +kernel))
theorem dX11_isFilling_65 : decode cX11_isFilling 65 = .ok (.ireturn, 1) := dz_ireturn (y0 zE_cX11_isFilling 1 1 (by decide +kernel))
theorem gd_wsX11_best : wsX11_best.all goodWord = true := by decide +kernel
set_option maxRecDepth 20000 in
theorem ggX11_best_Jx4a65c_get_915e3 : GoodIn wsX11_best wsJx4a65c_get_915e3 := gi_q gd_wsX11_best _ [(7, 13), (6, 1), (20, 2), (110, 3)] rfl
set_option maxRecDepth 20000 in
theorem gX11_best_Jx4a65c_get_915e3 : GoodIn wsX11_best (wsV RX11 90 RJx4a65c yJx4a65c_get_915e3 wsJx4a65c_get_915e3) := goodIn_app (gi_q gd_wsX11_best _ [(3, 4)] rfl) ggX11_best_Jx4a65c_get_915e3
set_option maxRecDepth 20000 in
theorem ggX11_best_X11_freeFor : GoodIn wsX11_best wsX11_freeFor := gi_q gd_wsX11_best _ [(26, 5), (6, 1), (31, 1), (8, 1), (32, 3), (25, 1), (35, 1), (1, 2), (36, 1), (3, 3), (7, 1), (9, 13), (37, 8), (97, 35)] rfl
set_option maxRecDepth 20000 in
theorem gX11_best_X11_freeFor : GoodIn wsX11_best (wsV RX11 186 RX11 yX11_freeFor wsX11_freeFor) := goodIn_app (gi_q gd_wsX11_best _ [(22, 4)] rfl) ggX11_best_X11_freeFor
set_option maxRecDepth 20000 in
theorem ggX11_best_X11_isFilling : GoodIn wsX11_best wsX11_isFilling := gi_q gd_wsX11_best _ [(48, 3), (3, 19), (51, 14), (25, 1), (65, 8), (27, 1), (36, 1), (28, 4), (42, 3), (73, 12), (97, 13), (120, 12), (110, 3), (132, 1), (113, 7)] rfl
set_option maxRecDepth 20000 in
theorem gX11_best_X11_isFilling : GoodIn wsX11_best (wsV RX11 189 RX11 yX11_isFilling wsX11_isFilling) := goodIn_app (gi_q gd_wsX11_best _ [(45, 3), (25, 1)] rfl) ggX11_best_X11_isFilling
set_option maxRecDepth 20000 in
theorem ggX11_best_X11_isBetter : GoodIn wsX11_best wsX11_isBetter := gi_q gd_wsX11_best _ [(88, 1), (57, 2), (54, 1), (59, 4), (89, 3), (25, 1), (92, 1), (27, 4), (6, 1), (31, 1), (8, 1), (42, 3), (93, 4), (36, 1), (3, 3), (7, 1), (9, 13), (37, 5), (97, 35)] rfl
set_option maxRecDepth 20000 in
theorem gX11_best_X11_isBetter : GoodIn wsX11_best (wsV RX11 193 RX11 yX11_isBetter wsX11_isBetter) := goodIn_app (gi_q gd_wsX11_best _ [(85, 3), (25, 1)] rfl) ggX11_best_X11_isBetter
def zT_cX11_best : List (List Nat) := [[42, 180, 0, 19, 27, 182, 0, 90, 192, 0, 122, 58, 4, 42, 27, 182, 0, 186, 28, 2, 130, 126, 54, 5, 2, 54, 6, 21, 5, 21, 5, 116, 126, 54, 7, 3, 54, 8, 21, 7, 158, 0, 55, 21, 7, 21, 5, 100, 21, 5, 126, 54, 8, 42, 21, 7, 25, 4, 182, 0, 189, 153, 0, 27, 21, 6, 2, 159], [21, 6, 2, 159, 0, 17, 42, 21, 7, 21, 6, 29, 25, 4, 182, 0, 193, 153, 0, 7, 21, 7, 54, 6, 21, 8, 54, 7, 167, 255, 202, 21, 6, 172]]
theorem zE_cX11_best : zTab cX11_best.data.toList zT_cX11_best = true := by decide +kernel
theorem dX11_best_0 : decode cX11_best 0 = .ok (.aload_n 0, 1) := dz_aload_n_0 (y0 zE_cX11_best 0 0 (by decide +kernel))
theorem dX11_best_1 : decode cX11_best 1 = .ok (.getfield 19, 3) := dz_getfield (yu2 zE_cX11_best 0 1 (by decide +kernel))
theorem dX11_best_4 : decode cX11_best 4 = .ok (.iload_n 1, 1) := dz_iload_n_1 (y0 zE_cX11_best 0 4 (by decide +kernel))
theorem dX11_best_5 : decode cX11_best 5 = .ok (.invokevirtual 90, 3) := dz_invokevirtual (yu2 zE_cX11_best 0 5 (by decide +kernel))
theorem dX11_best_8 : decode cX11_best 8 = .ok (.checkcast 122, 3) := dz_checkcast (yu2 zE_cX11_best 0 8 (by decide +kernel))
theorem dX11_best_11 : decode cX11_best 11 = .ok (.astore 4, 2) := dz_astore (yu1 zE_cX11_best 0 11 (by decide +kernel))
theorem dX11_best_13 : decode cX11_best 13 = .ok (.aload_n 0, 1) := dz_aload_n_0 (y0 zE_cX11_best 0 13 (by decide +kernel))
theorem dX11_best_14 : decode cX11_best 14 = .ok (.iload_n 1, 1) := dz_iload_n_1 (y0 zE_cX11_best 0 14 (by decide +kernel))
theorem dX11_best_15 : decode cX11_best 15 = .ok (.invokevirtual 186, 3) := dz_invokevirtual (yu2 zE_cX11_best 0 15 (by decide +kernel))
theorem dX11_best_18 : decode cX11_best 18 = .ok (.iload_n 2, 1) := dz_iload_n_2 (y0 zE_cX11_best 0 18 (by decide +kernel))
theorem dX11_best_19 : decode cX11_best 19 = .ok (.iconst (-1), 1) := dz_iconst_m1 (y0 zE_cX11_best 0 19 (by decide +kernel))
theorem dX11_best_20 : decode cX11_best 20 = .ok (.ixor, 1) := dz_ixor (y0 zE_cX11_best 0 20 (by decide +kernel))
theorem dX11_best_21 : decode cX11_best 21 = .ok (.iand, 1) := dz_iand (y0 zE_cX11_best 0 21 (by decide +kernel))
theorem dX11_best_22 : decode cX11_best 22 = .ok (.istore 5, 2) := dz_istore (yu1 zE_cX11_best 0 22 (by decide +kernel))
theorem dX11_best_24 : decode cX11_best 24 = .ok (.iconst (-1), 1) := dz_iconst_m1 (y0 zE_cX11_best 0 24 (by decide +kernel))
theorem dX11_best_25 : decode cX11_best 25 = .ok (.istore 6, 2) := dz_istore (yu1 zE_cX11_best 0 25 (by decide +kernel))
theorem dX11_best_27 : decode cX11_best 27 = .ok (.iload 5, 2) := dz_iload (yu1 zE_cX11_best 0 27 (by decide +kernel))
theorem dX11_best_29 : decode cX11_best 29 = .ok (.iload 5, 2) := dz_iload (yu1 zE_cX11_best 0 29 (by decide +kernel))
theorem dX11_best_31 : decode cX11_best 31 = .ok (.ineg, 1) := dz_ineg (y0 zE_cX11_best 0 31 (by decide +kernel))
theorem dX11_best_32 : decode cX11_best 32 = .ok (.iand, 1) := dz_iand (y0 zE_cX11_best 0 32 (by decide +kernel))
theorem dX11_best_33 : decode cX11_best 33 = .ok (.istore 7, 2) := dz_istore (yu1 zE_cX11_best 0 33 (by decide +kernel))
theorem dX11_best_35 : decode cX11_best 35 = .ok (.iconst 0, 1) := dz_iconst_0 (y0 zE_cX11_best 0 35 (by decide +kernel))
theorem dX11_best_36 : decode cX11_best 36 = .ok (.istore 8, 2) := dz_istore (yu1 zE_cX11_best 0 36 (by decide +kernel))
theorem dX11_best_38 : decode cX11_best 38 = .ok (.iload 7, 2) := dz_iload (yu1 zE_cX11_best 0 38 (by decide +kernel))
theorem dX11_best_40 : decode cX11_best 40 = .ok (.ifCond .le 55, 3) := dz_ifCond_le (ys2 zE_cX11_best 0 40 (by decide +kernel))
theorem dX11_best_43 : decode cX11_best 43 = .ok (.iload 7, 2) := dz_iload (yu1 zE_cX11_best 0 43 (by decide +kernel))
theorem dX11_best_45 : decode cX11_best 45 = .ok (.iload 5, 2) := dz_iload (yu1 zE_cX11_best 0 45 (by decide +kernel))
theorem dX11_best_47 : decode cX11_best 47 = .ok (.isub, 1) := dz_isub (y0 zE_cX11_best 0 47 (by decide +kernel))
theorem dX11_best_48 : decode cX11_best 48 = .ok (.iload 5, 2) := dz_iload (yu1 zE_cX11_best 0 48 (by decide +kernel))
theorem dX11_best_50 : decode cX11_best 50 = .ok (.iand, 1) := dz_iand (y0 zE_cX11_best 0 50 (by decide +kernel))
theorem dX11_best_51 : decode cX11_best 51 = .ok (.istore 8, 2) := dz_istore (yu1 zE_cX11_best 0 51 (by decide +kernel))
theorem dX11_best_53 : decode cX11_best 53 = .ok (.aload_n 0, 1) := dz_aload_n_0 (y0 zE_cX11_best 0 53 (by decide +kernel))
theorem dX11_best_54 : decode cX11_best 54 = .ok (.iload 7, 2) := dz_iload (yu1 zE_cX11_best 0 54 (by decide +kernel))
theorem dX11_best_56 : decode cX11_best 56 = .ok (.aload 4, 2) := dz_aload (yu1 zE_cX11_best 0 56 (by decide +kernel))
theorem dX11_best_58 : decode cX11_best 58 = .ok (.invokevirtual 189, 3) := dz_invokevirtual (yu2 zE_cX11_best 0 58 (by decide +kernel))
theorem dX11_best_61 : decode cX11_best 61 = .ok (.ifCond .eq 27, 3) := dz_ifCond_eq (ys2 zE_cX11_best 0 61 (by decide +kernel))
theorem dX11_best_64 : decode cX11_best 64 = .ok (.iload 6, 2) := dz_iload (yu1 zE_cX11_best 1 0 (by decide +kernel))
theorem dX11_best_66 : decode cX11_best 66 = .ok (.iconst (-1), 1) := dz_iconst_m1 (y0 zE_cX11_best 1 2 (by decide +kernel))
theorem dX11_best_67 : decode cX11_best 67 = .ok (.if_icmp .eq 17, 3) := dz_if_icmp_eq (ys2 zE_cX11_best 1 3 (by decide +kernel))
theorem dX11_best_70 : decode cX11_best 70 = .ok (.aload_n 0, 1) := dz_aload_n_0 (y0 zE_cX11_best 1 6 (by decide +kernel))
theorem dX11_best_71 : decode cX11_best 71 = .ok (.iload 7, 2) := dz_iload (yu1 zE_cX11_best 1 7 (by decide +kernel))
theorem dX11_best_73 : decode cX11_best 73 = .ok (.iload 6, 2) := dz_iload (yu1 zE_cX11_best 1 9 (by decide +kernel))
theorem dX11_best_75 : decode cX11_best 75 = .ok (.iload_n 3, 1) := dz_iload_n_3 (y0 zE_cX11_best 1 11 (by decide +kernel))
theorem dX11_best_76 : decode cX11_best 76 = .ok (.aload 4, 2) := dz_aload (yu1 zE_cX11_best 1 12 (by decide +kernel))
theorem dX11_best_78 : decode cX11_best 78 = .ok (.invokevirtual 193, 3) := dz_invokevirtual (yu2 zE_cX11_best 1 14 (by decide +kernel))
theorem dX11_best_81 : decode cX11_best 81 = .ok (.ifCond .eq 7, 3) := dz_ifCond_eq (ys2 zE_cX11_best 1 17 (by decide +kernel))
theorem dX11_best_84 : decode cX11_best 84 = .ok (.iload 7, 2) := dz_iload (yu1 zE_cX11_best 1 20 (by decide +kernel))
theorem dX11_best_86 : decode cX11_best 86 = .ok (.istore 6, 2) := dz_istore (yu1 zE_cX11_best 1 22 (by decide +kernel))
theorem dX11_best_88 : decode cX11_best 88 = .ok (.iload 8, 2) := dz_iload (yu1 zE_cX11_best 1 24 (by decide +kernel))
theorem dX11_best_90 : decode cX11_best 90 = .ok (.istore 7, 2) := dz_istore (yu1 zE_cX11_best 1 26 (by decide +kernel))
theorem dX11_best_92 : decode cX11_best 92 = .ok (.goto (-54), 3) := dz_goto (ys2 zE_cX11_best 1 28 (by decide +kernel))
theorem dX11_best_95 : decode cX11_best 95 = .ok (.iload 6, 2) := dz_iload (yu1 zE_cX11_best 1 31 (by decide +kernel))
theorem dX11_best_97 : decode cX11_best 97 = .ok (.ireturn, 1) := dz_ireturn (y0 zE_cX11_best 1 33 (by decide +kernel))
theorem gd_wsX11_isBetter : wsX11_isBetter.all goodWord = true := by decide +kernel
set_option maxRecDepth 20000 in
theorem ggX11_isBetter_J6_bitCount_0f7a4 : GoodIn wsX11_isBetter wsJ6_bitCount_0f7a4 := gi_q gd_wsX11_isBetter _ [(4, 4)] rfl
set_option maxRecDepth 20000 in
theorem gX11_isBetter_J6_bitCount_0f7a4 : GoodIn wsX11_isBetter (va_wsS RX11 94 yJ6_bitCount_0f7a4 wsJ6_bitCount_0f7a4) := goodIn_app (gi_q gd_wsX11_isBetter _ [(1, 3)] rfl) ggX11_isBetter_J6_bitCount_0f7a4
set_option maxRecDepth 20000 in
theorem ggX11_isBetter_X11_costOf : GoodIn wsX11_isBetter wsX11_costOf := gi_q gd_wsX11_isBetter _ [(12, 10), (11, 1), (22, 63)] rfl
set_option maxRecDepth 20000 in
theorem gX11_isBetter_X11_costOf : GoodIn wsX11_isBetter (wsV RX11 197 RX11 yX11_costOf wsX11_costOf) := goodIn_app (gi_q gd_wsX11_isBetter _ [(8, 4)] rfl) ggX11_isBetter_X11_costOf
def zT_cX11_isBetter : List (List Nat) := [[27, 29, 126, 184, 0, 94, 28, 29, 126, 184, 0, 94, 100, 54, 5, 21, 5, 157, 0, 25, 21, 5, 154, 0, 24, 42, 27, 25, 4, 182, 0, 197, 42, 28, 25, 4, 182, 0, 197, 162, 0, 7, 4, 167, 0, 4, 3, 172]]
theorem zE_cX11_isBetter : zTab cX11_isBetter.data.toList zT_cX11_isBetter = true := by decide +kernel
theorem dX11_isBetter_0 : decode cX11_isBetter 0 = .ok (.iload_n 1, 1) := dz_iload_n_1 (y0 zE_cX11_isBetter 0 0 (by decide +kernel))
theorem dX11_isBetter_1 : decode cX11_isBetter 1 = .ok (.iload_n 3, 1) := dz_iload_n_3 (y0 zE_cX11_isBetter 0 1 (by decide +kernel))
theorem dX11_isBetter_2 : decode cX11_isBetter 2 = .ok (.iand, 1) := dz_iand (y0 zE_cX11_isBetter 0 2 (by decide +kernel))
theorem dX11_isBetter_3 : decode cX11_isBetter 3 = .ok (.invokestatic 94, 3) := dz_invokestatic (yu2 zE_cX11_isBetter 0 3 (by decide +kernel))
theorem dX11_isBetter_6 : decode cX11_isBetter 6 = .ok (.iload_n 2, 1) := dz_iload_n_2 (y0 zE_cX11_isBetter 0 6 (by decide +kernel))
theorem dX11_isBetter_7 : decode cX11_isBetter 7 = .ok (.iload_n 3, 1) := dz_iload_n_3 (y0 zE_cX11_isBetter 0 7 (by decide +kernel))
theorem dX11_isBetter_8 : decode cX11_isBetter 8 = .ok (.iand, 1) := dz_iand (y0 zE_cX11_isBetter 0 8 (by decide +kernel))
theorem dX11_isBetter_9 : decode cX11_isBetter 9 = .ok (.invokestatic 94, 3) := dz_invokestatic (yu2 zE_cX11_isBetter 0 9 (by decide +kernel))
theorem dX11_isBetter_12 : decode cX11_isBetter 12 = .ok (.isub, 1) := dz_isub (y0 zE_cX11_isBetter 0 12 (by decide +kernel))
theorem dX11_isBetter_13 : decode cX11_isBetter 13 = .ok (.istore 5, 2) := dz_istore (yu1 zE_cX11_isBetter 0 13 (by decide +kernel))
theorem dX11_isBetter_15 : decode cX11_isBetter 15 = .ok (.iload 5, 2) := dz_iload (yu1 zE_cX11_isBetter 0 15 (by decide +kernel))
theorem dX11_isBetter_17 : decode cX11_isBetter 17 = .ok (.ifCond .gt 25, 3) := dz_ifCond_gt (ys2 zE_cX11_isBetter 0 17 (by decide +kernel))
theorem dX11_isBetter_20 : decode cX11_isBetter 20 = .ok (.iload 5, 2) := dz_iload (yu1 zE_cX11_isBetter 0 20 (by decide +kernel))
theorem dX11_isBetter_22 : decode cX11_isBetter 22 = .ok (.ifCond .ne 24, 3) := dz_ifCond_ne (ys2 zE_cX11_isBetter 0 22 (by decide +kernel))
theorem dX11_isBetter_25 : decode cX11_isBetter 25 = .ok (.aload_n 0, 1) := dz_aload_n_0 (y0 zE_cX11_isBetter 0 25 (by decide +kernel))
theorem dX11_isBetter_26 : decode cX11_isBetter 26 = .ok (.iload_n 1, 1) := dz_iload_n_1 (y0 zE_cX11_isBetter 0 26 (by decide +kernel))
theorem dX11_isBetter_27 : decode cX11_isBetter 27 = .ok (.aload 4, 2) := dz_aload (yu1 zE_cX11_isBetter 0 27 (by decide +kernel))
theorem dX11_isBetter_29 : decode cX11_isBetter 29 = .ok (.invokevirtual 197, 3) := dz_invokevirtual (yu2 zE_cX11_isBetter 0 29 (by decide +kernel))
theorem dX11_isBetter_32 : decode cX11_isBetter 32 = .ok (.aload_n 0, 1) := dz_aload_n_0 (y0 zE_cX11_isBetter 0 32 (by decide +kernel))
theorem dX11_isBetter_33 : decode cX11_isBetter 33 = .ok (.iload_n 2, 1) := dz_iload_n_2 (y0 zE_cX11_isBetter 0 33 (by decide +kernel))
theorem dX11_isBetter_34 : decode cX11_isBetter 34 = .ok (.aload 4, 2) := dz_aload (yu1 zE_cX11_isBetter 0 34 (by decide +kernel))
theorem dX11_isBetter_36 : decode cX11_isBetter 36 = .ok (.invokevirtual 197, 3) := dz_invokevirtual (yu2 zE_cX11_isBetter 0 36 (by decide +kernel))
theorem dX11_isBetter_39 : decode cX11_isBetter 39 = .ok (.if_icmp .ge 7, 3) := dz_if_icmp_ge (ys2 zE_cX11_isBetter 0 39 (by decide +kernel))
theorem dX11_isBetter_42 : decode cX11_isBetter 42 = .ok (.iconst 1, 1) := dz_iconst_1 (y0 zE_cX11_isBetter 0 42 (by decide +kernel))
theorem dX11_isBetter_43 : decode cX11_isBetter 43 = .ok (.goto 4, 3) := dz_goto (ys2 zE_cX11_isBetter 0 43 (by decide +kernel))
theorem dX11_isBetter_46 : decode cX11_isBetter 46 = .ok (.iconst 0, 1) := dz_iconst_0 (y0 zE_cX11_isBetter 0 46 (by decide +kernel))
theorem dX11_isBetter_47 : decode cX11_isBetter 47 = .ok (.ireturn, 1) := dz_ireturn (y0 zE_cX11_isBetter 0 47 (by decide +kernel))
theorem gd_wsX11_fillings : wsX11_fillings.all goodWord = true := by decide +kernel
set_option maxRecDepth 20000 in
theorem ggX11_fillings_Jx4a65c_get_915e3 : GoodIn wsX11_fillings wsJx4a65c_get_915e3 := gi_q gd_wsX11_fillings _ [(7, 13), (6, 1), (20, 2), (98, 3)] rfl
set_option maxRecDepth 20000 in
theorem gX11_fillings_Jx4a65c_get_915e3 : GoodIn wsX11_fillings (wsV RX11 90 RJx4a65c yJx4a65c_get_915e3 wsJx4a65c_get_915e3) := goodIn_app (gi_q gd_wsX11_fillings _ [(3, 4)] rfl) ggX11_fillings_Jx4a65c_get_915e3
set_option maxRecDepth 20000 in
theorem ggX11_fillings_X11_freeFor : GoodIn wsX11_fillings wsX11_freeFor := gi_q gd_wsX11_fillings _ [(26, 5), (6, 1), (31, 1), (8, 1), (32, 3), (25, 1), (35, 1), (1, 2), (36, 1), (3, 3), (7, 1), (9, 13), (37, 8), (85, 35)] rfl
set_option maxRecDepth 20000 in
theorem gX11_fillings_X11_freeFor : GoodIn wsX11_fillings (wsV RX11 186 RX11 yX11_freeFor wsX11_freeFor) := goodIn_app (gi_q gd_wsX11_fillings _ [(22, 4)] rfl) ggX11_fillings_X11_freeFor
set_option maxRecDepth 20000 in
theorem ggX11_fillings_X11_isFilling : GoodIn wsX11_fillings wsX11_isFilling := gi_q gd_wsX11_fillings _ [(48, 3), (3, 19), (51, 14), (25, 1), (65, 8), (27, 1), (36, 1), (28, 4), (42, 3), (73, 25), (108, 12), (98, 3), (120, 1), (101, 7)] rfl
set_option maxRecDepth 20000 in
theorem gX11_fillings_X11_isFilling : GoodIn wsX11_fillings (wsV RX11 189 RX11 yX11_isFilling wsX11_isFilling) := goodIn_app (gi_q gd_wsX11_fillings _ [(45, 3), (25, 1)] rfl) ggX11_fillings_X11_isFilling
def zT_cX11_fillings : List (List Nat) := [[42, 180, 0, 19, 27, 182, 0, 90, 192, 0, 122, 77, 42, 27, 182, 0, 186, 62, 3, 54, 4, 4, 54, 5, 21, 5, 29, 163, 0, 38, 21, 4, 21, 5, 29, 2, 130, 126, 154, 0, 17, 42, 21, 5, 44, 182, 0, 189, 153, 0, 7, 4, 167, 0, 4, 3, 96, 54, 4, 132, 5, 1, 167, 255, 218, 21, 4, 172], [218, 21, 4, 172]]
theorem zE_cX11_fillings : zTab cX11_fillings.data.toList zT_cX11_fillings = true := by decide +kernel
theorem dX11_fillings_0 : decode cX11_fillings 0 = .ok (.aload_n 0, 1) := dz_aload_n_0 (y0 zE_cX11_fillings 0 0 (by decide +kernel))
theorem dX11_fillings_1 : decode cX11_fillings 1 = .ok (.getfield 19, 3) := dz_getfield (yu2 zE_cX11_fillings 0 1 (by decide +kernel))
theorem dX11_fillings_4 : decode cX11_fillings 4 = .ok (.iload_n 1, 1) := dz_iload_n_1 (y0 zE_cX11_fillings 0 4 (by decide +kernel))
theorem dX11_fillings_5 : decode cX11_fillings 5 = .ok (.invokevirtual 90, 3) := dz_invokevirtual (yu2 zE_cX11_fillings 0 5 (by decide +kernel))
theorem dX11_fillings_8 : decode cX11_fillings 8 = .ok (.checkcast 122, 3) := dz_checkcast (yu2 zE_cX11_fillings 0 8 (by decide +kernel))
theorem dX11_fillings_11 : decode cX11_fillings 11 = .ok (.astore_n 2, 1) := dz_astore_n_2 (y0 zE_cX11_fillings 0 11 (by decide +kernel))
theorem dX11_fillings_12 : decode cX11_fillings 12 = .ok (.aload_n 0, 1) := dz_aload_n_0 (y0 zE_cX11_fillings 0 12 (by decide +kernel))
theorem dX11_fillings_13 : decode cX11_fillings 13 = .ok (.iload_n 1, 1) := dz_iload_n_1 (y0 zE_cX11_fillings 0 13 (by decide +kernel))
theorem dX11_fillings_14 : decode cX11_fillings 14 = .ok (.invokevirtual 186, 3) := dz_invokevirtual (yu2 zE_cX11_fillings 0 14 (by decide +kernel))
theorem dX11_fillings_17 : decode cX11_fillings 17 = .ok (.istore_n 3, 1) := dz_istore_n_3 (y0 zE_cX11_fillings 0 17 (by decide +kernel))
theorem dX11_fillings_18 : decode cX11_fillings 18 = .ok (.iconst 0, 1) := dz_iconst_0 (y0 zE_cX11_fillings 0 18 (by decide +kernel))
theorem dX11_fillings_19 : decode cX11_fillings 19 = .ok (.istore 4, 2) := dz_istore (yu1 zE_cX11_fillings 0 19 (by decide +kernel))
theorem dX11_fillings_21 : decode cX11_fillings 21 = .ok (.iconst 1, 1) := dz_iconst_1 (y0 zE_cX11_fillings 0 21 (by decide +kernel))
theorem dX11_fillings_22 : decode cX11_fillings 22 = .ok (.istore 5, 2) := dz_istore (yu1 zE_cX11_fillings 0 22 (by decide +kernel))
theorem dX11_fillings_24 : decode cX11_fillings 24 = .ok (.iload 5, 2) := dz_iload (yu1 zE_cX11_fillings 0 24 (by decide +kernel))
theorem dX11_fillings_26 : decode cX11_fillings 26 = .ok (.iload_n 3, 1) := dz_iload_n_3 (y0 zE_cX11_fillings 0 26 (by decide +kernel))
theorem dX11_fillings_27 : decode cX11_fillings 27 = .ok (.if_icmp .gt 38, 3) := dz_if_icmp_gt (ys2 zE_cX11_fillings 0 27 (by decide +kernel))
theorem dX11_fillings_30 : decode cX11_fillings 30 = .ok (.iload 4, 2) := dz_iload (yu1 zE_cX11_fillings 0 30 (by decide +kernel))
theorem dX11_fillings_32 : decode cX11_fillings 32 = .ok (.iload 5, 2) := dz_iload (yu1 zE_cX11_fillings 0 32 (by decide +kernel))
theorem dX11_fillings_34 : decode cX11_fillings 34 = .ok (.iload_n 3, 1) := dz_iload_n_3 (y0 zE_cX11_fillings 0 34 (by decide +kernel))
theorem dX11_fillings_35 : decode cX11_fillings 35 = .ok (.iconst (-1), 1) := dz_iconst_m1 (y0 zE_cX11_fillings 0 35 (by decide +kernel))
theorem dX11_fillings_36 : decode cX11_fillings 36 = .ok (.ixor, 1) := dz_ixor (y0 zE_cX11_fillings 0 36 (by decide +kernel))
theorem dX11_fillings_37 : decode cX11_fillings 37 = .ok (.iand, 1) := dz_iand (y0 zE_cX11_fillings 0 37 (by decide +kernel))
theorem dX11_fillings_38 : decode cX11_fillings 38 = .ok (.ifCond .ne 17, 3) := dz_ifCond_ne (ys2 zE_cX11_fillings 0 38 (by decide +kernel))
theorem dX11_fillings_41 : decode cX11_fillings 41 = .ok (.aload_n 0, 1) := dz_aload_n_0 (y0 zE_cX11_fillings 0 41 (by decide +kernel))
theorem dX11_fillings_42 : decode cX11_fillings 42 = .ok (.iload 5, 2) := dz_iload (yu1 zE_cX11_fillings 0 42 (by decide +kernel))
theorem dX11_fillings_44 : decode cX11_fillings 44 = .ok (.aload_n 2, 1) := dz_aload_n_2 (y0 zE_cX11_fillings 0 44 (by decide +kernel))
theorem dX11_fillings_45 : decode cX11_fillings 45 = .ok (.invokevirtual 189, 3) := dz_invokevirtual (yu2 zE_cX11_fillings 0 45 (by decide +kernel))
theorem dX11_fillings_48 : decode cX11_fillings 48 = .ok (.ifCond .eq 7, 3) := dz_ifCond_eq (ys2 zE_cX11_fillings 0 48 (by decide +kernel))
theorem dX11_fillings_51 : decode cX11_fillings 51 = .ok (.iconst 1, 1) := dz_iconst_1 (y0 zE_cX11_fillings 0 51 (by decide +kernel))
theorem dX11_fillings_52 : decode cX11_fillings 52 = .ok (.goto 4, 3) := dz_goto (ys2 zE_cX11_fillings 0 52 (by decide +kernel))
theorem dX11_fillings_55 : decode cX11_fillings 55 = .ok (.iconst 0, 1) := dz_iconst_0 (y0 zE_cX11_fillings 0 55 (by decide +kernel))
theorem dX11_fillings_56 : decode cX11_fillings 56 = .ok (.iadd, 1) := dz_iadd (y0 zE_cX11_fillings 0 56 (by decide +kernel))
theorem dX11_fillings_57 : decode cX11_fillings 57 = .ok (.istore 4, 2) := dz_istore (yu1 zE_cX11_fillings 0 57 (by decide +kernel))
theorem dX11_fillings_59 : decode cX11_fillings 59 = .ok (.iinc 5 1, 3) := dz_iinc (yii zE_cX11_fillings 0 59 (by decide +kernel))
theorem dX11_fillings_62 : decode cX11_fillings 62 = .ok (.goto (-38), 3) := dz_goto (ys2 zE_cX11_fillings 0 62 (by decide +kernel))
theorem dX11_fillings_65 : decode cX11_fillings 65 = .ok (.iload 4, 2) := dz_iload (yu1 zE_cX11_fillings 1 1 (by decide +kernel))
theorem dX11_fillings_67 : decode cX11_fillings 67 = .ok (.ireturn, 1) := dz_ireturn (y0 zE_cX11_fillings 1 3 (by decide +kernel))
theorem gd_wsX11_why : wsX11_why.all goodWord = true := by decide +kernel
set_option maxRecDepth 20000 in
theorem ggX11_why_Jx4a65c_get_915e3 : GoodIn wsX11_why wsJx4a65c_get_915e3 := gi_q gd_wsX11_why _ [(9, 13), (8, 1), (22, 2), (126, 3)] rfl
set_option maxRecDepth 20000 in
theorem gX11_why_Jx4a65c_get_915e3 : GoodIn wsX11_why (wsV RX11 90 RJx4a65c yJx4a65c_get_915e3 wsJx4a65c_get_915e3) := goodIn_app (gi_q gd_wsX11_why _ [(5, 4)] rfl) ggX11_why_Jx4a65c_get_915e3
set_option maxRecDepth 20000 in
theorem ggX11_why_J6_intValue_8abf5 : GoodIn wsX11_why wsJ6_intValue_8abf5 := gi_q gd_wsX11_why _ [(28, 2), (129, 1)] rfl
set_option maxRecDepth 20000 in
theorem gX11_why_J6_intValue_8abf5 : GoodIn wsX11_why (wsV RX11 177 RJ6 yJ6_intValue_8abf5 wsJ6_intValue_8abf5) := goodIn_app (gi_q gd_wsX11_why _ [(24, 4)] rfl) ggX11_why_J6_intValue_8abf5
set_option maxRecDepth 20000 in
theorem ggX11_why_X11_freeFor : GoodIn wsX11_why wsX11_freeFor := gi_q gd_wsX11_why _ [(34, 5), (8, 1), (39, 1), (10, 1), (40, 3), (33, 1), (43, 1), (1, 2), (44, 1), (5, 3), (9, 1), (11, 13), (45, 8), (101, 13), (126, 3), (130, 7), (114, 12)] rfl
set_option maxRecDepth 20000 in
theorem gX11_why_X11_freeFor : GoodIn wsX11_why (wsV RX11 186 RX11 yX11_freeFor wsX11_freeFor) := goodIn_app (gi_q gd_wsX11_why _ [(30, 4)] rfl) ggX11_why_X11_freeFor
set_option maxRecDepth 20000 in
theorem ggX11_why_J6_bitCount_0f7a4 : GoodIn wsX11_why wsJ6_bitCount_0f7a4 := gi_q gd_wsX11_why _ [(55, 4)] rfl
set_option maxRecDepth 20000 in
theorem gX11_why_J6_bitCount_0f7a4 : GoodIn wsX11_why (va_wsS RX11 94 yJ6_bitCount_0f7a4 wsJ6_bitCount_0f7a4) := goodIn_app (gi_q gd_wsX11_why _ [(53, 2), (27, 1)] rfl) ggX11_why_J6_bitCount_0f7a4
set_option maxRecDepth 20000 in
theorem ggX11_why_X11_needed_ : GoodIn wsX11_why wsX11_needed_ := gi_q gd_wsX11_why _ [(61, 3), (33, 1), (64, 1)] rfl
set_option maxRecDepth 20000 in
theorem gX11_why_X11_needed_ : GoodIn wsX11_why (va_wsS RX11 116 yX11_needed_ wsX11_needed_) := goodIn_app (gi_q gd_wsX11_why _ [(59, 2), (33, 1)] rfl) ggX11_why_X11_needed_
set_option maxRecDepth 20000 in
theorem ggX11_why_X11_best : GoodIn wsX11_why wsX11_best := gi_q gd_wsX11_why _ [(68, 1), (1, 2), (5, 19), (30, 23), (69, 4), (3, 2), (24, 6), (53, 12), (73, 41), (126, 3), (130, 7), (114, 12), (129, 1)] rfl
set_option maxRecDepth 20000 in
theorem gX11_why_X11_best : GoodIn wsX11_why (wsV RX11 200 RX11 yX11_best wsX11_best) := goodIn_app (gi_q gd_wsX11_why _ [(65, 3), (33, 1)] rfl) ggX11_why_X11_best
set_option maxRecDepth 20000 in
theorem ggX11_why_X11_canPlay : GoodIn wsX11_why wsX11_canPlay := gi_q gd_wsX11_why _ [(88, 1), (35, 1), (44, 1), (62, 2), (33, 1), (64, 1), (85, 3), (36, 3), (8, 1), (39, 1), (10, 1), (50, 3), (5, 3), (9, 1), (11, 13), (101, 13), (130, 7), (126, 3)] rfl
set_option maxRecDepth 20000 in
theorem gX11_why_X11_canPlay : GoodIn wsX11_why (wsV RX11 166 RX11 yX11_canPlay wsX11_canPlay) := goodIn_app (gi_q gd_wsX11_why _ [(85, 3), (33, 1)] rfl) ggX11_why_X11_canPlay
set_option maxRecDepth 20000 in
theorem ggX11_why_X11_areKnown : GoodIn wsX11_why wsX11_areKnown := gi_q gd_wsX11_why _ [(80, 1), (50, 2), (33, 1), (52, 1), (81, 4), (35, 1), (44, 1), (36, 3), (8, 1), (39, 1), (10, 1), (5, 3), (9, 1), (11, 13), (53, 2), (27, 1), (55, 4), (101, 13), (130, 7), (126, 3)] rfl
set_option maxRecDepth 20000 in
theorem gX11_why_X11_areKnown : GoodIn wsX11_why (wsV RX11 183 RX11 yX11_areKnown wsX11_areKnown) := goodIn_app (gi_q gd_wsX11_why _ [(77, 3), (33, 1)] rfl) ggX11_why_X11_areKnown
def zT_cX11_why : List (List Nat) := [[42, 180, 0, 19, 27, 182, 0, 90, 192, 0, 122, 77, 42, 180, 0, 16, 44, 180, 0, 127, 182, 0, 90, 192, 0, 95, 182, 0, 177, 62, 42, 27, 182, 0, 186, 54, 4, 21, 4, 184, 0, 94, 29, 184, 0, 116, 162, 0, 5, 4, 172, 42, 27, 3, 3, 182, 0, 200, 2, 159, 0, 5, 3, 172, 5, 54, 5, 4], [5, 54, 5, 4, 54, 6, 21, 6, 21, 4, 163, 0, 64, 21, 6, 21, 4, 2, 130, 126, 154, 0, 48, 21, 6, 184, 0, 94, 29, 184, 0, 116, 160, 0, 36, 42, 21, 6, 29, 3, 3, 182, 0, 166, 154, 0, 6, 167, 0, 21, 42, 21, 6, 44, 180, 0, 152, 182, 0, 183, 153, 0, 5, 6, 172, 7, 54, 5], [172, 7, 54, 5, 132, 6, 1, 167, 255, 191, 21, 5, 172]]
theorem zE_cX11_why : zTab cX11_why.data.toList zT_cX11_why = true := by decide +kernel
theorem dX11_why_0 : decode cX11_why 0 = .ok (.aload_n 0, 1) := dz_aload_n_0 (y0 zE_cX11_why 0 0 (by decide +kernel))
theorem dX11_why_1 : decode cX11_why 1 = .ok (.getfield 19, 3) := dz_getfield (yu2 zE_cX11_why 0 1 (by decide +kernel))
theorem dX11_why_4 : decode cX11_why 4 = .ok (.iload_n 1, 1) := dz_iload_n_1 (y0 zE_cX11_why 0 4 (by decide +kernel))
theorem dX11_why_5 : decode cX11_why 5 = .ok (.invokevirtual 90, 3) := dz_invokevirtual (yu2 zE_cX11_why 0 5 (by decide +kernel))
theorem dX11_why_8 : decode cX11_why 8 = .ok (.checkcast 122, 3) := dz_checkcast (yu2 zE_cX11_why 0 8 (by decide +kernel))
theorem dX11_why_11 : decode cX11_why 11 = .ok (.astore_n 2, 1) := dz_astore_n_2 (y0 zE_cX11_why 0 11 (by decide +kernel))
theorem dX11_why_12 : decode cX11_why 12 = .ok (.aload_n 0, 1) := dz_aload_n_0 (y0 zE_cX11_why 0 12 (by decide +kernel))
theorem dX11_why_13 : decode cX11_why 13 = .ok (.getfield 16, 3) := dz_getfield (yu2 zE_cX11_why 0 13 (by decide +kernel))
theorem dX11_why_16 : decode cX11_why 16 = .ok (.aload_n 2, 1) := dz_aload_n_2 (y0 zE_cX11_why 0 16 (by decide +kernel))
theorem dX11_why_17 : decode cX11_why 17 = .ok (.getfield 127, 3) := dz_getfield (yu2 zE_cX11_why 0 17 (by decide +kernel))
theorem dX11_why_20 : decode cX11_why 20 = .ok (.invokevirtual 90, 3) := dz_invokevirtual (yu2 zE_cX11_why 0 20 (by decide +kernel))
theorem dX11_why_23 : decode cX11_why 23 = .ok (.checkcast 95, 3) := dz_checkcast (yu2 zE_cX11_why 0 23 (by decide +kernel))
theorem dX11_why_26 : decode cX11_why 26 = .ok (.invokevirtual 177, 3) := dz_invokevirtual (yu2 zE_cX11_why 0 26 (by decide +kernel))
theorem dX11_why_29 : decode cX11_why 29 = .ok (.istore_n 3, 1) := dz_istore_n_3 (y0 zE_cX11_why 0 29 (by decide +kernel))
theorem dX11_why_30 : decode cX11_why 30 = .ok (.aload_n 0, 1) := dz_aload_n_0 (y0 zE_cX11_why 0 30 (by decide +kernel))
theorem dX11_why_31 : decode cX11_why 31 = .ok (.iload_n 1, 1) := dz_iload_n_1 (y0 zE_cX11_why 0 31 (by decide +kernel))
theorem dX11_why_32 : decode cX11_why 32 = .ok (.invokevirtual 186, 3) := dz_invokevirtual (yu2 zE_cX11_why 0 32 (by decide +kernel))
theorem dX11_why_35 : decode cX11_why 35 = .ok (.istore 4, 2) := dz_istore (yu1 zE_cX11_why 0 35 (by decide +kernel))
theorem dX11_why_37 : decode cX11_why 37 = .ok (.iload 4, 2) := dz_iload (yu1 zE_cX11_why 0 37 (by decide +kernel))
theorem dX11_why_39 : decode cX11_why 39 = .ok (.invokestatic 94, 3) := dz_invokestatic (yu2 zE_cX11_why 0 39 (by decide +kernel))
theorem dX11_why_42 : decode cX11_why 42 = .ok (.iload_n 3, 1) := dz_iload_n_3 (y0 zE_cX11_why 0 42 (by decide +kernel))
theorem dX11_why_43 : decode cX11_why 43 = .ok (.invokestatic 116, 3) := dz_invokestatic (yu2 zE_cX11_why 0 43 (by decide +kernel))
theorem dX11_why_46 : decode cX11_why 46 = .ok (.if_icmp .ge 5, 3) := dz_if_icmp_ge (ys2 zE_cX11_why 0 46 (by decide +kernel))
theorem dX11_why_49 : decode cX11_why 49 = .ok (.iconst 1, 1) := dz_iconst_1 (y0 zE_cX11_why 0 49 (by decide +kernel))
theorem dX11_why_50 : decode cX11_why 50 = .ok (.ireturn, 1) := dz_ireturn (y0 zE_cX11_why 0 50 (by decide +kernel))
theorem dX11_why_51 : decode cX11_why 51 = .ok (.aload_n 0, 1) := dz_aload_n_0 (y0 zE_cX11_why 0 51 (by decide +kernel))
theorem dX11_why_52 : decode cX11_why 52 = .ok (.iload_n 1, 1) := dz_iload_n_1 (y0 zE_cX11_why 0 52 (by decide +kernel))
theorem dX11_why_53 : decode cX11_why 53 = .ok (.iconst 0, 1) := dz_iconst_0 (y0 zE_cX11_why 0 53 (by decide +kernel))
theorem dX11_why_54 : decode cX11_why 54 = .ok (.iconst 0, 1) := dz_iconst_0 (y0 zE_cX11_why 0 54 (by decide +kernel))
theorem dX11_why_55 : decode cX11_why 55 = .ok (.invokevirtual 200, 3) := dz_invokevirtual (yu2 zE_cX11_why 0 55 (by decide +kernel))
theorem dX11_why_58 : decode cX11_why 58 = .ok (.iconst (-1), 1) := dz_iconst_m1 (y0 zE_cX11_why 0 58 (by decide +kernel))
theorem dX11_why_59 : decode cX11_why 59 = .ok (.if_icmp .eq 5, 3) := dz_if_icmp_eq (ys2 zE_cX11_why 0 59 (by decide +kernel))
theorem dX11_why_62 : decode cX11_why 62 = .ok (.iconst 0, 1) := dz_iconst_0 (y0 zE_cX11_why 0 62 (by decide +kernel))
theorem dX11_why_63 : decode cX11_why 63 = .ok (.ireturn, 1) := dz_ireturn (y0 zE_cX11_why 0 63 (by decide +kernel))
theorem dX11_why_64 : decode cX11_why 64 = .ok (.iconst 2, 1) := dz_iconst_2 (y0 zE_cX11_why 1 0 (by decide +kernel))
theorem dX11_why_65 : decode cX11_why 65 = .ok (.istore 5, 2) := dz_istore (yu1 zE_cX11_why 1 1 (by decide +kernel))
theorem dX11_why_67 : decode cX11_why 67 = .ok (.iconst 1, 1) := dz_iconst_1 (y0 zE_cX11_why 1 3 (by decide +kernel))
theorem dX11_why_68 : decode cX11_why 68 = .ok (.istore 6, 2) := dz_istore (yu1 zE_cX11_why 1 4 (by decide +kernel))
theorem dX11_why_70 : decode cX11_why 70 = .ok (.iload 6, 2) := dz_iload (yu1 zE_cX11_why 1 6 (by decide +kernel))
theorem dX11_why_72 : decode cX11_why 72 = .ok (.iload 4, 2) := dz_iload (yu1 zE_cX11_why 1 8 (by decide +kernel))
theorem dX11_why_74 : decode cX11_why 74 = .ok (.if_icmp .gt 64, 3) := dz_if_icmp_gt (ys2 zE_cX11_why 1 10 (by decide +kernel))
theorem dX11_why_77 : decode cX11_why 77 = .ok (.iload 6, 2) := dz_iload (yu1 zE_cX11_why 1 13 (by decide +kernel))
theorem dX11_why_79 : decode cX11_why 79 = .ok (.iload 4, 2) := dz_iload (yu1 zE_cX11_why 1 15 (by decide +kernel))
theorem dX11_why_81 : decode cX11_why 81 = .ok (.iconst (-1), 1) := dz_iconst_m1 (y0 zE_cX11_why 1 17 (by decide +kernel))
theorem dX11_why_82 : decode cX11_why 82 = .ok (.ixor, 1) := dz_ixor (y0 zE_cX11_why 1 18 (by decide +kernel))
theorem dX11_why_83 : decode cX11_why 83 = .ok (.iand, 1) := dz_iand (y0 zE_cX11_why 1 19 (by decide +kernel))
theorem dX11_why_84 : decode cX11_why 84 = .ok (.ifCond .ne 48, 3) := dz_ifCond_ne (ys2 zE_cX11_why 1 20 (by decide +kernel))
theorem dX11_why_87 : decode cX11_why 87 = .ok (.iload 6, 2) := dz_iload (yu1 zE_cX11_why 1 23 (by decide +kernel))
theorem dX11_why_89 : decode cX11_why 89 = .ok (.invokestatic 94, 3) := dz_invokestatic (yu2 zE_cX11_why 1 25 (by decide +kernel))
theorem dX11_why_92 : decode cX11_why 92 = .ok (.iload_n 3, 1) := dz_iload_n_3 (y0 zE_cX11_why 1 28 (by decide +kernel))
theorem dX11_why_93 : decode cX11_why 93 = .ok (.invokestatic 116, 3) := dz_invokestatic (yu2 zE_cX11_why 1 29 (by decide +kernel))
theorem dX11_why_96 : decode cX11_why 96 = .ok (.if_icmp .ne 36, 3) := dz_if_icmp_ne (ys2 zE_cX11_why 1 32 (by decide +kernel))
theorem dX11_why_99 : decode cX11_why 99 = .ok (.aload_n 0, 1) := dz_aload_n_0 (y0 zE_cX11_why 1 35 (by decide +kernel))
theorem dX11_why_100 : decode cX11_why 100 = .ok (.iload 6, 2) := dz_iload (yu1 zE_cX11_why 1 36 (by decide +kernel))
theorem dX11_why_102 : decode cX11_why 102 = .ok (.iload_n 3, 1) := dz_iload_n_3 (y0 zE_cX11_why 1 38 (by decide +kernel))
theorem dX11_why_103 : decode cX11_why 103 = .ok (.iconst 0, 1) := dz_iconst_0 (y0 zE_cX11_why 1 39 (by decide +kernel))
theorem dX11_why_104 : decode cX11_why 104 = .ok (.iconst 0, 1) := dz_iconst_0 (y0 zE_cX11_why 1 40 (by decide +kernel))
theorem dX11_why_105 : decode cX11_why 105 = .ok (.invokevirtual 166, 3) := dz_invokevirtual (yu2 zE_cX11_why 1 41 (by decide +kernel))
theorem dX11_why_108 : decode cX11_why 108 = .ok (.ifCond .ne 6, 3) := dz_ifCond_ne (ys2 zE_cX11_why 1 44 (by decide +kernel))
theorem dX11_why_111 : decode cX11_why 111 = .ok (.goto 21, 3) := dz_goto (ys2 zE_cX11_why 1 47 (by decide +kernel))
theorem dX11_why_114 : decode cX11_why 114 = .ok (.aload_n 0, 1) := dz_aload_n_0 (y0 zE_cX11_why 1 50 (by decide +kernel))
theorem dX11_why_115 : decode cX11_why 115 = .ok (.iload 6, 2) := dz_iload (yu1 zE_cX11_why 1 51 (by decide +kernel))
theorem dX11_why_117 : decode cX11_why 117 = .ok (.aload_n 2, 1) := dz_aload_n_2 (y0 zE_cX11_why 1 53 (by decide +kernel))
theorem dX11_why_118 : decode cX11_why 118 = .ok (.getfield 152, 3) := dz_getfield (yu2 zE_cX11_why 1 54 (by decide +kernel))
theorem dX11_why_121 : decode cX11_why 121 = .ok (.invokevirtual 183, 3) := dz_invokevirtual (yu2 zE_cX11_why 1 57 (by decide +kernel))
theorem dX11_why_124 : decode cX11_why 124 = .ok (.ifCond .eq 5, 3) := dz_ifCond_eq (ys2 zE_cX11_why 1 60 (by decide +kernel))
theorem dX11_why_127 : decode cX11_why 127 = .ok (.iconst 3, 1) := dz_iconst_3 (y0 zE_cX11_why 1 63 (by decide +kernel))
theorem dX11_why_128 : decode cX11_why 128 = .ok (.ireturn, 1) := dz_ireturn (y0 zE_cX11_why 2 0 (by decide +kernel))
theorem dX11_why_129 : decode cX11_why 129 = .ok (.iconst 4, 1) := dz_iconst_4 (y0 zE_cX11_why 2 1 (by decide +kernel))
theorem dX11_why_130 : decode cX11_why 130 = .ok (.istore 5, 2) := dz_istore (yu1 zE_cX11_why 2 2 (by decide +kernel))
theorem dX11_why_132 : decode cX11_why 132 = .ok (.iinc 6 1, 3) := dz_iinc (yii zE_cX11_why 2 4 (by decide +kernel))
theorem dX11_why_135 : decode cX11_why 135 = .ok (.goto (-65), 3) := dz_goto (ys2 zE_cX11_why 2 7 (by decide +kernel))
theorem dX11_why_138 : decode cX11_why 138 = .ok (.iload 5, 2) := dz_iload (yu1 zE_cX11_why 2 10 (by decide +kernel))
theorem dX11_why_140 : decode cX11_why 140 = .ok (.ireturn, 1) := dz_ireturn (y0 zE_cX11_why 2 12 (by decide +kernel))
theorem dX11_priceOf_0 : decode cX11_priceOf 0 = .ok (.iload_n 0, 1) := dkT (by decide +kernel)
theorem dX11_priceOf_1 : decode cX11_priceOf 1 = .ok (.bipush 6, 2) := dkT (by decide +kernel)
theorem dX11_priceOf_3 : decode cX11_priceOf 3 = .ok (.imul, 1) := dkT (by decide +kernel)
theorem dX11_priceOf_4 : decode cX11_priceOf 4 = .ok (.iconst 5, 1) := dkT (by decide +kernel)
theorem dX11_priceOf_5 : decode cX11_priceOf 5 = .ok (.idiv, 1) := dkT (by decide +kernel)
theorem dX11_priceOf_6 : decode cX11_priceOf 6 = .ok (.bipush 50, 2) := dkT (by decide +kernel)
theorem dX11_priceOf_8 : decode cX11_priceOf 8 = .ok (.iadd, 1) := dkT (by decide +kernel)
theorem dX11_priceOf_9 : decode cX11_priceOf 9 = .ok (.ireturn, 1) := dkT (by decide +kernel)
theorem gd_wsX11_fixNow : wsX11_fixNow.all goodWord = true := by decide +kernel
set_option maxRecDepth 20000 in
theorem ggX11_fixNow_Jx4a65c_get_915e3 : GoodIn wsX11_fixNow wsJx4a65c_get_915e3 := gi_q gd_wsX11_fixNow _ [(8, 13), (7, 1), (21, 2), (74, 3)] rfl
set_option maxRecDepth 20000 in
theorem gX11_fixNow_Jx4a65c_get_915e3 : GoodIn wsX11_fixNow (wsV RX11 90 RJx4a65c yJx4a65c_get_915e3 wsJx4a65c_get_915e3) := goodIn_app (gi_q gd_wsX11_fixNow _ [(4, 4)] rfl) ggX11_fixNow_Jx4a65c_get_915e3
set_option maxRecDepth 20000 in
theorem ggX11_fixNow_X11_costOf : GoodIn wsX11_fixNow wsX11_costOf := gi_q gd_wsX11_fixNow _ [(27, 5), (7, 1), (32, 1), (9, 1), (33, 2), (26, 1), (35, 6), (4, 3), (8, 1), (10, 13), (41, 5), (49, 13), (74, 10), (62, 12)] rfl
set_option maxRecDepth 20000 in
theorem gX11_fixNow_X11_costOf : GoodIn wsX11_fixNow (wsV RX11 197 RX11 yX11_costOf wsX11_costOf) := goodIn_app (gi_q gd_wsX11_fixNow _ [(23, 4)] rfl) ggX11_fixNow_X11_costOf
set_option maxRecDepth 20000 in
theorem ggX11_fixNow_X11_priceOf : GoodIn wsX11_fixNow wsX11_priceOf := gi_q gd_wsX11_fixNow _ [(48, 1)] rfl
set_option maxRecDepth 20000 in
theorem gX11_fixNow_X11_priceOf : GoodIn wsX11_fixNow (va_wsS RX11 204 yX11_priceOf wsX11_priceOf) := goodIn_app (gi_q gd_wsX11_fixNow _ [(46, 2), (26, 1)] rfl) ggX11_fixNow_X11_priceOf
def zT_cX11_fixNow : List (List Nat) := [[42, 180, 0, 19, 27, 182, 0, 90, 192, 0, 122, 78, 45, 4, 181, 0, 124, 45, 28, 181, 0, 160, 45, 42, 28, 45, 182, 0, 197, 184, 0, 204, 181, 0, 207, 45, 45, 180, 0, 207, 8, 108, 181, 0, 210, 42, 89, 180, 0, 213, 45, 180, 0, 210, 96, 181, 0, 213, 177]]
theorem zE_cX11_fixNow : zTab cX11_fixNow.data.toList zT_cX11_fixNow = true := by decide +kernel
theorem dX11_fixNow_0 : decode cX11_fixNow 0 = .ok (.aload_n 0, 1) := dz_aload_n_0 (y0 zE_cX11_fixNow 0 0 (by decide +kernel))
theorem dX11_fixNow_1 : decode cX11_fixNow 1 = .ok (.getfield 19, 3) := dz_getfield (yu2 zE_cX11_fixNow 0 1 (by decide +kernel))
theorem dX11_fixNow_4 : decode cX11_fixNow 4 = .ok (.iload_n 1, 1) := dz_iload_n_1 (y0 zE_cX11_fixNow 0 4 (by decide +kernel))
theorem dX11_fixNow_5 : decode cX11_fixNow 5 = .ok (.invokevirtual 90, 3) := dz_invokevirtual (yu2 zE_cX11_fixNow 0 5 (by decide +kernel))
theorem dX11_fixNow_8 : decode cX11_fixNow 8 = .ok (.checkcast 122, 3) := dz_checkcast (yu2 zE_cX11_fixNow 0 8 (by decide +kernel))
theorem dX11_fixNow_11 : decode cX11_fixNow 11 = .ok (.astore_n 3, 1) := dz_astore_n_3 (y0 zE_cX11_fixNow 0 11 (by decide +kernel))
theorem dX11_fixNow_12 : decode cX11_fixNow 12 = .ok (.aload_n 3, 1) := dz_aload_n_3 (y0 zE_cX11_fixNow 0 12 (by decide +kernel))
theorem dX11_fixNow_13 : decode cX11_fixNow 13 = .ok (.iconst 1, 1) := dz_iconst_1 (y0 zE_cX11_fixNow 0 13 (by decide +kernel))
theorem dX11_fixNow_14 : decode cX11_fixNow 14 = .ok (.putfield 124, 3) := dz_putfield (yu2 zE_cX11_fixNow 0 14 (by decide +kernel))
theorem dX11_fixNow_17 : decode cX11_fixNow 17 = .ok (.aload_n 3, 1) := dz_aload_n_3 (y0 zE_cX11_fixNow 0 17 (by decide +kernel))
theorem dX11_fixNow_18 : decode cX11_fixNow 18 = .ok (.iload_n 2, 1) := dz_iload_n_2 (y0 zE_cX11_fixNow 0 18 (by decide +kernel))
theorem dX11_fixNow_19 : decode cX11_fixNow 19 = .ok (.putfield 160, 3) := dz_putfield (yu2 zE_cX11_fixNow 0 19 (by decide +kernel))
theorem dX11_fixNow_22 : decode cX11_fixNow 22 = .ok (.aload_n 3, 1) := dz_aload_n_3 (y0 zE_cX11_fixNow 0 22 (by decide +kernel))
theorem dX11_fixNow_23 : decode cX11_fixNow 23 = .ok (.aload_n 0, 1) := dz_aload_n_0 (y0 zE_cX11_fixNow 0 23 (by decide +kernel))
theorem dX11_fixNow_24 : decode cX11_fixNow 24 = .ok (.iload_n 2, 1) := dz_iload_n_2 (y0 zE_cX11_fixNow 0 24 (by decide +kernel))
theorem dX11_fixNow_25 : decode cX11_fixNow 25 = .ok (.aload_n 3, 1) := dz_aload_n_3 (y0 zE_cX11_fixNow 0 25 (by decide +kernel))
theorem dX11_fixNow_26 : decode cX11_fixNow 26 = .ok (.invokevirtual 197, 3) := dz_invokevirtual (yu2 zE_cX11_fixNow 0 26 (by decide +kernel))
theorem dX11_fixNow_29 : decode cX11_fixNow 29 = .ok (.invokestatic 204, 3) := dz_invokestatic (yu2 zE_cX11_fixNow 0 29 (by decide +kernel))
theorem dX11_fixNow_32 : decode cX11_fixNow 32 = .ok (.putfield 207, 3) := dz_putfield (yu2 zE_cX11_fixNow 0 32 (by decide +kernel))
theorem dX11_fixNow_35 : decode cX11_fixNow 35 = .ok (.aload_n 3, 1) := dz_aload_n_3 (y0 zE_cX11_fixNow 0 35 (by decide +kernel))
theorem dX11_fixNow_36 : decode cX11_fixNow 36 = .ok (.aload_n 3, 1) := dz_aload_n_3 (y0 zE_cX11_fixNow 0 36 (by decide +kernel))
theorem dX11_fixNow_37 : decode cX11_fixNow 37 = .ok (.getfield 207, 3) := dz_getfield (yu2 zE_cX11_fixNow 0 37 (by decide +kernel))
theorem dX11_fixNow_40 : decode cX11_fixNow 40 = .ok (.iconst 5, 1) := dz_iconst_5 (y0 zE_cX11_fixNow 0 40 (by decide +kernel))
theorem dX11_fixNow_41 : decode cX11_fixNow 41 = .ok (.idiv, 1) := dz_idiv (y0 zE_cX11_fixNow 0 41 (by decide +kernel))
theorem dX11_fixNow_42 : decode cX11_fixNow 42 = .ok (.putfield 210, 3) := dz_putfield (yu2 zE_cX11_fixNow 0 42 (by decide +kernel))
theorem dX11_fixNow_45 : decode cX11_fixNow 45 = .ok (.aload_n 0, 1) := dz_aload_n_0 (y0 zE_cX11_fixNow 0 45 (by decide +kernel))
theorem dX11_fixNow_46 : decode cX11_fixNow 46 = .ok (.dup, 1) := dz_dup (y0 zE_cX11_fixNow 0 46 (by decide +kernel))
theorem dX11_fixNow_47 : decode cX11_fixNow 47 = .ok (.getfield 213, 3) := dz_getfield (yu2 zE_cX11_fixNow 0 47 (by decide +kernel))
theorem dX11_fixNow_50 : decode cX11_fixNow 50 = .ok (.aload_n 3, 1) := dz_aload_n_3 (y0 zE_cX11_fixNow 0 50 (by decide +kernel))
theorem dX11_fixNow_51 : decode cX11_fixNow 51 = .ok (.getfield 210, 3) := dz_getfield (yu2 zE_cX11_fixNow 0 51 (by decide +kernel))
theorem dX11_fixNow_54 : decode cX11_fixNow 54 = .ok (.iadd, 1) := dz_iadd (y0 zE_cX11_fixNow 0 54 (by decide +kernel))
theorem dX11_fixNow_55 : decode cX11_fixNow 55 = .ok (.putfield 213, 3) := dz_putfield (yu2 zE_cX11_fixNow 0 55 (by decide +kernel))
theorem dX11_fixNow_58 : decode cX11_fixNow 58 = .ok (.return_, 1) := dz_return (y0 zE_cX11_fixNow 0 58 (by decide +kernel))
theorem gd_wsX11_fix : wsX11_fix.all goodWord = true := by decide +kernel
set_option maxRecDepth 20000 in
theorem ggX11_fix_X11_isWedding : GoodIn wsX11_fix wsX11_isWedding := gi_q gd_wsX11_fix _ [(8, 1), (2, 1), (9, 8), (7, 1), (17, 1), (157, 13), (182, 3)] rfl
set_option maxRecDepth 20000 in
theorem gX11_fix_X11_isWedding : GoodIn wsX11_fix (wsV RX11 216 RX11 yX11_isWedding wsX11_isWedding) := goodIn_app (gi_q gd_wsX11_fix _ [(4, 4)] rfl) ggX11_fix_X11_isWedding
set_option maxRecDepth 20000 in
theorem ggX11_fix_X11_refuse : GoodIn wsX11_fix wsX11_refuse := gi_q gd_wsX11_fix _ [(21, 1), (1, 1), (157, 13)] rfl
set_option maxRecDepth 20000 in
theorem gX11_fix_X11_refuse : GoodIn wsX11_fix (wsV RX11 60 RX11 yX11_refuse wsX11_refuse) := goodIn_app (gi_q gd_wsX11_fix _ [(18, 3), (7, 1)] rfl) ggX11_fix_X11_refuse
set_option maxRecDepth 20000 in
theorem ggX11_fix_X11_place : GoodIn wsX11_fix wsX11_place := gi_q gd_wsX11_fix _ [(25, 1), (2, 2), (26, 3), (12, 1), (29, 1), (14, 1), (30, 13), (157, 28)] rfl
set_option maxRecDepth 20000 in
theorem gX11_fix_X11_place : GoodIn wsX11_fix (wsV RX11 219 RX11 yX11_place wsX11_place) := goodIn_app (gi_q gd_wsX11_fix _ [(22, 3), (7, 1)] rfl) ggX11_fix_X11_place
set_option maxRecDepth 20000 in
theorem ggX11_fix_X11_best : GoodIn wsX11_fix wsX11_best := gi_q gd_wsX11_fix _ [(46, 1), (2, 2), (26, 3), (12, 1), (29, 1), (14, 1), (30, 13), (47, 3), (7, 1), (50, 2), (9, 3), (13, 1), (52, 65), (157, 13), (182, 10), (170, 12), (192, 1)] rfl
set_option maxRecDepth 20000 in
theorem gX11_fix_X11_best : GoodIn wsX11_fix (wsV RX11 200 RX11 yX11_best wsX11_best) := goodIn_app (gi_q gd_wsX11_fix _ [(43, 3), (7, 1)] rfl) ggX11_fix_X11_best
set_option maxRecDepth 20000 in
theorem ggX11_fix_X11_fixNow : GoodIn wsX11_fix wsX11_fixNow := gi_q gd_wsX11_fix _ [(120, 1), (2, 2), (121, 1), (26, 3), (12, 1), (29, 1), (14, 1), (30, 13), (109, 3), (7, 1), (112, 1), (51, 1), (9, 3), (13, 1), (62, 3), (113, 4), (56, 6), (122, 3), (157, 35)] rfl
set_option maxRecDepth 20000 in
theorem gX11_fix_X11_fixNow : GoodIn wsX11_fix (wsV RX11 222 RX11 yX11_fixNow wsX11_fixNow) := goodIn_app (gi_q gd_wsX11_fix _ [(117, 3), (7, 1)] rfl) ggX11_fix_X11_fixNow
set_option maxRecDepth 20000 in
theorem ggX11_fix_Jx4a65c_get_915e3 : GoodIn wsX11_fix wsJx4a65c_get_915e3 := gi_q gd_wsX11_fix _ [(29, 1), (14, 1), (30, 11), (12, 1), (41, 2), (182, 3)] rfl
set_option maxRecDepth 20000 in
theorem gX11_fix_Jx4a65c_get_915e3 : GoodIn wsX11_fix (wsV RX11 90 RJx4a65c yJx4a65c_get_915e3 wsJx4a65c_get_915e3) := goodIn_app (gi_q gd_wsX11_fix _ [(26, 3), (12, 1)] rfl) ggX11_fix_Jx4a65c_get_915e3
set_option maxRecDepth 20000 in
theorem ggX11_fix_Jx4a65c_iterator_32c93 : GoodIn wsX11_fix wsJx4a65c_iterator_32c93 := gi_q gd_wsX11_fix _ [(128, 15), (193, 4), (182, 3)] rfl
set_option maxRecDepth 20000 in
theorem gX11_fix_Jx4a65c_iterator_32c93 : GoodIn wsX11_fix (wsV RX11 226 RJx4a65c yJx4a65c_iterator_32c93 wsJx4a65c_iterator_32c93) := goodIn_app (gi_q gd_wsX11_fix _ [(125, 3), (12, 1)] rfl) ggX11_fix_Jx4a65c_iterator_32c93
set_option maxRecDepth 20000 in
theorem ggX11_fix_Jx35411_hasNext_aae02 : GoodIn wsX11_fix wsJx35411_hasNext_aae02 := gi_q gd_wsX11_fix _ [(146, 2), (135, 1), (193, 4), (182, 3)] rfl
set_option maxRecDepth 20000 in
theorem gX11_fix_Jx35411_hasNext_aae02_f230Jx35411 : GoodIn wsX11_fix (va_wsF RX11 230 RJx35411 ⟨"java/util/Iterator", "hasNext", "()Z"⟩ yJx35411_hasNext_aae02 wsJx35411_hasNext_aae02) := goodIn_app (goodIn_of _ (by decide +kernel)) ggX11_fix_Jx35411_hasNext_aae02
set_option maxRecDepth 20000 in
theorem ggX11_fix_Jx35411_next_0502b : GoodIn wsX11_fix wsJx35411_next_0502b := gi_q gd_wsX11_fix _ [(151, 1), (147, 1), (135, 1), (152, 1), (139, 1), (153, 3), (131, 1), (156, 1), (140, 3), (193, 4), (182, 3)] rfl
set_option maxRecDepth 20000 in
theorem gX11_fix_Jx35411_next_0502b_f236Jx35411 : GoodIn wsX11_fix (va_wsF RX11 236 RJx35411 ⟨"java/util/Iterator", "next", "()Ljava/lang/Object;"⟩ yJx35411_next_0502b wsJx35411_next_0502b) := goodIn_app (goodIn_of _ (by decide +kernel)) ggX11_fix_Jx35411_next_0502b
def zT_cX11_fix : List (List Nat) := [[42, 3, 181, 0, 44, 42, 27, 182, 0, 216, 154, 0, 9, 42, 4, 182, 0, 60, 172, 42, 27, 182, 0, 219, 154, 0, 13, 42, 27, 3, 3, 182, 0, 200, 167, 0, 4, 2, 61, 28, 2, 160, 0, 9, 42, 5, 182, 0, 60, 172, 42, 27, 28, 182, 0, 222, 42, 180, 0, 19, 27, 182, 0, 90, 192, 0, 122, 78], [192, 0, 122, 78, 42, 180, 0, 19, 182, 0, 226, 58, 4, 25, 4, 185, 0, 230, 1, 0, 153, 0, 56, 25, 4, 185, 0, 236, 1, 0, 192, 0, 122, 58, 5, 25, 5, 180, 0, 124, 154, 0, 33, 25, 5, 180, 0, 127, 45, 180, 0, 127, 160, 0, 21, 25, 5, 180, 0, 130, 45, 180, 0, 130, 160, 0, 9, 25], [160, 0, 9, 25, 5, 6, 181, 0, 124, 167, 255, 196, 45, 180, 0, 207, 172]]
theorem zE_cX11_fix : zTab cX11_fix.data.toList zT_cX11_fix = true := by decide +kernel
theorem dX11_fix_0 : decode cX11_fix 0 = .ok (.aload_n 0, 1) := dz_aload_n_0 (y0 zE_cX11_fix 0 0 (by decide +kernel))
theorem dX11_fix_1 : decode cX11_fix 1 = .ok (.iconst 0, 1) := dz_iconst_0 (y0 zE_cX11_fix 0 1 (by decide +kernel))
theorem dX11_fix_2 : decode cX11_fix 2 = .ok (.putfield 44, 3) := dz_putfield (yu2 zE_cX11_fix 0 2 (by decide +kernel))
theorem dX11_fix_5 : decode cX11_fix 5 = .ok (.aload_n 0, 1) := dz_aload_n_0 (y0 zE_cX11_fix 0 5 (by decide +kernel))
theorem dX11_fix_6 : decode cX11_fix 6 = .ok (.iload_n 1, 1) := dz_iload_n_1 (y0 zE_cX11_fix 0 6 (by decide +kernel))
theorem dX11_fix_7 : decode cX11_fix 7 = .ok (.invokevirtual 216, 3) := dz_invokevirtual (yu2 zE_cX11_fix 0 7 (by decide +kernel))
theorem dX11_fix_10 : decode cX11_fix 10 = .ok (.ifCond .ne 9, 3) := dz_ifCond_ne (ys2 zE_cX11_fix 0 10 (by decide +kernel))
theorem dX11_fix_13 : decode cX11_fix 13 = .ok (.aload_n 0, 1) := dz_aload_n_0 (y0 zE_cX11_fix 0 13 (by decide +kernel))
theorem dX11_fix_14 : decode cX11_fix 14 = .ok (.iconst 1, 1) := dz_iconst_1 (y0 zE_cX11_fix 0 14 (by decide +kernel))
theorem dX11_fix_15 : decode cX11_fix 15 = .ok (.invokevirtual 60, 3) := dz_invokevirtual (yu2 zE_cX11_fix 0 15 (by decide +kernel))
theorem dX11_fix_18 : decode cX11_fix 18 = .ok (.ireturn, 1) := dz_ireturn (y0 zE_cX11_fix 0 18 (by decide +kernel))
theorem dX11_fix_19 : decode cX11_fix 19 = .ok (.aload_n 0, 1) := dz_aload_n_0 (y0 zE_cX11_fix 0 19 (by decide +kernel))
theorem dX11_fix_20 : decode cX11_fix 20 = .ok (.iload_n 1, 1) := dz_iload_n_1 (y0 zE_cX11_fix 0 20 (by decide +kernel))
theorem dX11_fix_21 : decode cX11_fix 21 = .ok (.invokevirtual 219, 3) := dz_invokevirtual (yu2 zE_cX11_fix 0 21 (by decide +kernel))
theorem dX11_fix_24 : decode cX11_fix 24 = .ok (.ifCond .ne 13, 3) := dz_ifCond_ne (ys2 zE_cX11_fix 0 24 (by decide +kernel))
theorem dX11_fix_27 : decode cX11_fix 27 = .ok (.aload_n 0, 1) := dz_aload_n_0 (y0 zE_cX11_fix 0 27 (by decide +kernel))
theorem dX11_fix_28 : decode cX11_fix 28 = .ok (.iload_n 1, 1) := dz_iload_n_1 (y0 zE_cX11_fix 0 28 (by decide +kernel))
theorem dX11_fix_29 : decode cX11_fix 29 = .ok (.iconst 0, 1) := dz_iconst_0 (y0 zE_cX11_fix 0 29 (by decide +kernel))
theorem dX11_fix_30 : decode cX11_fix 30 = .ok (.iconst 0, 1) := dz_iconst_0 (y0 zE_cX11_fix 0 30 (by decide +kernel))
theorem dX11_fix_31 : decode cX11_fix 31 = .ok (.invokevirtual 200, 3) := dz_invokevirtual (yu2 zE_cX11_fix 0 31 (by decide +kernel))
theorem dX11_fix_34 : decode cX11_fix 34 = .ok (.goto 4, 3) := dz_goto (ys2 zE_cX11_fix 0 34 (by decide +kernel))
theorem dX11_fix_37 : decode cX11_fix 37 = .ok (.iconst (-1), 1) := dz_iconst_m1 (y0 zE_cX11_fix 0 37 (by decide +kernel))
theorem dX11_fix_38 : decode cX11_fix 38 = .ok (.istore_n 2, 1) := dz_istore_n_2 (y0 zE_cX11_fix 0 38 (by decide +kernel))
theorem dX11_fix_39 : decode cX11_fix 39 = .ok (.iload_n 2, 1) := dz_iload_n_2 (y0 zE_cX11_fix 0 39 (by decide +kernel))
theorem dX11_fix_40 : decode cX11_fix 40 = .ok (.iconst (-1), 1) := dz_iconst_m1 (y0 zE_cX11_fix 0 40 (by decide +kernel))
theorem dX11_fix_41 : decode cX11_fix 41 = .ok (.if_icmp .ne 9, 3) := dz_if_icmp_ne (ys2 zE_cX11_fix 0 41 (by decide +kernel))
theorem dX11_fix_44 : decode cX11_fix 44 = .ok (.aload_n 0, 1) := dz_aload_n_0 (y0 zE_cX11_fix 0 44 (by decide +kernel))
theorem dX11_fix_45 : decode cX11_fix 45 = .ok (.iconst 2, 1) := dz_iconst_2 (y0 zE_cX11_fix 0 45 (by decide +kernel))
theorem dX11_fix_46 : decode cX11_fix 46 = .ok (.invokevirtual 60, 3) := dz_invokevirtual (yu2 zE_cX11_fix 0 46 (by decide +kernel))
theorem dX11_fix_49 : decode cX11_fix 49 = .ok (.ireturn, 1) := dz_ireturn (y0 zE_cX11_fix 0 49 (by decide +kernel))
theorem dX11_fix_50 : decode cX11_fix 50 = .ok (.aload_n 0, 1) := dz_aload_n_0 (y0 zE_cX11_fix 0 50 (by decide +kernel))
theorem dX11_fix_51 : decode cX11_fix 51 = .ok (.iload_n 1, 1) := dz_iload_n_1 (y0 zE_cX11_fix 0 51 (by decide +kernel))
theorem dX11_fix_52 : decode cX11_fix 52 = .ok (.iload_n 2, 1) := dz_iload_n_2 (y0 zE_cX11_fix 0 52 (by decide +kernel))
theorem dX11_fix_53 : decode cX11_fix 53 = .ok (.invokevirtual 222, 3) := dz_invokevirtual (yu2 zE_cX11_fix 0 53 (by decide +kernel))
theorem dX11_fix_56 : decode cX11_fix 56 = .ok (.aload_n 0, 1) := dz_aload_n_0 (y0 zE_cX11_fix 0 56 (by decide +kernel))
theorem dX11_fix_57 : decode cX11_fix 57 = .ok (.getfield 19, 3) := dz_getfield (yu2 zE_cX11_fix 0 57 (by decide +kernel))
theorem dX11_fix_60 : decode cX11_fix 60 = .ok (.iload_n 1, 1) := dz_iload_n_1 (y0 zE_cX11_fix 0 60 (by decide +kernel))
theorem dX11_fix_61 : decode cX11_fix 61 = .ok (.invokevirtual 90, 3) := dz_invokevirtual (yu2 zE_cX11_fix 0 61 (by decide +kernel))
theorem dX11_fix_64 : decode cX11_fix 64 = .ok (.checkcast 122, 3) := dz_checkcast (yu2 zE_cX11_fix 1 0 (by decide +kernel))
theorem dX11_fix_67 : decode cX11_fix 67 = .ok (.astore_n 3, 1) := dz_astore_n_3 (y0 zE_cX11_fix 1 3 (by decide +kernel))
theorem dX11_fix_68 : decode cX11_fix 68 = .ok (.aload_n 0, 1) := dz_aload_n_0 (y0 zE_cX11_fix 1 4 (by decide +kernel))
theorem dX11_fix_69 : decode cX11_fix 69 = .ok (.getfield 19, 3) := dz_getfield (yu2 zE_cX11_fix 1 5 (by decide +kernel))
theorem dX11_fix_72 : decode cX11_fix 72 = .ok (.invokevirtual 226, 3) := dz_invokevirtual (yu2 zE_cX11_fix 1 8 (by decide +kernel))
theorem dX11_fix_75 : decode cX11_fix 75 = .ok (.astore 4, 2) := dz_astore (yu1 zE_cX11_fix 1 11 (by decide +kernel))
theorem dX11_fix_77 : decode cX11_fix 77 = .ok (.aload 4, 2) := dz_aload (yu1 zE_cX11_fix 1 13 (by decide +kernel))
theorem dX11_fix_79 : decode cX11_fix 79 = .ok (.invokeinterface 230 1, 5) := dkT (by decide +kernel)
theorem dX11_fix_84 : decode cX11_fix 84 = .ok (.ifCond .eq 56, 3) := dz_ifCond_eq (ys2 zE_cX11_fix 1 20 (by decide +kernel))
theorem dX11_fix_87 : decode cX11_fix 87 = .ok (.aload 4, 2) := dz_aload (yu1 zE_cX11_fix 1 23 (by decide +kernel))
theorem dX11_fix_89 : decode cX11_fix 89 = .ok (.invokeinterface 236 1, 5) := dkT (by decide +kernel)
theorem dX11_fix_94 : decode cX11_fix 94 = .ok (.checkcast 122, 3) := dz_checkcast (yu2 zE_cX11_fix 1 30 (by decide +kernel))
theorem dX11_fix_97 : decode cX11_fix 97 = .ok (.astore 5, 2) := dz_astore (yu1 zE_cX11_fix 1 33 (by decide +kernel))
theorem dX11_fix_99 : decode cX11_fix 99 = .ok (.aload 5, 2) := dz_aload (yu1 zE_cX11_fix 1 35 (by decide +kernel))
theorem dX11_fix_101 : decode cX11_fix 101 = .ok (.getfield 124, 3) := dz_getfield (yu2 zE_cX11_fix 1 37 (by decide +kernel))
theorem dX11_fix_104 : decode cX11_fix 104 = .ok (.ifCond .ne 33, 3) := dz_ifCond_ne (ys2 zE_cX11_fix 1 40 (by decide +kernel))
theorem dX11_fix_107 : decode cX11_fix 107 = .ok (.aload 5, 2) := dz_aload (yu1 zE_cX11_fix 1 43 (by decide +kernel))
theorem dX11_fix_109 : decode cX11_fix 109 = .ok (.getfield 127, 3) := dz_getfield (yu2 zE_cX11_fix 1 45 (by decide +kernel))
theorem dX11_fix_112 : decode cX11_fix 112 = .ok (.aload_n 3, 1) := dz_aload_n_3 (y0 zE_cX11_fix 1 48 (by decide +kernel))
theorem dX11_fix_113 : decode cX11_fix 113 = .ok (.getfield 127, 3) := dz_getfield (yu2 zE_cX11_fix 1 49 (by decide +kernel))
theorem dX11_fix_116 : decode cX11_fix 116 = .ok (.if_icmp .ne 21, 3) := dz_if_icmp_ne (ys2 zE_cX11_fix 1 52 (by decide +kernel))
theorem dX11_fix_119 : decode cX11_fix 119 = .ok (.aload 5, 2) := dz_aload (yu1 zE_cX11_fix 1 55 (by decide +kernel))
theorem dX11_fix_121 : decode cX11_fix 121 = .ok (.getfield 130, 3) := dz_getfield (yu2 zE_cX11_fix 1 57 (by decide +kernel))
theorem dX11_fix_124 : decode cX11_fix 124 = .ok (.aload_n 3, 1) := dz_aload_n_3 (y0 zE_cX11_fix 1 60 (by decide +kernel))
theorem dX11_fix_125 : decode cX11_fix 125 = .ok (.getfield 130, 3) := dz_getfield (yu2 zE_cX11_fix 1 61 (by decide +kernel))
theorem dX11_fix_128 : decode cX11_fix 128 = .ok (.if_icmp .ne 9, 3) := dz_if_icmp_ne (ys2 zE_cX11_fix 2 0 (by decide +kernel))
theorem dX11_fix_131 : decode cX11_fix 131 = .ok (.aload 5, 2) := dz_aload (yu1 zE_cX11_fix 2 3 (by decide +kernel))
theorem dX11_fix_133 : decode cX11_fix 133 = .ok (.iconst 3, 1) := dz_iconst_3 (y0 zE_cX11_fix 2 5 (by decide +kernel))
theorem dX11_fix_134 : decode cX11_fix 134 = .ok (.putfield 124, 3) := dz_putfield (yu2 zE_cX11_fix 2 6 (by decide +kernel))
theorem dX11_fix_137 : decode cX11_fix 137 = .ok (.goto (-60), 3) := dz_goto (ys2 zE_cX11_fix 2 9 (by decide +kernel))
theorem dX11_fix_140 : decode cX11_fix 140 = .ok (.aload_n 3, 1) := dz_aload_n_3 (y0 zE_cX11_fix 2 12 (by decide +kernel))
theorem dX11_fix_141 : decode cX11_fix 141 = .ok (.getfield 207, 3) := dz_getfield (yu2 zE_cX11_fix 2 13 (by decide +kernel))
theorem dX11_fix_144 : decode cX11_fix 144 = .ok (.ireturn, 1) := dz_ireturn (y0 zE_cX11_fix 2 16 (by decide +kernel))
def zT_cX11_owed : List (List Nat) := [[43, 180, 0, 130, 42, 180, 0, 57, 100, 61, 28, 16, 30, 161, 0, 8, 16, 20, 167, 0, 27, 28, 16, 14, 161, 0, 8, 16, 40, 167, 0, 16, 28, 16, 7, 161, 0, 8, 16, 70, 167, 0, 5, 16, 100, 62, 43, 180, 0, 207, 29, 104, 16, 100, 108, 172]]
theorem zE_cX11_owed : zTab cX11_owed.data.toList zT_cX11_owed = true := by decide +kernel
theorem dX11_owed_0 : decode cX11_owed 0 = .ok (.aload_n 1, 1) := dz_aload_n_1 (y0 zE_cX11_owed 0 0 (by decide +kernel))
theorem dX11_owed_1 : decode cX11_owed 1 = .ok (.getfield 130, 3) := dz_getfield (yu2 zE_cX11_owed 0 1 (by decide +kernel))
theorem dX11_owed_4 : decode cX11_owed 4 = .ok (.aload_n 0, 1) := dz_aload_n_0 (y0 zE_cX11_owed 0 4 (by decide +kernel))
theorem dX11_owed_5 : decode cX11_owed 5 = .ok (.getfield 57, 3) := dz_getfield (yu2 zE_cX11_owed 0 5 (by decide +kernel))
theorem dX11_owed_8 : decode cX11_owed 8 = .ok (.isub, 1) := dz_isub (y0 zE_cX11_owed 0 8 (by decide +kernel))
theorem dX11_owed_9 : decode cX11_owed 9 = .ok (.istore_n 2, 1) := dz_istore_n_2 (y0 zE_cX11_owed 0 9 (by decide +kernel))
theorem dX11_owed_10 : decode cX11_owed 10 = .ok (.iload_n 2, 1) := dz_iload_n_2 (y0 zE_cX11_owed 0 10 (by decide +kernel))
theorem dX11_owed_11 : decode cX11_owed 11 = .ok (.bipush 30, 2) := dz_bipush (ys1 zE_cX11_owed 0 11 (by decide +kernel))
theorem dX11_owed_13 : decode cX11_owed 13 = .ok (.if_icmp .lt 8, 3) := dz_if_icmp_lt (ys2 zE_cX11_owed 0 13 (by decide +kernel))
theorem dX11_owed_16 : decode cX11_owed 16 = .ok (.bipush 20, 2) := dz_bipush (ys1 zE_cX11_owed 0 16 (by decide +kernel))
theorem dX11_owed_18 : decode cX11_owed 18 = .ok (.goto 27, 3) := dz_goto (ys2 zE_cX11_owed 0 18 (by decide +kernel))
theorem dX11_owed_21 : decode cX11_owed 21 = .ok (.iload_n 2, 1) := dz_iload_n_2 (y0 zE_cX11_owed 0 21 (by decide +kernel))
theorem dX11_owed_22 : decode cX11_owed 22 = .ok (.bipush 14, 2) := dz_bipush (ys1 zE_cX11_owed 0 22 (by decide +kernel))
theorem dX11_owed_24 : decode cX11_owed 24 = .ok (.if_icmp .lt 8, 3) := dz_if_icmp_lt (ys2 zE_cX11_owed 0 24 (by decide +kernel))
theorem dX11_owed_27 : decode cX11_owed 27 = .ok (.bipush 40, 2) := dz_bipush (ys1 zE_cX11_owed 0 27 (by decide +kernel))
theorem dX11_owed_29 : decode cX11_owed 29 = .ok (.goto 16, 3) := dz_goto (ys2 zE_cX11_owed 0 29 (by decide +kernel))
theorem dX11_owed_32 : decode cX11_owed 32 = .ok (.iload_n 2, 1) := dz_iload_n_2 (y0 zE_cX11_owed 0 32 (by decide +kernel))
theorem dX11_owed_33 : decode cX11_owed 33 = .ok (.bipush 7, 2) := dz_bipush (ys1 zE_cX11_owed 0 33 (by decide +kernel))
theorem dX11_owed_35 : decode cX11_owed 35 = .ok (.if_icmp .lt 8, 3) := dz_if_icmp_lt (ys2 zE_cX11_owed 0 35 (by decide +kernel))
theorem dX11_owed_38 : decode cX11_owed 38 = .ok (.bipush 70, 2) := dz_bipush (ys1 zE_cX11_owed 0 38 (by decide +kernel))
theorem dX11_owed_40 : decode cX11_owed 40 = .ok (.goto 5, 3) := dz_goto (ys2 zE_cX11_owed 0 40 (by decide +kernel))
theorem dX11_owed_43 : decode cX11_owed 43 = .ok (.bipush 100, 2) := dz_bipush (ys1 zE_cX11_owed 0 43 (by decide +kernel))
theorem dX11_owed_45 : decode cX11_owed 45 = .ok (.istore_n 3, 1) := dz_istore_n_3 (y0 zE_cX11_owed 0 45 (by decide +kernel))
theorem dX11_owed_46 : decode cX11_owed 46 = .ok (.aload_n 1, 1) := dz_aload_n_1 (y0 zE_cX11_owed 0 46 (by decide +kernel))
theorem dX11_owed_47 : decode cX11_owed 47 = .ok (.getfield 207, 3) := dz_getfield (yu2 zE_cX11_owed 0 47 (by decide +kernel))
theorem dX11_owed_50 : decode cX11_owed 50 = .ok (.iload_n 3, 1) := dz_iload_n_3 (y0 zE_cX11_owed 0 50 (by decide +kernel))
theorem dX11_owed_51 : decode cX11_owed 51 = .ok (.imul, 1) := dz_imul (y0 zE_cX11_owed 0 51 (by decide +kernel))
theorem dX11_owed_52 : decode cX11_owed 52 = .ok (.bipush 100, 2) := dz_bipush (ys1 zE_cX11_owed 0 52 (by decide +kernel))
theorem dX11_owed_54 : decode cX11_owed 54 = .ok (.idiv, 1) := dz_idiv (y0 zE_cX11_owed 0 54 (by decide +kernel))
theorem dX11_owed_55 : decode cX11_owed 55 = .ok (.ireturn, 1) := dz_ireturn (y0 zE_cX11_owed 0 55 (by decide +kernel))
theorem gd_wsX11_cancel : wsX11_cancel.all goodWord = true := by decide +kernel
set_option maxRecDepth 20000 in
theorem ggX11_cancel_X11_isWedding : GoodIn wsX11_cancel wsX11_isWedding := gi_q gd_wsX11_cancel _ [(13, 1), (2, 1), (14, 8), (12, 1), (22, 1), (49, 13), (74, 3)] rfl
set_option maxRecDepth 20000 in
theorem gX11_cancel_X11_isWedding : GoodIn wsX11_cancel (wsV RX11 216 RX11 yX11_isWedding wsX11_isWedding) := goodIn_app (gi_q gd_wsX11_cancel _ [(9, 4)] rfl) ggX11_cancel_X11_isWedding
set_option maxRecDepth 20000 in
theorem ggX11_cancel_X11_refuse : GoodIn wsX11_cancel wsX11_refuse := gi_q gd_wsX11_cancel _ [(26, 1), (1, 1), (49, 13)] rfl
set_option maxRecDepth 20000 in
theorem gX11_cancel_X11_refuse : GoodIn wsX11_cancel (wsV RX11 60 RX11 yX11_refuse wsX11_refuse) := goodIn_app (gi_q gd_wsX11_cancel _ [(23, 3), (12, 1)] rfl) ggX11_cancel_X11_refuse
set_option maxRecDepth 20000 in
theorem ggX11_cancel_Jx4a65c_get_915e3 : GoodIn wsX11_cancel wsJx4a65c_get_915e3 := gi_q gd_wsX11_cancel _ [(30, 1), (19, 1), (31, 11), (17, 1), (42, 2), (74, 3)] rfl
set_option maxRecDepth 20000 in
theorem gX11_cancel_Jx4a65c_get_915e3 : GoodIn wsX11_cancel (wsV RX11 90 RJx4a65c yJx4a65c_get_915e3 wsJx4a65c_get_915e3) := goodIn_app (gi_q gd_wsX11_cancel _ [(27, 3), (17, 1)] rfl) ggX11_cancel_Jx4a65c_get_915e3
set_option maxRecDepth 20000 in
theorem ggX11_cancel_X11_owed : GoodIn wsX11_cancel wsX11_owed := gi_q gd_wsX11_cancel _ [(47, 2), (62, 12), (49, 13)] rfl
set_option maxRecDepth 20000 in
theorem gX11_cancel_X11_owed : GoodIn wsX11_cancel (wsV RX11 240 RX11 yX11_owed wsX11_owed) := goodIn_app (gi_q gd_wsX11_cancel _ [(44, 3), (12, 1)] rfl) ggX11_cancel_X11_owed
def zT_cX11_cancel : List (List Nat) := [[42, 3, 181, 0, 44, 42, 27, 182, 0, 216, 154, 0, 9, 42, 4, 182, 0, 60, 172, 42, 180, 0, 19, 27, 182, 0, 90, 192, 0, 122, 77, 44, 180, 0, 124, 4, 164, 0, 9, 42, 5, 182, 0, 60, 172, 44, 180, 0, 124, 4, 160, 0, 11, 42, 44, 182, 0, 240, 167, 0, 4, 3, 62, 3, 29, 44, 180, 0], [29, 44, 180, 0, 210, 100, 184, 0, 244, 54, 4, 44, 89, 180, 0, 210, 21, 4, 96, 181, 0, 210, 42, 89, 180, 0, 213, 21, 4, 96, 181, 0, 213, 44, 6, 181, 0, 124, 29, 172]]
theorem zE_cX11_cancel : zTab cX11_cancel.data.toList zT_cX11_cancel = true := by decide +kernel
theorem dX11_cancel_0 : decode cX11_cancel 0 = .ok (.aload_n 0, 1) := dz_aload_n_0 (y0 zE_cX11_cancel 0 0 (by decide +kernel))
theorem dX11_cancel_1 : decode cX11_cancel 1 = .ok (.iconst 0, 1) := dz_iconst_0 (y0 zE_cX11_cancel 0 1 (by decide +kernel))
theorem dX11_cancel_2 : decode cX11_cancel 2 = .ok (.putfield 44, 3) := dz_putfield (yu2 zE_cX11_cancel 0 2 (by decide +kernel))
theorem dX11_cancel_5 : decode cX11_cancel 5 = .ok (.aload_n 0, 1) := dz_aload_n_0 (y0 zE_cX11_cancel 0 5 (by decide +kernel))
theorem dX11_cancel_6 : decode cX11_cancel 6 = .ok (.iload_n 1, 1) := dz_iload_n_1 (y0 zE_cX11_cancel 0 6 (by decide +kernel))
theorem dX11_cancel_7 : decode cX11_cancel 7 = .ok (.invokevirtual 216, 3) := dz_invokevirtual (yu2 zE_cX11_cancel 0 7 (by decide +kernel))
theorem dX11_cancel_10 : decode cX11_cancel 10 = .ok (.ifCond .ne 9, 3) := dz_ifCond_ne (ys2 zE_cX11_cancel 0 10 (by decide +kernel))
theorem dX11_cancel_13 : decode cX11_cancel 13 = .ok (.aload_n 0, 1) := dz_aload_n_0 (y0 zE_cX11_cancel 0 13 (by decide +kernel))
theorem dX11_cancel_14 : decode cX11_cancel 14 = .ok (.iconst 1, 1) := dz_iconst_1 (y0 zE_cX11_cancel 0 14 (by decide +kernel))
theorem dX11_cancel_15 : decode cX11_cancel 15 = .ok (.invokevirtual 60, 3) := dz_invokevirtual (yu2 zE_cX11_cancel 0 15 (by decide +kernel))
theorem dX11_cancel_18 : decode cX11_cancel 18 = .ok (.ireturn, 1) := dz_ireturn (y0 zE_cX11_cancel 0 18 (by decide +kernel))
theorem dX11_cancel_19 : decode cX11_cancel 19 = .ok (.aload_n 0, 1) := dz_aload_n_0 (y0 zE_cX11_cancel 0 19 (by decide +kernel))
theorem dX11_cancel_20 : decode cX11_cancel 20 = .ok (.getfield 19, 3) := dz_getfield (yu2 zE_cX11_cancel 0 20 (by decide +kernel))
theorem dX11_cancel_23 : decode cX11_cancel 23 = .ok (.iload_n 1, 1) := dz_iload_n_1 (y0 zE_cX11_cancel 0 23 (by decide +kernel))
theorem dX11_cancel_24 : decode cX11_cancel 24 = .ok (.invokevirtual 90, 3) := dz_invokevirtual (yu2 zE_cX11_cancel 0 24 (by decide +kernel))
theorem dX11_cancel_27 : decode cX11_cancel 27 = .ok (.checkcast 122, 3) := dz_checkcast (yu2 zE_cX11_cancel 0 27 (by decide +kernel))
theorem dX11_cancel_30 : decode cX11_cancel 30 = .ok (.astore_n 2, 1) := dz_astore_n_2 (y0 zE_cX11_cancel 0 30 (by decide +kernel))
theorem dX11_cancel_31 : decode cX11_cancel 31 = .ok (.aload_n 2, 1) := dz_aload_n_2 (y0 zE_cX11_cancel 0 31 (by decide +kernel))
theorem dX11_cancel_32 : decode cX11_cancel 32 = .ok (.getfield 124, 3) := dz_getfield (yu2 zE_cX11_cancel 0 32 (by decide +kernel))
theorem dX11_cancel_35 : decode cX11_cancel 35 = .ok (.iconst 1, 1) := dz_iconst_1 (y0 zE_cX11_cancel 0 35 (by decide +kernel))
theorem dX11_cancel_36 : decode cX11_cancel 36 = .ok (.if_icmp .le 9, 3) := dz_if_icmp_le (ys2 zE_cX11_cancel 0 36 (by decide +kernel))
theorem dX11_cancel_39 : decode cX11_cancel 39 = .ok (.aload_n 0, 1) := dz_aload_n_0 (y0 zE_cX11_cancel 0 39 (by decide +kernel))
theorem dX11_cancel_40 : decode cX11_cancel 40 = .ok (.iconst 2, 1) := dz_iconst_2 (y0 zE_cX11_cancel 0 40 (by decide +kernel))
theorem dX11_cancel_41 : decode cX11_cancel 41 = .ok (.invokevirtual 60, 3) := dz_invokevirtual (yu2 zE_cX11_cancel 0 41 (by decide +kernel))
theorem dX11_cancel_44 : decode cX11_cancel 44 = .ok (.ireturn, 1) := dz_ireturn (y0 zE_cX11_cancel 0 44 (by decide +kernel))
theorem dX11_cancel_45 : decode cX11_cancel 45 = .ok (.aload_n 2, 1) := dz_aload_n_2 (y0 zE_cX11_cancel 0 45 (by decide +kernel))
theorem dX11_cancel_46 : decode cX11_cancel 46 = .ok (.getfield 124, 3) := dz_getfield (yu2 zE_cX11_cancel 0 46 (by decide +kernel))
theorem dX11_cancel_49 : decode cX11_cancel 49 = .ok (.iconst 1, 1) := dz_iconst_1 (y0 zE_cX11_cancel 0 49 (by decide +kernel))
theorem dX11_cancel_50 : decode cX11_cancel 50 = .ok (.if_icmp .ne 11, 3) := dz_if_icmp_ne (ys2 zE_cX11_cancel 0 50 (by decide +kernel))
theorem dX11_cancel_53 : decode cX11_cancel 53 = .ok (.aload_n 0, 1) := dz_aload_n_0 (y0 zE_cX11_cancel 0 53 (by decide +kernel))
theorem dX11_cancel_54 : decode cX11_cancel 54 = .ok (.aload_n 2, 1) := dz_aload_n_2 (y0 zE_cX11_cancel 0 54 (by decide +kernel))
theorem dX11_cancel_55 : decode cX11_cancel 55 = .ok (.invokevirtual 240, 3) := dz_invokevirtual (yu2 zE_cX11_cancel 0 55 (by decide +kernel))
theorem dX11_cancel_58 : decode cX11_cancel 58 = .ok (.goto 4, 3) := dz_goto (ys2 zE_cX11_cancel 0 58 (by decide +kernel))
theorem dX11_cancel_61 : decode cX11_cancel 61 = .ok (.iconst 0, 1) := dz_iconst_0 (y0 zE_cX11_cancel 0 61 (by decide +kernel))
theorem dX11_cancel_62 : decode cX11_cancel 62 = .ok (.istore_n 3, 1) := dz_istore_n_3 (y0 zE_cX11_cancel 0 62 (by decide +kernel))
theorem dX11_cancel_63 : decode cX11_cancel 63 = .ok (.iconst 0, 1) := dz_iconst_0 (y0 zE_cX11_cancel 0 63 (by decide +kernel))
theorem dX11_cancel_64 : decode cX11_cancel 64 = .ok (.iload_n 3, 1) := dz_iload_n_3 (y0 zE_cX11_cancel 1 0 (by decide +kernel))
theorem dX11_cancel_65 : decode cX11_cancel 65 = .ok (.aload_n 2, 1) := dz_aload_n_2 (y0 zE_cX11_cancel 1 1 (by decide +kernel))
theorem dX11_cancel_66 : decode cX11_cancel 66 = .ok (.getfield 210, 3) := dz_getfield (yu2 zE_cX11_cancel 1 2 (by decide +kernel))
theorem dX11_cancel_69 : decode cX11_cancel 69 = .ok (.isub, 1) := dz_isub (y0 zE_cX11_cancel 1 5 (by decide +kernel))
theorem dX11_cancel_70 : decode cX11_cancel 70 = .ok (.invokestatic 244, 3) := dz_invokestatic (yu2 zE_cX11_cancel 1 6 (by decide +kernel))
theorem dX11_cancel_73 : decode cX11_cancel 73 = .ok (.istore 4, 2) := dz_istore (yu1 zE_cX11_cancel 1 9 (by decide +kernel))
theorem dX11_cancel_75 : decode cX11_cancel 75 = .ok (.aload_n 2, 1) := dz_aload_n_2 (y0 zE_cX11_cancel 1 11 (by decide +kernel))
theorem dX11_cancel_76 : decode cX11_cancel 76 = .ok (.dup, 1) := dz_dup (y0 zE_cX11_cancel 1 12 (by decide +kernel))
theorem dX11_cancel_77 : decode cX11_cancel 77 = .ok (.getfield 210, 3) := dz_getfield (yu2 zE_cX11_cancel 1 13 (by decide +kernel))
theorem dX11_cancel_80 : decode cX11_cancel 80 = .ok (.iload 4, 2) := dz_iload (yu1 zE_cX11_cancel 1 16 (by decide +kernel))
theorem dX11_cancel_82 : decode cX11_cancel 82 = .ok (.iadd, 1) := dz_iadd (y0 zE_cX11_cancel 1 18 (by decide +kernel))
theorem dX11_cancel_83 : decode cX11_cancel 83 = .ok (.putfield 210, 3) := dz_putfield (yu2 zE_cX11_cancel 1 19 (by decide +kernel))
theorem dX11_cancel_86 : decode cX11_cancel 86 = .ok (.aload_n 0, 1) := dz_aload_n_0 (y0 zE_cX11_cancel 1 22 (by decide +kernel))
theorem dX11_cancel_87 : decode cX11_cancel 87 = .ok (.dup, 1) := dz_dup (y0 zE_cX11_cancel 1 23 (by decide +kernel))
theorem dX11_cancel_88 : decode cX11_cancel 88 = .ok (.getfield 213, 3) := dz_getfield (yu2 zE_cX11_cancel 1 24 (by decide +kernel))
theorem dX11_cancel_91 : decode cX11_cancel 91 = .ok (.iload 4, 2) := dz_iload (yu1 zE_cX11_cancel 1 27 (by decide +kernel))
theorem dX11_cancel_93 : decode cX11_cancel 93 = .ok (.iadd, 1) := dz_iadd (y0 zE_cX11_cancel 1 29 (by decide +kernel))
theorem dX11_cancel_94 : decode cX11_cancel 94 = .ok (.putfield 213, 3) := dz_putfield (yu2 zE_cX11_cancel 1 30 (by decide +kernel))
theorem dX11_cancel_97 : decode cX11_cancel 97 = .ok (.aload_n 2, 1) := dz_aload_n_2 (y0 zE_cX11_cancel 1 33 (by decide +kernel))
theorem dX11_cancel_98 : decode cX11_cancel 98 = .ok (.iconst 3, 1) := dz_iconst_3 (y0 zE_cX11_cancel 1 34 (by decide +kernel))
theorem dX11_cancel_99 : decode cX11_cancel 99 = .ok (.putfield 124, 3) := dz_putfield (yu2 zE_cX11_cancel 1 35 (by decide +kernel))
theorem dX11_cancel_102 : decode cX11_cancel 102 = .ok (.iload_n 3, 1) := dz_iload_n_3 (y0 zE_cX11_cancel 1 38 (by decide +kernel))
theorem dX11_cancel_103 : decode cX11_cancel 103 = .ok (.ireturn, 1) := dz_ireturn (y0 zE_cX11_cancel 1 39 (by decide +kernel))
theorem gd_wsX11_illNow : wsX11_illNow.all goodWord = true := by decide +kernel
set_option maxRecDepth 20000 in
theorem ggX11_illNow_Jx4a65c_get_915e3 : GoodIn wsX11_illNow wsJx4a65c_get_915e3 := gi_q gd_wsX11_illNow _ [(10, 13), (9, 1), (23, 2), (134, 3)] rfl
set_option maxRecDepth 20000 in
theorem gX11_illNow_Jx4a65c_get_915e3 : GoodIn wsX11_illNow (wsV RX11 90 RJx4a65c yJx4a65c_get_915e3 wsJx4a65c_get_915e3) := goodIn_app (gi_q gd_wsX11_illNow _ [(6, 4)] rfl) ggX11_illNow_Jx4a65c_get_915e3
set_option maxRecDepth 20000 in
theorem ggX11_illNow_Jx4a65c_size_8abf5 : GoodIn wsX11_illNow wsJx4a65c_size_8abf5 := gi_q gd_wsX11_illNow _ [(28, 1), (11, 1), (134, 3)] rfl
set_option maxRecDepth 20000 in
theorem gX11_illNow_Jx4a65c_size_8abf5 : GoodIn wsX11_illNow (wsV RX11 48 RJx4a65c yJx4a65c_size_8abf5 wsJx4a65c_size_8abf5) := goodIn_app (gi_q gd_wsX11_illNow _ [(25, 3), (9, 1)] rfl) ggX11_illNow_Jx4a65c_size_8abf5
set_option maxRecDepth 20000 in
theorem ggX11_illNow_X11_isIn : GoodIn wsX11_illNow wsX11_isIn := gi_q gd_wsX11_illNow _ [(32, 1)] rfl
set_option maxRecDepth 20000 in
theorem gX11_illNow_X11_isIn : GoodIn wsX11_illNow (va_wsS RX11 102 yX11_isIn wsX11_isIn) := goodIn_app (gi_q gd_wsX11_illNow _ [(29, 3)] rfl) ggX11_illNow_X11_isIn
set_option maxRecDepth 20000 in
theorem ggX11_illNow_X11_best : GoodIn wsX11_illNow wsX11_best := gi_q gd_wsX11_illNow _ [(36, 1), (3, 2), (6, 19), (37, 3), (31, 1), (40, 1), (1, 1), (25, 4), (41, 4), (2, 1), (45, 5), (29, 2), (32, 1), (50, 65), (134, 3), (115, 19), (137, 1)] rfl
set_option maxRecDepth 20000 in
theorem gX11_illNow_X11_best : GoodIn wsX11_illNow (wsV RX11 200 RX11 yX11_best wsX11_best) := goodIn_app (gi_q gd_wsX11_illNow _ [(33, 3), (31, 1)] rfl) ggX11_illNow_X11_best
def zT_cX11_illNow : List (List Nat) := [[42, 180, 0, 10, 27, 182, 0, 90, 192, 0, 68, 180, 0, 156, 28, 4, 84, 3, 62, 3, 54, 4, 21, 4, 42, 180, 0, 19, 182, 0, 48, 162, 0, 132, 42, 180, 0, 19, 21, 4, 182, 0, 90, 192, 0, 122, 58, 5, 25, 5, 180, 0, 124, 4, 160, 0, 103, 25, 5, 180, 0, 130, 28, 160, 0, 94, 25, 5], [0, 94, 25, 5, 180, 0, 160, 27, 184, 0, 102, 154, 0, 6, 167, 0, 79, 42, 21, 4, 3, 25, 5, 180, 0, 160, 182, 0, 200, 54, 6, 21, 6, 2, 159, 0, 13, 25, 5, 21, 6, 181, 0, 160, 167, 0, 49, 25, 5, 6, 181, 0, 124, 42, 89, 180, 0, 213, 25, 5, 180, 0, 210, 25, 5, 180, 0, 207], [5, 180, 0, 207, 16, 10, 108, 96, 100, 181, 0, 213, 25, 5, 25, 5, 180, 0, 207, 16, 10, 108, 116, 181, 0, 210, 132, 3, 1, 132, 4, 1, 167, 255, 118, 29, 172]]
theorem zE_cX11_illNow : zTab cX11_illNow.data.toList zT_cX11_illNow = true := by decide +kernel
theorem dX11_illNow_0 : decode cX11_illNow 0 = .ok (.aload_n 0, 1) := dz_aload_n_0 (y0 zE_cX11_illNow 0 0 (by decide +kernel))
theorem dX11_illNow_1 : decode cX11_illNow 1 = .ok (.getfield 10, 3) := dz_getfield (yu2 zE_cX11_illNow 0 1 (by decide +kernel))
theorem dX11_illNow_4 : decode cX11_illNow 4 = .ok (.iload_n 1, 1) := dz_iload_n_1 (y0 zE_cX11_illNow 0 4 (by decide +kernel))
theorem dX11_illNow_5 : decode cX11_illNow 5 = .ok (.invokevirtual 90, 3) := dz_invokevirtual (yu2 zE_cX11_illNow 0 5 (by decide +kernel))
theorem dX11_illNow_8 : decode cX11_illNow 8 = .ok (.checkcast 68, 3) := dz_checkcast (yu2 zE_cX11_illNow 0 8 (by decide +kernel))
theorem dX11_illNow_11 : decode cX11_illNow 11 = .ok (.getfield 156, 3) := dz_getfield (yu2 zE_cX11_illNow 0 11 (by decide +kernel))
theorem dX11_illNow_14 : decode cX11_illNow 14 = .ok (.iload_n 2, 1) := dz_iload_n_2 (y0 zE_cX11_illNow 0 14 (by decide +kernel))
theorem dX11_illNow_15 : decode cX11_illNow 15 = .ok (.iconst 1, 1) := dz_iconst_1 (y0 zE_cX11_illNow 0 15 (by decide +kernel))
theorem dX11_illNow_16 : decode cX11_illNow 16 = .ok (.bastore, 1) := dz_bastore (y0 zE_cX11_illNow 0 16 (by decide +kernel))
theorem dX11_illNow_17 : decode cX11_illNow 17 = .ok (.iconst 0, 1) := dz_iconst_0 (y0 zE_cX11_illNow 0 17 (by decide +kernel))
theorem dX11_illNow_18 : decode cX11_illNow 18 = .ok (.istore_n 3, 1) := dz_istore_n_3 (y0 zE_cX11_illNow 0 18 (by decide +kernel))
theorem dX11_illNow_19 : decode cX11_illNow 19 = .ok (.iconst 0, 1) := dz_iconst_0 (y0 zE_cX11_illNow 0 19 (by decide +kernel))
theorem dX11_illNow_20 : decode cX11_illNow 20 = .ok (.istore 4, 2) := dz_istore (yu1 zE_cX11_illNow 0 20 (by decide +kernel))
theorem dX11_illNow_22 : decode cX11_illNow 22 = .ok (.iload 4, 2) := dz_iload (yu1 zE_cX11_illNow 0 22 (by decide +kernel))
theorem dX11_illNow_24 : decode cX11_illNow 24 = .ok (.aload_n 0, 1) := dz_aload_n_0 (y0 zE_cX11_illNow 0 24 (by decide +kernel))
theorem dX11_illNow_25 : decode cX11_illNow 25 = .ok (.getfield 19, 3) := dz_getfield (yu2 zE_cX11_illNow 0 25 (by decide +kernel))
theorem dX11_illNow_28 : decode cX11_illNow 28 = .ok (.invokevirtual 48, 3) := dz_invokevirtual (yu2 zE_cX11_illNow 0 28 (by decide +kernel))
theorem dX11_illNow_31 : decode cX11_illNow 31 = .ok (.if_icmp .ge 132, 3) := dz_if_icmp_ge (ys2 zE_cX11_illNow 0 31 (by decide +kernel))
theorem dX11_illNow_34 : decode cX11_illNow 34 = .ok (.aload_n 0, 1) := dz_aload_n_0 (y0 zE_cX11_illNow 0 34 (by decide +kernel))
theorem dX11_illNow_35 : decode cX11_illNow 35 = .ok (.getfield 19, 3) := dz_getfield (yu2 zE_cX11_illNow 0 35 (by decide +kernel))
theorem dX11_illNow_38 : decode cX11_illNow 38 = .ok (.iload 4, 2) := dz_iload (yu1 zE_cX11_illNow 0 38 (by decide +kernel))
theorem dX11_illNow_40 : decode cX11_illNow 40 = .ok (.invokevirtual 90, 3) := dz_invokevirtual (yu2 zE_cX11_illNow 0 40 (by decide +kernel))
theorem dX11_illNow_43 : decode cX11_illNow 43 = .ok (.checkcast 122, 3) := dz_checkcast (yu2 zE_cX11_illNow 0 43 (by decide +kernel))
theorem dX11_illNow_46 : decode cX11_illNow 46 = .ok (.astore 5, 2) := dz_astore (yu1 zE_cX11_illNow 0 46 (by decide +kernel))
theorem dX11_illNow_48 : decode cX11_illNow 48 = .ok (.aload 5, 2) := dz_aload (yu1 zE_cX11_illNow 0 48 (by decide +kernel))
theorem dX11_illNow_50 : decode cX11_illNow 50 = .ok (.getfield 124, 3) := dz_getfield (yu2 zE_cX11_illNow 0 50 (by decide +kernel))
theorem dX11_illNow_53 : decode cX11_illNow 53 = .ok (.iconst 1, 1) := dz_iconst_1 (y0 zE_cX11_illNow 0 53 (by decide +kernel))
theorem dX11_illNow_54 : decode cX11_illNow 54 = .ok (.if_icmp .ne 103, 3) := dz_if_icmp_ne (ys2 zE_cX11_illNow 0 54 (by decide +kernel))
theorem dX11_illNow_57 : decode cX11_illNow 57 = .ok (.aload 5, 2) := dz_aload (yu1 zE_cX11_illNow 0 57 (by decide +kernel))
theorem dX11_illNow_59 : decode cX11_illNow 59 = .ok (.getfield 130, 3) := dz_getfield (yu2 zE_cX11_illNow 0 59 (by decide +kernel))
theorem dX11_illNow_62 : decode cX11_illNow 62 = .ok (.iload_n 2, 1) := dz_iload_n_2 (y0 zE_cX11_illNow 0 62 (by decide +kernel))
theorem dX11_illNow_63 : decode cX11_illNow 63 = .ok (.if_icmp .ne 94, 3) := dz_if_icmp_ne (ys2 zE_cX11_illNow 0 63 (by decide +kernel))
theorem dX11_illNow_66 : decode cX11_illNow 66 = .ok (.aload 5, 2) := dz_aload (yu1 zE_cX11_illNow 1 2 (by decide +kernel))
theorem dX11_illNow_68 : decode cX11_illNow 68 = .ok (.getfield 160, 3) := dz_getfield (yu2 zE_cX11_illNow 1 4 (by decide +kernel))
theorem dX11_illNow_71 : decode cX11_illNow 71 = .ok (.iload_n 1, 1) := dz_iload_n_1 (y0 zE_cX11_illNow 1 7 (by decide +kernel))
theorem dX11_illNow_72 : decode cX11_illNow 72 = .ok (.invokestatic 102, 3) := dz_invokestatic (yu2 zE_cX11_illNow 1 8 (by decide +kernel))
theorem dX11_illNow_75 : decode cX11_illNow 75 = .ok (.ifCond .ne 6, 3) := dz_ifCond_ne (ys2 zE_cX11_illNow 1 11 (by decide +kernel))
theorem dX11_illNow_78 : decode cX11_illNow 78 = .ok (.goto 79, 3) := dz_goto (ys2 zE_cX11_illNow 1 14 (by decide +kernel))
theorem dX11_illNow_81 : decode cX11_illNow 81 = .ok (.aload_n 0, 1) := dz_aload_n_0 (y0 zE_cX11_illNow 1 17 (by decide +kernel))
theorem dX11_illNow_82 : decode cX11_illNow 82 = .ok (.iload 4, 2) := dz_iload (yu1 zE_cX11_illNow 1 18 (by decide +kernel))
theorem dX11_illNow_84 : decode cX11_illNow 84 = .ok (.iconst 0, 1) := dz_iconst_0 (y0 zE_cX11_illNow 1 20 (by decide +kernel))
theorem dX11_illNow_85 : decode cX11_illNow 85 = .ok (.aload 5, 2) := dz_aload (yu1 zE_cX11_illNow 1 21 (by decide +kernel))
theorem dX11_illNow_87 : decode cX11_illNow 87 = .ok (.getfield 160, 3) := dz_getfield (yu2 zE_cX11_illNow 1 23 (by decide +kernel))
theorem dX11_illNow_90 : decode cX11_illNow 90 = .ok (.invokevirtual 200, 3) := dz_invokevirtual (yu2 zE_cX11_illNow 1 26 (by decide +kernel))
theorem dX11_illNow_93 : decode cX11_illNow 93 = .ok (.istore 6, 2) := dz_istore (yu1 zE_cX11_illNow 1 29 (by decide +kernel))
theorem dX11_illNow_95 : decode cX11_illNow 95 = .ok (.iload 6, 2) := dz_iload (yu1 zE_cX11_illNow 1 31 (by decide +kernel))
theorem dX11_illNow_97 : decode cX11_illNow 97 = .ok (.iconst (-1), 1) := dz_iconst_m1 (y0 zE_cX11_illNow 1 33 (by decide +kernel))
theorem dX11_illNow_98 : decode cX11_illNow 98 = .ok (.if_icmp .eq 13, 3) := dz_if_icmp_eq (ys2 zE_cX11_illNow 1 34 (by decide +kernel))
theorem dX11_illNow_101 : decode cX11_illNow 101 = .ok (.aload 5, 2) := dz_aload (yu1 zE_cX11_illNow 1 37 (by decide +kernel))
theorem dX11_illNow_103 : decode cX11_illNow 103 = .ok (.iload 6, 2) := dz_iload (yu1 zE_cX11_illNow 1 39 (by decide +kernel))
theorem dX11_illNow_105 : decode cX11_illNow 105 = .ok (.putfield 160, 3) := dz_putfield (yu2 zE_cX11_illNow 1 41 (by decide +kernel))
theorem dX11_illNow_108 : decode cX11_illNow 108 = .ok (.goto 49, 3) := dz_goto (ys2 zE_cX11_illNow 1 44 (by decide +kernel))
theorem dX11_illNow_111 : decode cX11_illNow 111 = .ok (.aload 5, 2) := dz_aload (yu1 zE_cX11_illNow 1 47 (by decide +kernel))
theorem dX11_illNow_113 : decode cX11_illNow 113 = .ok (.iconst 3, 1) := dz_iconst_3 (y0 zE_cX11_illNow 1 49 (by decide +kernel))
theorem dX11_illNow_114 : decode cX11_illNow 114 = .ok (.putfield 124, 3) := dz_putfield (yu2 zE_cX11_illNow 1 50 (by decide +kernel))
theorem dX11_illNow_117 : decode cX11_illNow 117 = .ok (.aload_n 0, 1) := dz_aload_n_0 (y0 zE_cX11_illNow 1 53 (by decide +kernel))
theorem dX11_illNow_118 : decode cX11_illNow 118 = .ok (.dup, 1) := dz_dup (y0 zE_cX11_illNow 1 54 (by decide +kernel))
theorem dX11_illNow_119 : decode cX11_illNow 119 = .ok (.getfield 213, 3) := dz_getfield (yu2 zE_cX11_illNow 1 55 (by decide +kernel))
theorem dX11_illNow_122 : decode cX11_illNow 122 = .ok (.aload 5, 2) := dz_aload (yu1 zE_cX11_illNow 1 58 (by decide +kernel))
theorem dX11_illNow_124 : decode cX11_illNow 124 = .ok (.getfield 210, 3) := dz_getfield (yu2 zE_cX11_illNow 1 60 (by decide +kernel))
theorem dX11_illNow_127 : decode cX11_illNow 127 = .ok (.aload 5, 2) := dz_aload (yu1 zE_cX11_illNow 1 63 (by decide +kernel))
theorem dX11_illNow_129 : decode cX11_illNow 129 = .ok (.getfield 207, 3) := dz_getfield (yu2 zE_cX11_illNow 2 1 (by decide +kernel))
theorem dX11_illNow_132 : decode cX11_illNow 132 = .ok (.bipush 10, 2) := dz_bipush (ys1 zE_cX11_illNow 2 4 (by decide +kernel))
theorem dX11_illNow_134 : decode cX11_illNow 134 = .ok (.idiv, 1) := dz_idiv (y0 zE_cX11_illNow 2 6 (by decide +kernel))
theorem dX11_illNow_135 : decode cX11_illNow 135 = .ok (.iadd, 1) := dz_iadd (y0 zE_cX11_illNow 2 7 (by decide +kernel))
theorem dX11_illNow_136 : decode cX11_illNow 136 = .ok (.isub, 1) := dz_isub (y0 zE_cX11_illNow 2 8 (by decide +kernel))
theorem dX11_illNow_137 : decode cX11_illNow 137 = .ok (.putfield 213, 3) := dz_putfield (yu2 zE_cX11_illNow 2 9 (by decide +kernel))
theorem dX11_illNow_140 : decode cX11_illNow 140 = .ok (.aload 5, 2) := dz_aload (yu1 zE_cX11_illNow 2 12 (by decide +kernel))
theorem dX11_illNow_142 : decode cX11_illNow 142 = .ok (.aload 5, 2) := dz_aload (yu1 zE_cX11_illNow 2 14 (by decide +kernel))
theorem dX11_illNow_144 : decode cX11_illNow 144 = .ok (.getfield 207, 3) := dz_getfield (yu2 zE_cX11_illNow 2 16 (by decide +kernel))
theorem dX11_illNow_147 : decode cX11_illNow 147 = .ok (.bipush 10, 2) := dz_bipush (ys1 zE_cX11_illNow 2 19 (by decide +kernel))
theorem dX11_illNow_149 : decode cX11_illNow 149 = .ok (.idiv, 1) := dz_idiv (y0 zE_cX11_illNow 2 21 (by decide +kernel))
theorem dX11_illNow_150 : decode cX11_illNow 150 = .ok (.ineg, 1) := dz_ineg (y0 zE_cX11_illNow 2 22 (by decide +kernel))
theorem dX11_illNow_151 : decode cX11_illNow 151 = .ok (.putfield 210, 3) := dz_putfield (yu2 zE_cX11_illNow 2 23 (by decide +kernel))
theorem dX11_illNow_154 : decode cX11_illNow 154 = .ok (.iinc 3 1, 3) := dz_iinc (yii zE_cX11_illNow 2 26 (by decide +kernel))
theorem dX11_illNow_157 : decode cX11_illNow 157 = .ok (.iinc 4 1, 3) := dz_iinc (yii zE_cX11_illNow 2 29 (by decide +kernel))
