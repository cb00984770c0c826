theorem dL_below_0 : decode cL_below 0 = .ok (.iload_n 0, 1) := by decide +kernel
theorem dL_below_1 : decode cL_below 1 = .ok (.ldc 7, 2) := by decide +kernel
theorem dL_below_3 : decode cL_below 3 = .ok (.iand, 1) := by decide +kernel
theorem dL_below_4 : decode cL_below 4 = .ok (.iload_n 1, 1) := by decide +kernel
theorem dL_below_5 : decode cL_below 5 = .ok (.irem, 1) := by decide +kernel
theorem dL_below_6 : decode cL_below 6 = .ok (.ireturn, 1) := by decide +kernel
theorem dL_cell_0 : decode cL_cell 0 = .ok (.iload_n 1, 1) := by decide +kernel
theorem dL_cell_1 : decode cL_cell 1 = .ok (.aload_n 0, 1) := by decide +kernel
theorem dL_cell_2 : decode cL_cell 2 = .ok (.arraylength, 1) := by decide +kernel
theorem dL_cell_3 : decode cL_cell 3 = .ok (.if_icmp .ge 9, 3) := by decide +kernel
theorem dL_cell_6 : decode cL_cell 6 = .ok (.aload_n 0, 1) := by decide +kernel
theorem dL_cell_7 : decode cL_cell 7 = .ok (.iload_n 1, 1) := by decide +kernel
theorem dL_cell_8 : decode cL_cell 8 = .ok (.iaload, 1) := by decide +kernel
theorem dL_cell_9 : decode cL_cell 9 = .ok (.goto 9, 3) := by decide +kernel
theorem dL_cell_12 : decode cL_cell 12 = .ok (.ldc 8, 2) := by decide +kernel
theorem dL_cell_14 : decode cL_cell 14 = .ok (.iload_n 1, 1) := by decide +kernel
theorem dL_cell_15 : decode cL_cell 15 = .ok (.iconst 3, 1) := by decide +kernel
theorem dL_cell_16 : decode cL_cell 16 = .ok (.iadd, 1) := by decide +kernel
theorem dL_cell_17 : decode cL_cell 17 = .ok (.imul, 1) := by decide +kernel
theorem dL_cell_18 : decode cL_cell 18 = .ok (.ireturn, 1) := by decide +kernel
set_option maxRecDepth 20000 in
theorem ggL_agency_X7_init : GoodIn wsL_agency wsX7_init := goodIn_r _ [8, 9, 10, 11, 12, 13, 14, 15, 16, 17, 18, 19, 20, 21, 22, 23, 5, 24, 25, 26, 27, 28, 29, 30, 31, 32, 33, 34, 35, 36, 37, 38, 39, 40, 41, 42, 43, 44, 45, 46, 47, 48, 49, 50, 51, 52, 53, 54, 55, 56, 57, 58, 59, 60, 61, 62, 63, 64, 65, 66, 67, 68, 69, 70, 71, 72, 73, 74, 75, 76, 77, 78, 79, 80, 81, 82, 83, 84, 85, 86, 87, 88, 89, 90, 91, 92, 93, 94, 95, 96, 97, 98, 99, 100, 101, 102, 103, 104, 105, 106, 107, 108, 109, 110, 111, 112, 113, 114, 266, 267, 268, 269, 270, 271, 272, 273, 274, 275, 276, 277, 278, 279, 280, 281, 282, 283, 284, 285, 286, 287, 288, 289, 290, 291, 292, 293, 294, 295, 296, 297, 298, 299, 300, 301, 302, 303, 304, 305, 306, 307, 308, 309, 310, 311, 312, 313, 314, 315, 316, 317, 318, 319, 320, 321, 322] (by decide +kernel) (by decide +kernel)
set_option maxRecDepth 20000 in
theorem gL_agency_X7_init : GoodIn wsL_agency (wsX7_init) := ggL_agency_X7_init
set_option maxRecDepth 20000 in
theorem ggL_agency_L_cell : GoodIn wsL_agency wsL_cell := goodIn_r _ [118, 119] (by decide +kernel) (by decide +kernel)
set_option maxRecDepth 20000 in
theorem gL_agency_L_cell : GoodIn wsL_agency (va_wsS RL 12 yL_cell wsL_cell) := goodIn_app (goodIn_of _ (by decide +kernel)) ggL_agency_L_cell
set_option maxRecDepth 20000 in
theorem ggL_agency_L_below : GoodIn wsL_agency wsL_below := goodIn_r _ [122, 123] (by decide +kernel) (by decide +kernel)
set_option maxRecDepth 20000 in
theorem gL_agency_L_below : GoodIn wsL_agency (va_wsS RL 18 yL_below wsL_below) := goodIn_app (goodIn_of _ (by decide +kernel)) ggL_agency_L_below
set_option maxRecDepth 20000 in
theorem ggL_agency_X7_road : GoodIn wsL_agency wsX7_road := goodIn_ca (goodIn_ca (goodIn_r _ [127, 128, 129, 23, 130, 131, 3, 132, 133, 134, 135, 136, 137, 138, 139, 140, 22, 141, 54, 55, 142, 143, 144, 145, 146, 147, 148, 149, 150, 151, 152, 153, 266, 267, 268, 269, 270, 271, 272, 273, 274, 275, 276, 277, 278, 279, 280, 281, 282] (by decide +kernel) (by decide +kernel)) (goodIn_sub (fun _ h => List.mem_cons_of_mem _ (List.mem_append_left _ (List.mem_append_left _ (List.mem_append_right _ h)))) (by decide +kernel))) (goodIn_sub (fun _ h => List.mem_cons_of_mem _ (List.mem_append_left _ (List.mem_append_right _ h))) (by decide +kernel))
set_option maxRecDepth 20000 in
theorem gL_agency_X7_road : GoodIn wsL_agency (wsV RL 22 RX7 yX7_road wsX7_road) := goodIn_app (goodIn_of _ (by decide +kernel)) ggL_agency_X7_road
set_option maxRecDepth 20000 in
theorem ggL_agency_X7_player : GoodIn wsL_agency wsX7_player := goodIn_ca (goodIn_ca (goodIn_ca (goodIn_r _ [157, 133, 134, 128, 129, 158, 159, 25, 13, 160, 161, 162, 163, 135, 136, 3, 137, 164, 165, 166, 167, 266, 267, 268, 269, 270, 271, 272, 273, 274, 275, 276, 277, 278, 279, 280, 296, 297, 298, 299, 300, 301, 302, 303] (by decide +kernel) (by decide +kernel)) (goodIn_sub (fun _ h => List.mem_cons_of_mem _ (List.mem_append_left _ (List.mem_append_right _ h))) (by decide +kernel))) (goodIn_sub (fun _ h => List.mem_cons_of_mem _ (List.mem_append_left _ (List.mem_append_left _ (List.mem_append_right _ h)))) (by decide +kernel))) (goodIn_sub (fun _ h => List.mem_cons_of_mem _ (List.mem_append_right _ h)) (by decide +kernel))
set_option maxRecDepth 20000 in
theorem gL_agency_X7_player : GoodIn wsL_agency (wsV RL 27 RX7 yX7_player wsX7_player) := goodIn_app (goodIn_of _ (by decide +kernel)) ggL_agency_X7_player
set_option maxRecDepth 20000 in
theorem ggL_agency_X7_feud : GoodIn wsL_agency wsX7_feud := goodIn_ca (goodIn_ca (goodIn_r _ [171, 128, 129, 13, 172, 173, 174, 175, 3, 176, 133, 134, 25, 177, 178, 179, 266, 267, 268, 269, 270, 271, 272, 273, 274, 275, 276, 277, 278, 279, 280, 296, 297, 298, 299, 300, 301, 302, 303] (by decide +kernel) (by decide +kernel)) (goodIn_sub (fun _ h => List.mem_cons_of_mem _ (List.mem_append_left _ (List.mem_append_left _ (List.mem_append_right _ h)))) (by decide +kernel))) (goodIn_sub (fun _ h => List.mem_cons_of_mem _ (List.mem_append_left _ (List.mem_append_right _ h))) (by decide +kernel))
set_option maxRecDepth 20000 in
theorem gL_agency_X7_feud : GoodIn wsL_agency (wsV RL 31 RX7 yX7_feud wsX7_feud) := goodIn_app (goodIn_of _ (by decide +kernel)) ggL_agency_X7_feud
set_option maxRecDepth 20000 in
theorem ggL_agency_X7_band : GoodIn wsL_agency wsX7_band := goodIn_ca (goodIn_ca (goodIn_r _ [183, 128, 129, 158, 159, 26, 17, 184, 185, 3, 186, 187, 188, 189, 46, 190, 97, 99, 98, 266, 267, 268, 269, 270, 271, 272, 273, 274, 275, 276, 277, 278, 279, 280, 308, 309, 310] (by decide +kernel) (by decide +kernel)) (goodIn_sub (fun _ h => List.mem_cons_of_mem _ (List.mem_append_left _ (List.mem_append_left _ (List.mem_append_right _ h)))) (by decide +kernel))) (goodIn_sub (fun _ h => List.mem_cons_of_mem _ (List.mem_append_right _ h)) (by decide +kernel))
set_option maxRecDepth 20000 in
theorem gL_agency_X7_band : GoodIn wsL_agency (wsV RL 35 RX7 yX7_band wsX7_band) := goodIn_app (goodIn_of _ (by decide +kernel)) ggL_agency_X7_band
set_option maxRecDepth 20000 in
theorem ggL_agency_X7_song : GoodIn wsL_agency wsX7_song := goodIn_ca (goodIn_ca (goodIn_r _ [194, 128, 129, 15, 195, 196, 197, 198, 199, 3, 200, 133, 134, 266, 267, 268, 269, 270, 271, 272, 273, 274, 275, 276, 277, 278, 279, 280, 304, 305, 306, 307] (by decide +kernel) (by decide +kernel)) (goodIn_sub (fun _ h => List.mem_cons_of_mem _ (List.mem_append_left _ (List.mem_append_left _ (List.mem_append_right _ h)))) (by decide +kernel))) (goodIn_sub (fun _ h => List.mem_cons_of_mem _ (List.mem_append_left _ (List.mem_append_right _ h))) (by decide +kernel))
set_option maxRecDepth 20000 in
theorem gL_agency_X7_song : GoodIn wsL_agency (wsV RL 39 RX7 yX7_song wsX7_song) := goodIn_app (goodIn_of _ (by decide +kernel)) ggL_agency_X7_song
set_option maxRecDepth 20000 in
theorem ggL_agency_L_asked : GoodIn wsL_agency wsL_asked := goodIn_ca (goodIn_ca (goodIn_ca (goodIn_r _ [203, 204, 205, 147, 148, 149, 120, 121, 117, 122, 123, 206, 207, 208, 3, 209, 128, 129, 28, 25, 26, 27, 29, 210, 211, 212, 213, 19, 214, 215, 216, 217, 218, 13, 172, 219, 220, 221, 222, 223, 224, 225, 226, 227, 228, 229, 230, 231, 232, 233, 234, 24, 235, 236, 237, 238, 239, 240, 241, 242, 243, 244, 245, 246, 247, 158, 159, 248, 249, 250, 251, 252, 253, 254, 255, 256, 257, 258, 133, 134, 130, 131, 132, 135, 136, 137, 259, 260, 261, 164, 165, 166, 167, 262, 263, 264, 265, 266, 267, 268, 269, 270, 271, 272, 273, 274, 275, 276, 277, 278, 279, 280, 311, 312, 313, 314, 315, 316, 317, 318, 319, 320, 321, 322, 296, 297, 298, 299, 300, 301, 302, 303] (by decide +kernel) (by decide +kernel)) (goodIn_sub (fun _ h => List.mem_cons_of_mem _ (List.mem_append_left _ (List.mem_append_left _ (List.mem_append_right _ h)))) (by decide +kernel))) (goodIn_sub (fun _ h => List.mem_cons_of_mem _ (List.mem_append_right _ h)) (by decide +kernel))) (goodIn_sub (fun _ h => List.mem_cons_of_mem _ (List.mem_append_left _ (List.mem_append_right _ h))) (by decide +kernel))
set_option maxRecDepth 20000 in
theorem gL_agency_L_asked : GoodIn wsL_agency (va_wsS RL 42 yL_asked wsL_asked) := goodIn_app (goodIn_of _ (by decide +kernel)) ggL_agency_L_asked
theorem dL_agency_0 : decode cL_agency 0 = .ok (.new 9, 3) := by decide +kernel
theorem dL_agency_3 : decode cL_agency 3 = .ok (.dup, 1) := by decide +kernel
theorem dL_agency_4 : decode cL_agency 4 = .ok (.invokespecial 11, 3) := by decide +kernel
theorem dL_agency_7 : decode cL_agency 7 = .ok (.astore_n 1, 1) := by decide +kernel
theorem dL_agency_8 : decode cL_agency 8 = .ok (.iconst 0, 1) := by decide +kernel
theorem dL_agency_9 : decode cL_agency 9 = .ok (.istore_n 2, 1) := by decide +kernel
theorem dL_agency_10 : decode cL_agency 10 = .ok (.iload_n 2, 1) := by decide +kernel
theorem dL_agency_11 : decode cL_agency 11 = .ok (.bipush 7, 2) := by decide +kernel
theorem dL_agency_13 : decode cL_agency 13 = .ok (.if_icmp .ge 68, 3) := by decide +kernel
theorem dL_agency_16 : decode cL_agency 16 = .ok (.aload_n 0, 1) := by decide +kernel
theorem dL_agency_17 : decode cL_agency 17 = .ok (.iconst 0, 1) := by decide +kernel
theorem dL_agency_18 : decode cL_agency 18 = .ok (.invokestatic 12, 3) := by decide +kernel
theorem dL_agency_21 : decode cL_agency 21 = .ok (.iconst 2, 1) := by decide +kernel
theorem dL_agency_22 : decode cL_agency 22 = .ok (.iload_n 2, 1) := by decide +kernel
theorem dL_agency_23 : decode cL_agency 23 = .ok (.imul, 1) := by decide +kernel
theorem dL_agency_24 : decode cL_agency 24 = .ok (.ishr, 1) := by decide +kernel
theorem dL_agency_25 : decode cL_agency 25 = .ok (.bipush 6, 2) := by decide +kernel
theorem dL_agency_27 : decode cL_agency 27 = .ok (.invokestatic 18, 3) := by decide +kernel
theorem dL_agency_30 : decode cL_agency 30 = .ok (.istore_n 3, 1) := by decide +kernel
theorem dL_agency_31 : decode cL_agency 31 = .ok (.aload_n 0, 1) := by decide +kernel
theorem dL_agency_32 : decode cL_agency 32 = .ok (.iconst 1, 1) := by decide +kernel
theorem dL_agency_33 : decode cL_agency 33 = .ok (.invokestatic 12, 3) := by decide +kernel
theorem dL_agency_36 : decode cL_agency 36 = .ok (.iconst 2, 1) := by decide +kernel
theorem dL_agency_37 : decode cL_agency 37 = .ok (.iload_n 2, 1) := by decide +kernel
theorem dL_agency_38 : decode cL_agency 38 = .ok (.imul, 1) := by decide +kernel
theorem dL_agency_39 : decode cL_agency 39 = .ok (.ishr, 1) := by decide +kernel
theorem dL_agency_40 : decode cL_agency 40 = .ok (.bipush 6, 2) := by decide +kernel
theorem dL_agency_42 : decode cL_agency 42 = .ok (.invokestatic 18, 3) := by decide +kernel
theorem dL_agency_45 : decode cL_agency 45 = .ok (.istore 4, 2) := by decide +kernel
theorem dL_agency_47 : decode cL_agency 47 = .ok (.iload_n 3, 1) := by decide +kernel
theorem dL_agency_48 : decode cL_agency 48 = .ok (.iload 4, 2) := by decide +kernel
theorem dL_agency_50 : decode cL_agency 50 = .ok (.if_icmp .eq 25, 3) := by decide +kernel
theorem dL_agency_53 : decode cL_agency 53 = .ok (.aload_n 1, 1) := by decide +kernel
theorem dL_agency_54 : decode cL_agency 54 = .ok (.iload_n 3, 1) := by decide +kernel
theorem dL_agency_55 : decode cL_agency 55 = .ok (.iload 4, 2) := by decide +kernel
theorem dL_agency_57 : decode cL_agency 57 = .ok (.aload_n 0, 1) := by decide +kernel
theorem dL_agency_58 : decode cL_agency 58 = .ok (.iconst 2, 1) := by decide +kernel
theorem dL_agency_59 : decode cL_agency 59 = .ok (.invokestatic 12, 3) := by decide +kernel
theorem dL_agency_62 : decode cL_agency 62 = .ok (.iconst 2, 1) := by decide +kernel
theorem dL_agency_63 : decode cL_agency 63 = .ok (.iload_n 2, 1) := by decide +kernel
theorem dL_agency_64 : decode cL_agency 64 = .ok (.imul, 1) := by decide +kernel
theorem dL_agency_65 : decode cL_agency 65 = .ok (.ishr, 1) := by decide +kernel
theorem dL_agency_66 : decode cL_agency 66 = .ok (.bipush 7, 2) := by decide +kernel
theorem dL_agency_68 : decode cL_agency 68 = .ok (.invokestatic 18, 3) := by decide +kernel
theorem dL_agency_71 : decode cL_agency 71 = .ok (.invokevirtual 22, 3) := by decide +kernel
theorem dL_agency_74 : decode cL_agency 74 = .ok (.pop, 1) := by decide +kernel
theorem dL_agency_75 : decode cL_agency 75 = .ok (.iinc 2 1, 3) := by decide +kernel
theorem dL_agency_78 : decode cL_agency 78 = .ok (.goto (-68), 3) := by decide +kernel
theorem dL_agency_81 : decode cL_agency 81 = .ok (.iconst 2, 1) := by decide +kernel
theorem dL_agency_82 : decode cL_agency 82 = .ok (.aload_n 0, 1) := by decide +kernel
theorem dL_agency_83 : decode cL_agency 83 = .ok (.iconst 3, 1) := by decide +kernel
theorem dL_agency_84 : decode cL_agency 84 = .ok (.invokestatic 12, 3) := by decide +kernel
theorem dL_agency_87 : decode cL_agency 87 = .ok (.iconst 5, 1) := by decide +kernel
theorem dL_agency_88 : decode cL_agency 88 = .ok (.invokestatic 18, 3) := by decide +kernel
theorem dL_agency_91 : decode cL_agency 91 = .ok (.iadd, 1) := by decide +kernel
theorem dL_agency_92 : decode cL_agency 92 = .ok (.istore_n 2, 1) := by decide +kernel
theorem dL_agency_93 : decode cL_agency 93 = .ok (.iconst 0, 1) := by decide +kernel
theorem dL_agency_94 : decode cL_agency 94 = .ok (.istore_n 3, 1) := by decide +kernel
theorem dL_agency_95 : decode cL_agency 95 = .ok (.iload_n 3, 1) := by decide +kernel
theorem dL_agency_96 : decode cL_agency 96 = .ok (.iload_n 2, 1) := by decide +kernel
theorem dL_agency_97 : decode cL_agency 97 = .ok (.if_icmp .ge 71, 3) := by decide +kernel
theorem dL_agency_100 : decode cL_agency 100 = .ok (.aload_n 1, 1) := by decide +kernel
theorem dL_agency_101 : decode cL_agency 101 = .ok (.iconst 1, 1) := by decide +kernel
theorem dL_agency_102 : decode cL_agency 102 = .ok (.aload_n 0, 1) := by decide +kernel
theorem dL_agency_103 : decode cL_agency 103 = .ok (.iconst 4, 1) := by decide +kernel
theorem dL_agency_104 : decode cL_agency 104 = .ok (.invokestatic 12, 3) := by decide +kernel
theorem dL_agency_107 : decode cL_agency 107 = .ok (.iconst 3, 1) := by decide +kernel
theorem dL_agency_108 : decode cL_agency 108 = .ok (.iload_n 3, 1) := by decide +kernel
theorem dL_agency_109 : decode cL_agency 109 = .ok (.imul, 1) := by decide +kernel
theorem dL_agency_110 : decode cL_agency 110 = .ok (.ishr, 1) := by decide +kernel
theorem dL_agency_111 : decode cL_agency 111 = .ok (.bipush 7, 2) := by decide +kernel
theorem dL_agency_113 : decode cL_agency 113 = .ok (.invokestatic 18, 3) := by decide +kernel
theorem dL_agency_116 : decode cL_agency 116 = .ok (.iadd, 1) := by decide +kernel
theorem dL_agency_117 : decode cL_agency 117 = .ok (.aload_n 0, 1) := by decide +kernel
theorem dL_agency_118 : decode cL_agency 118 = .ok (.iconst 5, 1) := by decide +kernel
theorem dL_agency_119 : decode cL_agency 119 = .ok (.invokestatic 12, 3) := by decide +kernel
theorem dL_agency_122 : decode cL_agency 122 = .ok (.iload_n 3, 1) := by decide +kernel
theorem dL_agency_123 : decode cL_agency 123 = .ok (.ishr, 1) := by decide +kernel
theorem dL_agency_124 : decode cL_agency 124 = .ok (.ldc 26, 2) := by decide +kernel
theorem dL_agency_126 : decode cL_agency 126 = .ok (.iand, 1) := by decide +kernel
theorem dL_agency_127 : decode cL_agency 127 = .ok (.aload_n 0, 1) := by decide +kernel
theorem dL_agency_128 : decode cL_agency 128 = .ok (.bipush 6, 2) := by decide +kernel
theorem dL_agency_130 : decode cL_agency 130 = .ok (.invokestatic 12, 3) := by decide +kernel
theorem dL_agency_133 : decode cL_agency 133 = .ok (.iconst 2, 1) := by decide +kernel
theorem dL_agency_134 : decode cL_agency 134 = .ok (.iload_n 3, 1) := by decide +kernel
theorem dL_agency_135 : decode cL_agency 135 = .ok (.imul, 1) := by decide +kernel
theorem dL_agency_136 : decode cL_agency 136 = .ok (.ishr, 1) := by decide +kernel
theorem dL_agency_137 : decode cL_agency 137 = .ok (.iconst 3, 1) := by decide +kernel
theorem dL_agency_138 : decode cL_agency 138 = .ok (.invokestatic 18, 3) := by decide +kernel
theorem dL_agency_141 : decode cL_agency 141 = .ok (.iconst 1, 1) := by decide +kernel
theorem dL_agency_142 : decode cL_agency 142 = .ok (.aload_n 0, 1) := by decide +kernel
theorem dL_agency_143 : decode cL_agency 143 = .ok (.bipush 7, 2) := by decide +kernel
theorem dL_agency_145 : decode cL_agency 145 = .ok (.invokestatic 12, 3) := by decide +kernel
theorem dL_agency_148 : decode cL_agency 148 = .ok (.iconst 3, 1) := by decide +kernel
theorem dL_agency_149 : decode cL_agency 149 = .ok (.iload_n 3, 1) := by decide +kernel
theorem dL_agency_150 : decode cL_agency 150 = .ok (.imul, 1) := by decide +kernel
theorem dL_agency_151 : decode cL_agency 151 = .ok (.ishr, 1) := by decide +kernel
theorem dL_agency_152 : decode cL_agency 152 = .ok (.bipush 60, 2) := by decide +kernel
theorem dL_agency_154 : decode cL_agency 154 = .ok (.invokestatic 18, 3) := by decide +kernel
theorem dL_agency_157 : decode cL_agency 157 = .ok (.iadd, 1) := by decide +kernel
theorem dL_agency_158 : decode cL_agency 158 = .ok (.invokevirtual 27, 3) := by decide +kernel
theorem dL_agency_161 : decode cL_agency 161 = .ok (.pop, 1) := by decide +kernel
theorem dL_agency_162 : decode cL_agency 162 = .ok (.iinc 3 1, 3) := by decide +kernel
theorem dL_agency_165 : decode cL_agency 165 = .ok (.goto (-70), 3) := by decide +kernel
theorem dL_agency_168 : decode cL_agency 168 = .ok (.iconst 0, 1) := by decide +kernel
theorem dL_agency_169 : decode cL_agency 169 = .ok (.istore_n 3, 1) := by decide +kernel
theorem dL_agency_170 : decode cL_agency 170 = .ok (.iload_n 3, 1) := by decide +kernel
theorem dL_agency_171 : decode cL_agency 171 = .ok (.iconst 3, 1) := by decide +kernel
theorem dL_agency_172 : decode cL_agency 172 = .ok (.if_icmp .ge 66, 3) := by decide +kernel
theorem dL_agency_175 : decode cL_agency 175 = .ok (.aload_n 0, 1) := by decide +kernel
theorem dL_agency_176 : decode cL_agency 176 = .ok (.bipush 8, 2) := by decide +kernel
theorem dL_agency_178 : decode cL_agency 178 = .ok (.invokestatic 12, 3) := by decide +kernel
theorem dL_agency_181 : decode cL_agency 181 = .ok (.iconst 3, 1) := by decide +kernel
theorem dL_agency_182 : decode cL_agency 182 = .ok (.iload_n 3, 1) := by decide +kernel
theorem dL_agency_183 : decode cL_agency 183 = .ok (.imul, 1) := by decide +kernel
theorem dL_agency_184 : decode cL_agency 184 = .ok (.ishr, 1) := by decide +kernel
theorem dL_agency_185 : decode cL_agency 185 = .ok (.iload_n 2, 1) := by decide +kernel
theorem dL_agency_186 : decode cL_agency 186 = .ok (.invokestatic 18, 3) := by decide +kernel
theorem dL_agency_189 : decode cL_agency 189 = .ok (.istore 4, 2) := by decide +kernel
theorem dL_agency_191 : decode cL_agency 191 = .ok (.aload_n 0, 1) := by decide +kernel
theorem dL_agency_192 : decode cL_agency 192 = .ok (.bipush 8, 2) := by decide +kernel
theorem dL_agency_194 : decode cL_agency 194 = .ok (.invokestatic 12, 3) := by decide +kernel
theorem dL_agency_197 : decode cL_agency 197 = .ok (.iconst 3, 1) := by decide +kernel
theorem dL_agency_198 : decode cL_agency 198 = .ok (.iload_n 3, 1) := by decide +kernel
theorem dL_agency_199 : decode cL_agency 199 = .ok (.imul, 1) := by decide +kernel
theorem dL_agency_200 : decode cL_agency 200 = .ok (.bipush 9, 2) := by decide +kernel
theorem dL_agency_202 : decode cL_agency 202 = .ok (.iadd, 1) := by decide +kernel
theorem dL_agency_203 : decode cL_agency 203 = .ok (.ishr, 1) := by decide +kernel
theorem dL_agency_204 : decode cL_agency 204 = .ok (.iload_n 2, 1) := by decide +kernel
theorem dL_agency_205 : decode cL_agency 205 = .ok (.invokestatic 18, 3) := by decide +kernel
theorem dL_agency_208 : decode cL_agency 208 = .ok (.istore 5, 2) := by decide +kernel
theorem dL_agency_210 : decode cL_agency 210 = .ok (.iload 4, 2) := by decide +kernel
theorem dL_agency_212 : decode cL_agency 212 = .ok (.iload 5, 2) := by decide +kernel
theorem dL_agency_214 : decode cL_agency 214 = .ok (.if_icmp .eq 18, 3) := by decide +kernel
theorem dL_agency_217 : decode cL_agency 217 = .ok (.iload_n 3, 1) := by decide +kernel
theorem dL_agency_218 : decode cL_agency 218 = .ok (.iconst 2, 1) := by decide +kernel
theorem dL_agency_219 : decode cL_agency 219 = .ok (.if_icmp .ge 13, 3) := by decide +kernel
theorem dL_agency_222 : decode cL_agency 222 = .ok (.aload_n 1, 1) := by decide +kernel
theorem dL_agency_223 : decode cL_agency 223 = .ok (.iload 4, 2) := by decide +kernel
theorem dL_agency_225 : decode cL_agency 225 = .ok (.iload 5, 2) := by decide +kernel
theorem dL_agency_227 : decode cL_agency 227 = .ok (.iconst 1, 1) := by decide +kernel
theorem dL_agency_228 : decode cL_agency 228 = .ok (.invokevirtual 31, 3) := by decide +kernel
theorem dL_agency_231 : decode cL_agency 231 = .ok (.pop, 1) := by decide +kernel
theorem dL_agency_232 : decode cL_agency 232 = .ok (.iinc 3 1, 3) := by decide +kernel
theorem dL_agency_235 : decode cL_agency 235 = .ok (.goto (-65), 3) := by decide +kernel
theorem dL_agency_238 : decode cL_agency 238 = .ok (.bipush 8, 2) := by decide +kernel
theorem dL_agency_240 : decode cL_agency 240 = .ok (.newarray .int, 2) := by decide +kernel
theorem dL_agency_242 : decode cL_agency 242 = .ok (.dup, 1) := by decide +kernel
theorem dL_agency_243 : decode cL_agency 243 = .ok (.iconst 0, 1) := by decide +kernel
theorem dL_agency_244 : decode cL_agency 244 = .ok (.iconst 1, 1) := by decide +kernel
theorem dL_agency_245 : decode cL_agency 245 = .ok (.iastore, 1) := by decide +kernel
theorem dL_agency_246 : decode cL_agency 246 = .ok (.dup, 1) := by decide +kernel
theorem dL_agency_247 : decode cL_agency 247 = .ok (.iconst 1, 1) := by decide +kernel
theorem dL_agency_248 : decode cL_agency 248 = .ok (.iconst 2, 1) := by decide +kernel
theorem dL_agency_249 : decode cL_agency 249 = .ok (.iastore, 1) := by decide +kernel
theorem dL_agency_250 : decode cL_agency 250 = .ok (.dup, 1) := by decide +kernel
theorem dL_agency_251 : decode cL_agency 251 = .ok (.iconst 2, 1) := by decide +kernel
theorem dL_agency_252 : decode cL_agency 252 = .ok (.iconst 4, 1) := by decide +kernel
theorem dL_agency_253 : decode cL_agency 253 = .ok (.iastore, 1) := by decide +kernel
theorem dL_agency_254 : decode cL_agency 254 = .ok (.dup, 1) := by decide +kernel
theorem dL_agency_255 : decode cL_agency 255 = .ok (.iconst 3, 1) := by decide +kernel
theorem dL_agency_256 : decode cL_agency 256 = .ok (.iconst 5, 1) := by decide +kernel
theorem dL_agency_257 : decode cL_agency 257 = .ok (.iastore, 1) := by decide +kernel
theorem dL_agency_258 : decode cL_agency 258 = .ok (.dup, 1) := by decide +kernel
theorem dL_agency_259 : decode cL_agency 259 = .ok (.iconst 4, 1) := by decide +kernel
theorem dL_agency_260 : decode cL_agency 260 = .ok (.iconst 3, 1) := by decide +kernel
theorem dL_agency_261 : decode cL_agency 261 = .ok (.iastore, 1) := by decide +kernel
theorem dL_agency_262 : decode cL_agency 262 = .ok (.dup, 1) := by decide +kernel
theorem dL_agency_263 : decode cL_agency 263 = .ok (.iconst 5, 1) := by decide +kernel
theorem dL_agency_264 : decode cL_agency 264 = .ok (.bipush 10, 2) := by decide +kernel
theorem dL_agency_266 : decode cL_agency 266 = .ok (.iastore, 1) := by decide +kernel
theorem dL_agency_267 : decode cL_agency 267 = .ok (.dup, 1) := by decide +kernel
theorem dL_agency_268 : decode cL_agency 268 = .ok (.bipush 6, 2) := by decide +kernel
theorem dL_agency_270 : decode cL_agency 270 = .ok (.bipush 13, 2) := by decide +kernel
theorem dL_agency_272 : decode cL_agency 272 = .ok (.iastore, 1) := by decide +kernel
theorem dL_agency_273 : decode cL_agency 273 = .ok (.dup, 1) := by decide +kernel
theorem dL_agency_274 : decode cL_agency 274 = .ok (.bipush 7, 2) := by decide +kernel
theorem dL_agency_276 : decode cL_agency 276 = .ok (.bipush 12, 2) := by decide +kernel
theorem dL_agency_278 : decode cL_agency 278 = .ok (.iastore, 1) := by decide +kernel
theorem dL_agency_279 : decode cL_agency 279 = .ok (.astore_n 3, 1) := by decide +kernel
theorem dL_agency_280 : decode cL_agency 280 = .ok (.iconst 0, 1) := by decide +kernel
theorem dL_agency_281 : decode cL_agency 281 = .ok (.istore 4, 2) := by decide +kernel
theorem dL_agency_283 : decode cL_agency 283 = .ok (.iload 4, 2) := by decide +kernel
theorem dL_agency_285 : decode cL_agency 285 = .ok (.iconst 3, 1) := by decide +kernel
theorem dL_agency_286 : decode cL_agency 286 = .ok (.if_icmp .ge 32, 3) := by decide +kernel
theorem dL_agency_289 : decode cL_agency 289 = .ok (.aload_n 1, 1) := by decide +kernel
theorem dL_agency_290 : decode cL_agency 290 = .ok (.aload_n 3, 1) := by decide +kernel
theorem dL_agency_291 : decode cL_agency 291 = .ok (.aload_n 0, 1) := by decide +kernel
theorem dL_agency_292 : decode cL_agency 292 = .ok (.bipush 9, 2) := by decide +kernel
theorem dL_agency_294 : decode cL_agency 294 = .ok (.invokestatic 12, 3) := by decide +kernel
theorem dL_agency_297 : decode cL_agency 297 = .ok (.iconst 3, 1) := by decide +kernel
theorem dL_agency_298 : decode cL_agency 298 = .ok (.iload 4, 2) := by decide +kernel
theorem dL_agency_300 : decode cL_agency 300 = .ok (.imul, 1) := by decide +kernel
theorem dL_agency_301 : decode cL_agency 301 = .ok (.ishr, 1) := by decide +kernel
theorem dL_agency_302 : decode cL_agency 302 = .ok (.aload_n 3, 1) := by decide +kernel
theorem dL_agency_303 : decode cL_agency 303 = .ok (.arraylength, 1) := by decide +kernel
theorem dL_agency_304 : decode cL_agency 304 = .ok (.invokestatic 18, 3) := by decide +kernel
theorem dL_agency_307 : decode cL_agency 307 = .ok (.iaload, 1) := by decide +kernel
theorem dL_agency_308 : decode cL_agency 308 = .ok (.invokevirtual 35, 3) := by decide +kernel
theorem dL_agency_311 : decode cL_agency 311 = .ok (.pop, 1) := by decide +kernel
theorem dL_agency_312 : decode cL_agency 312 = .ok (.iinc 4 1, 3) := by decide +kernel
theorem dL_agency_315 : decode cL_agency 315 = .ok (.goto (-32), 3) := by decide +kernel
theorem dL_agency_318 : decode cL_agency 318 = .ok (.iconst 0, 1) := by decide +kernel
theorem dL_agency_319 : decode cL_agency 319 = .ok (.istore 4, 2) := by decide +kernel
theorem dL_agency_321 : decode cL_agency 321 = .ok (.iload 4, 2) := by decide +kernel
theorem dL_agency_323 : decode cL_agency 323 = .ok (.iconst 4, 1) := by decide +kernel
theorem dL_agency_324 : decode cL_agency 324 = .ok (.if_icmp .ge 80, 3) := by decide +kernel
theorem dL_agency_327 : decode cL_agency 327 = .ok (.aload_n 1, 1) := by decide +kernel
theorem dL_agency_328 : decode cL_agency 328 = .ok (.aload_n 0, 1) := by decide +kernel
theorem dL_agency_329 : decode cL_agency 329 = .ok (.bipush 10, 2) := by decide +kernel
theorem dL_agency_331 : decode cL_agency 331 = .ok (.invokestatic 12, 3) := by decide +kernel
theorem dL_agency_334 : decode cL_agency 334 = .ok (.iconst 4, 1) := by decide +kernel
theorem dL_agency_335 : decode cL_agency 335 = .ok (.iload 4, 2) := by decide +kernel
theorem dL_agency_337 : decode cL_agency 337 = .ok (.imul, 1) := by decide +kernel
theorem dL_agency_338 : decode cL_agency 338 = .ok (.ishr, 1) := by decide +kernel
theorem dL_agency_339 : decode cL_agency 339 = .ok (.bipush 16, 2) := by decide +kernel
theorem dL_agency_341 : decode cL_agency 341 = .ok (.invokestatic 18, 3) := by decide +kernel
theorem dL_agency_344 : decode cL_agency 344 = .ok (.aload_n 0, 1) := by decide +kernel
theorem dL_agency_345 : decode cL_agency 345 = .ok (.bipush 10, 2) := by decide +kernel
theorem dL_agency_347 : decode cL_agency 347 = .ok (.invokestatic 12, 3) := by decide +kernel
theorem dL_agency_350 : decode cL_agency 350 = .ok (.iconst 3, 1) := by decide +kernel
theorem dL_agency_351 : decode cL_agency 351 = .ok (.iload 4, 2) := by decide +kernel
theorem dL_agency_353 : decode cL_agency 353 = .ok (.imul, 1) := by decide +kernel
theorem dL_agency_354 : decode cL_agency 354 = .ok (.ishr, 1) := by decide +kernel
theorem dL_agency_355 : decode cL_agency 355 = .ok (.bipush 12, 2) := by decide +kernel
theorem dL_agency_357 : decode cL_agency 357 = .ok (.invokestatic 18, 3) := by decide +kernel
theorem dL_agency_360 : decode cL_agency 360 = .ok (.aload_n 0, 1) := by decide +kernel
theorem dL_agency_361 : decode cL_agency 361 = .ok (.bipush 10, 2) := by decide +kernel
theorem dL_agency_363 : decode cL_agency 363 = .ok (.invokestatic 12, 3) := by decide +kernel
theorem dL_agency_366 : decode cL_agency 366 = .ok (.iconst 5, 1) := by decide +kernel
theorem dL_agency_367 : decode cL_agency 367 = .ok (.iload 4, 2) := by decide +kernel
theorem dL_agency_369 : decode cL_agency 369 = .ok (.imul, 1) := by decide +kernel
theorem dL_agency_370 : decode cL_agency 370 = .ok (.ishr, 1) := by decide +kernel
theorem dL_agency_371 : decode cL_agency 371 = .ok (.bipush 10, 2) := by decide +kernel
theorem dL_agency_373 : decode cL_agency 373 = .ok (.invokestatic 18, 3) := by decide +kernel
theorem dL_agency_376 : decode cL_agency 376 = .ok (.iconst 2, 1) := by decide +kernel
theorem dL_agency_377 : decode cL_agency 377 = .ok (.aload_n 0, 1) := by decide +kernel
theorem dL_agency_378 : decode cL_agency 378 = .ok (.bipush 10, 2) := by decide +kernel
theorem dL_agency_380 : decode cL_agency 380 = .ok (.invokestatic 12, 3) := by decide +kernel
theorem dL_agency_383 : decode cL_agency 383 = .ok (.iconst 2, 1) := by decide +kernel
theorem dL_agency_384 : decode cL_agency 384 = .ok (.iload 4, 2) := by decide +kernel
theorem dL_agency_386 : decode cL_agency 386 = .ok (.imul, 1) := by decide +kernel
theorem dL_agency_387 : decode cL_agency 387 = .ok (.ishr, 1) := by decide +kernel
theorem dL_agency_388 : decode cL_agency 388 = .ok (.bipush 8, 2) := by decide +kernel
theorem dL_agency_390 : decode cL_agency 390 = .ok (.invokestatic 18, 3) := by decide +kernel
theorem dL_agency_393 : decode cL_agency 393 = .ok (.iadd, 1) := by decide +kernel
theorem dL_agency_394 : decode cL_agency 394 = .ok (.invokevirtual 39, 3) := by decide +kernel
theorem dL_agency_397 : decode cL_agency 397 = .ok (.pop, 1) := by decide +kernel
theorem dL_agency_398 : decode cL_agency 398 = .ok (.iinc 4 1, 3) := by decide +kernel
theorem dL_agency_401 : decode cL_agency 401 = .ok (.goto (-80), 3) := by decide +kernel
theorem dL_agency_404 : decode cL_agency 404 = .ok (.iconst 0, 1) := by decide +kernel
theorem dL_agency_405 : decode cL_agency 405 = .ok (.istore 4, 2) := by decide +kernel
theorem dL_agency_407 : decode cL_agency 407 = .ok (.iload 4, 2) := by decide +kernel
theorem dL_agency_409 : decode cL_agency 409 = .ok (.iconst 4, 1) := by decide +kernel
theorem dL_agency_410 : decode cL_agency 410 = .ok (.if_icmp .ge 22, 3) := by decide +kernel
theorem dL_agency_413 : decode cL_agency 413 = .ok (.aload_n 1, 1) := by decide +kernel
theorem dL_agency_414 : decode cL_agency 414 = .ok (.aload_n 0, 1) := by decide +kernel
theorem dL_agency_415 : decode cL_agency 415 = .ok (.bipush 11, 2) := by decide +kernel
theorem dL_agency_417 : decode cL_agency 417 = .ok (.iload 4, 2) := by decide +kernel
theorem dL_agency_419 : decode cL_agency 419 = .ok (.iadd, 1) := by decide +kernel
theorem dL_agency_420 : decode cL_agency 420 = .ok (.invokestatic 12, 3) := by decide +kernel
theorem dL_agency_423 : decode cL_agency 423 = .ok (.invokestatic 42, 3) := by decide +kernel
theorem dL_agency_426 : decode cL_agency 426 = .ok (.iinc 4 1, 3) := by decide +kernel
theorem dL_agency_429 : decode cL_agency 429 = .ok (.goto (-22), 3) := by decide +kernel
theorem dL_agency_432 : decode cL_agency 432 = .ok (.aload_n 1, 1) := by decide +kernel
theorem dL_agency_433 : decode cL_agency 433 = .ok (.areturn, 1) := by decide +kernel
set_option maxRecDepth 20000 in
theorem ggL_asked_L_below : GoodIn wsL_asked wsL_below := goodIn_r _ [9, 10] (by decide +kernel) (by decide +kernel)
set_option maxRecDepth 20000 in
theorem gL_asked_L_below : GoodIn wsL_asked (va_wsS RL 18 yL_below wsL_below) := goodIn_app (goodIn_of _ (by decide +kernel)) ggL_asked_L_below
set_option maxRecDepth 20000 in
theorem ggL_asked_X7_desk : GoodIn wsL_asked wsX7_desk := goodIn_ca (goodIn_r _ [15, 16, 17, 18, 19, 20, 21, 22, 23, 24, 25, 14, 26, 27, 28, 29, 30, 31, 32, 33, 34, 35, 36, 37, 38, 39, 40, 41, 42, 43, 44, 45, 46, 47, 48, 49, 50, 51, 52, 53, 54, 55, 56, 57, 58, 4, 59, 60, 3, 5, 97, 98, 99, 100, 101, 102, 103, 104, 105, 106, 107, 108, 109, 110, 111, 112, 113, 114, 115, 116, 117, 118, 119, 120, 121, 122, 123, 124, 125, 126, 127, 128, 129, 130, 131] (by decide +kernel) (by decide +kernel)) (goodIn_sub (fun _ h => List.mem_cons_of_mem _ (List.mem_append_left _ (List.mem_append_left _ (List.mem_append_right _ h)))) (by decide +kernel))
set_option maxRecDepth 20000 in
theorem gL_asked_X7_desk : GoodIn wsL_asked (wsV RL 46 RX7 yX7_desk wsX7_desk) := goodIn_app (goodIn_of _ (by decide +kernel)) ggL_asked_X7_desk
set_option maxRecDepth 20000 in
theorem ggL_asked_X7_ask : GoodIn wsL_asked wsX7_ask := goodIn_ca (goodIn_ca (goodIn_ca (goodIn_r _ [64, 16, 17, 65, 66, 18, 21, 27, 67, 68, 69, 70, 71, 72, 73, 74, 75, 76, 14, 77, 78, 79, 20, 80, 81, 82, 83, 84, 85, 86, 87, 88, 89, 90, 91, 92, 93, 94, 95, 96, 28, 97, 98, 99, 100, 101, 102, 103, 104, 105, 106, 107, 108, 109, 110, 111, 112, 113, 114, 115, 116, 117, 118, 119, 120, 121, 122, 123] (by decide +kernel) (by decide +kernel)) (goodIn_sub (fun _ h => List.mem_cons_of_mem _ (List.mem_append_left _ (List.mem_append_left _ (List.mem_append_right _ h)))) (by decide +kernel))) (goodIn_sub (fun _ h => List.mem_cons_of_mem _ (List.mem_append_left _ (List.mem_append_right _ h))) (by decide +kernel))) (goodIn_sub (fun _ h => List.mem_cons_of_mem _ (List.mem_append_right _ h)) (by decide +kernel))
set_option maxRecDepth 20000 in
theorem gL_asked_X7_ask : GoodIn wsL_asked (wsV RL 54 RX7 yX7_ask wsX7_ask) := goodIn_app (goodIn_of _ (by decide +kernel)) ggL_asked_X7_ask
theorem dL_asked_0 : decode cL_asked 0 = .ok (.bipush 10, 2) := by decide +kernel
theorem dL_asked_2 : decode cL_asked 2 = .ok (.iload_n 1, 1) := by decide +kernel
theorem dL_asked_3 : decode cL_asked 3 = .ok (.iconst 5, 1) := by decide +kernel
theorem dL_asked_4 : decode cL_asked 4 = .ok (.ishr, 1) := by decide +kernel
theorem dL_asked_5 : decode cL_asked 5 = .ok (.bipush 13, 2) := by decide +kernel
theorem dL_asked_7 : decode cL_asked 7 = .ok (.invokestatic 18, 3) := by decide +kernel
theorem dL_asked_10 : decode cL_asked 10 = .ok (.iadd, 1) := by decide +kernel
theorem dL_asked_11 : decode cL_asked 11 = .ok (.istore_n 2, 1) := by decide +kernel
theorem dL_asked_12 : decode cL_asked 12 = .ok (.iload_n 1, 1) := by decide +kernel
theorem dL_asked_13 : decode cL_asked 13 = .ok (.iconst 3, 1) := by decide +kernel
theorem dL_asked_14 : decode cL_asked 14 = .ok (.ishr, 1) := by decide +kernel
theorem dL_asked_15 : decode cL_asked 15 = .ok (.iconst 3, 1) := by decide +kernel
theorem dL_asked_16 : decode cL_asked 16 = .ok (.invokestatic 18, 3) := by decide +kernel
theorem dL_asked_19 : decode cL_asked 19 = .ok (.ifCond .ne 17, 3) := by decide +kernel
theorem dL_asked_22 : decode cL_asked 22 = .ok (.iconst 1, 1) := by decide +kernel
theorem dL_asked_23 : decode cL_asked 23 = .ok (.iload_n 1, 1) := by decide +kernel
theorem dL_asked_24 : decode cL_asked 24 = .ok (.bipush 7, 2) := by decide +kernel
theorem dL_asked_26 : decode cL_asked 26 = .ok (.ishr, 1) := by decide +kernel
theorem dL_asked_27 : decode cL_asked 27 = .ok (.bipush 16, 2) := by decide +kernel
theorem dL_asked_29 : decode cL_asked 29 = .ok (.invokestatic 18, 3) := by decide +kernel
theorem dL_asked_32 : decode cL_asked 32 = .ok (.ishl, 1) := by decide +kernel
theorem dL_asked_33 : decode cL_asked 33 = .ok (.goto 4, 3) := by decide +kernel
theorem dL_asked_36 : decode cL_asked 36 = .ok (.iconst 0, 1) := by decide +kernel
theorem dL_asked_37 : decode cL_asked 37 = .ok (.istore_n 3, 1) := by decide +kernel
theorem dL_asked_38 : decode cL_asked 38 = .ok (.aload_n 0, 1) := by decide +kernel
theorem dL_asked_39 : decode cL_asked 39 = .ok (.iload_n 1, 1) := by decide +kernel
theorem dL_asked_40 : decode cL_asked 40 = .ok (.aload_n 0, 1) := by decide +kernel
theorem dL_asked_41 : decode cL_asked 41 = .ok (.iconst 2, 1) := by decide +kernel
theorem dL_asked_42 : decode cL_asked 42 = .ok (.invokevirtual 46, 3) := by decide +kernel
theorem dL_asked_45 : decode cL_asked 45 = .ok (.invokestatic 18, 3) := by decide +kernel
theorem dL_asked_48 : decode cL_asked 48 = .ok (.sipush 365, 3) := by decide +kernel
theorem dL_asked_51 : decode cL_asked 51 = .ok (.aload_n 0, 1) := by decide +kernel
theorem dL_asked_52 : decode cL_asked 52 = .ok (.iconst 0, 1) := by decide +kernel
theorem dL_asked_53 : decode cL_asked 53 = .ok (.invokevirtual 46, 3) := by decide +kernel
theorem dL_asked_56 : decode cL_asked 56 = .ok (.iload_n 1, 1) := by decide +kernel
theorem dL_asked_57 : decode cL_asked 57 = .ok (.iconst 2, 1) := by decide +kernel
theorem dL_asked_58 : decode cL_asked 58 = .ok (.ishr, 1) := by decide +kernel
theorem dL_asked_59 : decode cL_asked 59 = .ok (.iconst 4, 1) := by decide +kernel
theorem dL_asked_60 : decode cL_asked 60 = .ok (.invokestatic 18, 3) := by decide +kernel
theorem dL_asked_63 : decode cL_asked 63 = .ok (.iadd, 1) := by decide +kernel
theorem dL_asked_64 : decode cL_asked 64 = .ok (.invokestatic 49, 3) := by decide +kernel
theorem dL_asked_67 : decode cL_asked 67 = .ok (.iload_n 1, 1) := by decide +kernel
theorem dL_asked_68 : decode cL_asked 68 = .ok (.bipush 9, 2) := by decide +kernel
theorem dL_asked_70 : decode cL_asked 70 = .ok (.ishr, 1) := by decide +kernel
theorem dL_asked_71 : decode cL_asked 71 = .ok (.iconst 4, 1) := by decide +kernel
theorem dL_asked_72 : decode cL_asked 72 = .ok (.invokestatic 18, 3) := by decide +kernel
theorem dL_asked_75 : decode cL_asked 75 = .ok (.iload_n 2, 1) := by decide +kernel
theorem dL_asked_76 : decode cL_asked 76 = .ok (.iconst 1, 1) := by decide +kernel
theorem dL_asked_77 : decode cL_asked 77 = .ok (.iload_n 1, 1) := by decide +kernel
theorem dL_asked_78 : decode cL_asked 78 = .ok (.iconst 4, 1) := by decide +kernel
theorem dL_asked_79 : decode cL_asked 79 = .ok (.ishr, 1) := by decide +kernel
theorem dL_asked_80 : decode cL_asked 80 = .ok (.bipush 6, 2) := by decide +kernel
theorem dL_asked_82 : decode cL_asked 82 = .ok (.bipush 24, 2) := by decide +kernel
theorem dL_asked_84 : decode cL_asked 84 = .ok (.iload_n 2, 1) := by decide +kernel
theorem dL_asked_85 : decode cL_asked 85 = .ok (.isub, 1) := by decide +kernel
theorem dL_asked_86 : decode cL_asked 86 = .ok (.invokestatic 49, 3) := by decide +kernel
theorem dL_asked_89 : decode cL_asked 89 = .ok (.invokestatic 18, 3) := by decide +kernel
theorem dL_asked_92 : decode cL_asked 92 = .ok (.iadd, 1) := by decide +kernel
theorem dL_asked_93 : decode cL_asked 93 = .ok (.iload_n 3, 1) := by decide +kernel
theorem dL_asked_94 : decode cL_asked 94 = .ok (.invokevirtual 54, 3) := by decide +kernel
theorem dL_asked_97 : decode cL_asked 97 = .ok (.pop, 1) := by decide +kernel
theorem dL_asked_98 : decode cL_asked 98 = .ok (.goto 11, 3) := by decide +kernel
theorem dL_asked_101 : decode cL_asked 101 = .ok (.astore 4, 2) := by decide +kernel
theorem dL_asked_103 : decode cL_asked 103 = .ok (.aload_n 0, 1) := by decide +kernel
theorem dL_asked_104 : decode cL_asked 104 = .ok (.iconst 0, 1) := by decide +kernel
theorem dL_asked_105 : decode cL_asked 105 = .ok (.invokevirtual 46, 3) := by decide +kernel
theorem dL_asked_108 : decode cL_asked 108 = .ok (.pop, 1) := by decide +kernel
theorem dL_asked_109 : decode cL_asked 109 = .ok (.return_, 1) := by decide +kernel
set_option maxRecDepth 20000 in
theorem ggL_isDone_X7_desk : GoodIn wsL_isDone wsX7_desk := goodIn_ca (goodIn_r _ [14, 15, 16, 17, 18, 19, 20, 21, 22, 23, 24, 13, 25, 26, 27, 28, 29, 30, 31, 32, 33, 34, 35, 36, 37, 38, 39, 40, 41, 42, 43, 44, 45, 46, 47, 48, 49, 50, 51, 52, 53, 54, 55, 56, 4, 5, 6, 57, 8, 9, 354, 355, 356, 357, 358, 359, 360, 361, 362, 363, 364, 365, 366, 367, 368, 369, 370, 371, 372, 373, 374, 375, 376, 377, 378, 379, 380, 381, 382, 383, 384, 385, 386, 387, 388] (by decide +kernel) (by decide +kernel)) (goodIn_sub (fun _ h => List.mem_cons_of_mem _ (List.mem_append_left _ (List.mem_append_left _ (List.mem_append_right _ h)))) (by decide +kernel))
set_option maxRecDepth 20000 in
theorem gL_isDone_X7_desk : GoodIn wsL_isDone (wsV RL 46 RX7 yX7_desk wsX7_desk) := goodIn_app (goodIn_of _ (by decide +kernel)) ggL_isDone_X7_desk
set_option maxRecDepth 20000 in
theorem ggL_isDone_L_below : GoodIn wsL_isDone wsL_below := goodIn_r _ [61, 62] (by decide +kernel) (by decide +kernel)
set_option maxRecDepth 20000 in
theorem gL_isDone_L_below : GoodIn wsL_isDone (va_wsS RL 18 yL_below wsL_below) := goodIn_app (goodIn_of _ (by decide +kernel)) ggL_isDone_L_below
set_option maxRecDepth 20000 in
theorem ggL_isDone_X7_fix : GoodIn wsL_isDone wsX7_fix := goodIn_ca (goodIn_ca (goodIn_r _ [66, 67, 68, 69, 70, 26, 27, 71, 72, 73, 74, 75, 76, 77, 13, 78, 79, 80, 20, 81, 82, 83, 84, 85, 86, 87, 88, 89, 90, 91, 92, 93, 94, 95, 96, 97, 98, 99, 100, 101, 102, 103, 104, 105, 106, 107, 18, 108, 109, 110, 111, 50, 112, 32, 113, 114, 57, 8, 5, 9, 56, 4, 6, 115, 116, 117, 118, 119, 120, 121, 122, 123, 124, 125, 126, 127, 128, 129, 130, 131, 132, 133, 134, 135, 136, 137, 138, 139, 140, 141, 142, 143, 144, 145, 146, 147, 148, 149, 150, 151, 152, 153, 154, 155, 156, 157, 158, 159, 34, 35, 36, 37, 38, 39, 40, 160, 161, 162, 163, 164, 165, 166, 167, 168, 33, 169, 170, 171, 172, 173, 174, 175, 176, 177, 178, 179, 180, 181, 182, 183, 184, 185, 186, 187, 188, 189, 190, 191, 192, 193, 21, 354, 355, 356, 357, 358, 359, 360, 361, 362, 363, 364, 365, 366, 367, 368, 389, 390, 391, 392, 393, 394, 369, 370, 371, 372, 373, 374, 375, 376, 377, 378, 379, 380, 381, 382, 383, 384, 385, 386, 387, 388, 395, 396, 397, 398, 399] (by decide +kernel) (by decide +kernel)) (goodIn_sub (fun _ h => List.mem_cons_of_mem _ (List.mem_append_left _ (List.mem_append_right _ h))) (by decide +kernel))) (goodIn_sub (fun _ h => List.mem_cons_of_mem _ (List.mem_append_right _ h)) (by decide +kernel))
set_option maxRecDepth 20000 in
theorem gL_isDone_X7_fix : GoodIn wsL_isDone (wsV RL 63 RX7 yX7_fix wsX7_fix) := goodIn_app (goodIn_of _ (by decide +kernel)) ggL_isDone_X7_fix
set_option maxRecDepth 20000 in
theorem ggL_isDone_X7_cancel : GoodIn wsL_isDone wsX7_cancel := goodIn_ca (goodIn_ca (goodIn_r _ [197, 67, 68, 26, 27, 193, 56, 4, 5, 6, 75, 76, 77, 13, 78, 79, 80, 20, 198, 199, 200, 201, 94, 17, 74, 189, 190, 191, 192, 21, 354, 355, 356, 357, 358, 359, 360, 361, 362, 363, 364, 365, 366, 367, 368, 369, 370, 371, 372, 373, 374, 375, 376, 377, 378, 379, 380] (by decide +kernel) (by decide +kernel)) (goodIn_sub (fun _ h => List.mem_cons_of_mem _ (List.mem_append_left _ (List.mem_append_right _ h))) (by decide +kernel))) (goodIn_sub (fun _ h => List.mem_cons_of_mem _ (List.mem_append_right _ h)) (by decide +kernel))
set_option maxRecDepth 20000 in
theorem gL_isDone_X7_cancel : GoodIn wsL_isDone (wsV RL 66 RX7 yX7_cancel wsX7_cancel) := goodIn_app (goodIn_of _ (by decide +kernel)) ggL_isDone_X7_cancel
set_option maxRecDepth 20000 in
theorem ggL_isDone_X7_ill : GoodIn wsL_isDone wsX7_ill := goodIn_ca (goodIn_ca (goodIn_r _ [205, 50, 20, 26, 94, 103, 206, 207, 208, 13, 209, 79, 80, 18, 210, 211, 212, 213, 15, 16, 17, 214, 215, 216, 217, 69, 70, 71, 99, 100, 101, 102, 27, 72, 115, 116, 117, 104, 105, 106, 107, 108, 109, 110, 111, 112, 32, 113, 114, 57, 8, 5, 9, 56, 4, 6, 118, 119, 120, 121, 122, 123, 124, 125, 126, 127, 128, 129, 130, 131, 132, 133, 134, 93, 135, 136, 137, 138, 139, 140, 141, 142, 143, 144, 145, 146, 147, 148, 149, 150, 151, 152, 153, 154, 155, 156, 157, 158, 159, 34, 35, 36, 37, 38, 39, 40, 160, 161, 162, 163, 164, 165, 166, 167, 168, 33, 169, 170, 171, 172, 173, 174, 175, 176, 177, 178, 179, 180, 181, 218, 219, 220, 221, 222, 223, 224, 225, 226, 227, 228, 74, 189, 190, 191, 192, 193, 21, 354, 355, 356, 357, 358, 359, 360, 361, 362, 363, 364, 365, 366, 367, 368, 369, 370, 371, 372, 373, 374, 375, 376, 377, 378, 379, 380, 389, 390, 391, 392, 393, 394, 381, 382, 383, 384, 385, 386, 387, 388, 395, 396, 397, 398, 399] (by decide +kernel) (by decide +kernel)) (goodIn_sub (fun _ h => List.mem_cons_of_mem _ (List.mem_append_right _ h)) (by decide +kernel))) (goodIn_sub (fun _ h => List.mem_cons_of_mem _ (List.mem_append_left _ (List.mem_append_left _ (List.mem_append_right _ h)))) (by decide +kernel))
set_option maxRecDepth 20000 in
theorem gL_isDone_X7_ill : GoodIn wsL_isDone (wsV RL 69 RX7 yX7_ill wsX7_ill) := goodIn_app (goodIn_of _ (by decide +kernel)) ggL_isDone_X7_ill
set_option maxRecDepth 20000 in
theorem ggL_isDone_X7_late : GoodIn wsL_isDone wsX7_late := goodIn_ca (goodIn_ca (goodIn_ca (goodIn_r _ [232, 15, 16, 67, 68, 26, 27, 233, 75, 76, 77, 13, 78, 79, 80, 20, 234, 235, 236, 221, 237, 238, 239, 240, 241, 8, 5, 9, 354, 355, 356, 357, 358, 359, 360, 361, 362, 363, 364, 365, 366, 367, 368, 369, 370, 371, 372, 373, 374, 375, 376, 377, 378, 379, 380] (by decide +kernel) (by decide +kernel)) (goodIn_sub (fun _ h => List.mem_cons_of_mem _ (List.mem_append_left _ (List.mem_append_left _ (List.mem_append_right _ h)))) (by decide +kernel))) (goodIn_sub (fun _ h => List.mem_cons_of_mem _ (List.mem_append_left _ (List.mem_append_right _ h))) (by decide +kernel))) (goodIn_sub (fun _ h => List.mem_cons_of_mem _ (List.mem_append_right _ h)) (by decide +kernel))
set_option maxRecDepth 20000 in
theorem gL_isDone_X7_late : GoodIn wsL_isDone (wsV RL 72 RX7 yX7_late wsX7_late) := goodIn_app (goodIn_of _ (by decide +kernel)) ggL_isDone_X7_late
set_option maxRecDepth 20000 in
theorem ggL_isDone_X7_learn : GoodIn wsL_isDone wsX7_learn := goodIn_ca (goodIn_ca (goodIn_r _ [245, 15, 16, 32, 164, 206, 207, 208, 13, 209, 79, 80, 18, 246, 247, 248, 249, 34, 35, 36, 37, 38, 39, 40, 354, 355, 356, 357, 358, 359, 360, 361, 362, 363, 364, 365, 366, 367, 368, 381, 382, 383, 384, 385, 386, 387, 388] (by decide +kernel) (by decide +kernel)) (goodIn_sub (fun _ h => List.mem_cons_of_mem _ (List.mem_append_left _ (List.mem_append_left _ (List.mem_append_right _ h)))) (by decide +kernel))) (goodIn_sub (fun _ h => List.mem_cons_of_mem _ (List.mem_append_right _ h)) (by decide +kernel))
set_option maxRecDepth 20000 in
theorem gL_isDone_X7_learn : GoodIn wsL_isDone (wsV RL 75 RX7 yX7_learn wsX7_learn) := goodIn_app (goodIn_of _ (by decide +kernel)) ggL_isDone_X7_learn
set_option maxRecDepth 20000 in
theorem ggL_isDone_L_asked : GoodIn wsL_isDone wsL_asked := goodIn_ca (goodIn_ca (goodIn_ca (goodIn_r _ [252, 1, 7, 8, 5, 9, 58, 59, 60, 61, 62, 10, 11, 12, 13, 14, 15, 16, 17, 18, 19, 20, 21, 22, 23, 24, 25, 26, 27, 28, 29, 30, 31, 32, 33, 34, 35, 36, 37, 38, 39, 40, 41, 42, 43, 44, 45, 46, 47, 48, 49, 50, 51, 52, 53, 54, 55, 56, 4, 6, 57, 253, 254, 255, 256, 67, 68, 93, 94, 114, 128, 129, 137, 257, 258, 259, 260, 261, 79, 80, 262, 263, 264, 265, 266, 267, 268, 269, 270, 246, 247, 248, 249, 271, 272, 273, 274, 354, 355, 356, 357, 358, 359, 360, 361, 362, 363, 364, 365, 366, 367, 368, 369, 370, 371, 372, 373, 374, 375, 376, 377, 378, 379, 380, 381, 382, 383, 384, 385, 386, 387, 388] (by decide +kernel) (by decide +kernel)) (goodIn_sub (fun _ h => List.mem_cons_of_mem _ (List.mem_append_left _ (List.mem_append_left _ (List.mem_append_right _ h)))) (by decide +kernel))) (goodIn_sub (fun _ h => List.mem_cons_of_mem _ (List.mem_append_left _ (List.mem_append_right _ h))) (by decide +kernel))) (goodIn_sub (fun _ h => List.mem_cons_of_mem _ (List.mem_append_right _ h)) (by decide +kernel))
set_option maxRecDepth 20000 in
theorem gL_isDone_L_asked : GoodIn wsL_isDone (va_wsS RL 42 yL_asked wsL_asked) := goodIn_app (goodIn_of _ (by decide +kernel)) ggL_isDone_L_asked
set_option maxRecDepth 20000 in
theorem ggL_isDone_X7_road : GoodIn wsL_isDone wsX7_road := goodIn_ca (goodIn_ca (goodIn_r _ [278, 15, 16, 112, 262, 263, 13, 264, 79, 80, 265, 266, 267, 279, 280, 281, 121, 282, 283, 123, 284, 285, 286, 287, 288, 8, 5, 9, 118, 119, 120, 122, 354, 355, 356, 357, 358, 359, 360, 361, 362, 363, 364, 365, 366, 367, 368, 395, 396] (by decide +kernel) (by decide +kernel)) (goodIn_sub (fun _ h => List.mem_cons_of_mem _ (List.mem_append_left _ (List.mem_append_left _ (List.mem_append_right _ h)))) (by decide +kernel))) (goodIn_sub (fun _ h => List.mem_cons_of_mem _ (List.mem_append_right _ h)) (by decide +kernel))
set_option maxRecDepth 20000 in
theorem gL_isDone_X7_road : GoodIn wsL_isDone (wsV RL 22 RX7 yX7_road wsX7_road) := goodIn_app (goodIn_of _ (by decide +kernel)) ggL_isDone_X7_road
set_option maxRecDepth 20000 in
theorem ggL_isDone_X7_pass : GoodIn wsL_isDone wsX7_pass := goodIn_ca (goodIn_ca (goodIn_r _ [292, 15, 16, 67, 68, 17, 293, 294, 295, 13, 296, 20, 26, 94, 27, 297, 298, 299, 300, 74, 193, 18, 72, 32, 21, 45, 301, 55, 129, 302, 303, 304, 305, 306, 307, 308, 309, 310, 177, 115, 116, 117, 234, 235, 236, 221, 237, 238, 239, 240, 241, 8, 5, 9, 189, 190, 191, 192, 311, 312, 313, 314, 173, 174, 175, 176, 112, 113, 114, 56, 4, 6, 118, 119, 120, 121, 122, 123, 160, 161, 162, 163, 164, 34, 35, 36, 37, 38, 39, 40, 315, 316, 317, 318, 319, 320, 321, 322, 323, 324, 325, 326, 327, 328, 329, 330, 331, 332, 333, 334, 335, 336, 337, 338, 339, 340, 341, 342, 343, 344, 345, 346, 347, 348, 349, 350, 351, 352, 353, 257, 354, 355, 356, 357, 358, 359, 360, 361, 362, 363, 364, 365, 366, 367, 368, 369, 370, 371, 372, 373, 374, 375, 376, 377, 378, 379, 380, 381, 382, 383, 384, 385, 386, 387, 388, 400, 401, 402, 403, 404, 405, 406, 407, 408, 409, 410, 395, 396] (by decide +kernel) (by decide +kernel)) (goodIn_sub (fun _ h => List.mem_cons_of_mem _ (List.mem_append_left _ (List.mem_append_left _ (List.mem_append_right _ h)))) (by decide +kernel))) (goodIn_sub (fun _ h => List.mem_cons_of_mem _ (List.mem_append_left _ (List.mem_append_right _ h))) (by decide +kernel))
set_option maxRecDepth 20000 in
theorem gL_isDone_X7_pass : GoodIn wsL_isDone (wsV RL 78 RX7 yX7_pass wsX7_pass) := goodIn_app (goodIn_of _ (by decide +kernel)) ggL_isDone_X7_pass
theorem dL_isDone_0 : decode cL_isDone 0 = .ok (.aload_n 0, 1) := by decide +kernel
theorem dL_isDone_1 : decode cL_isDone 1 = .ok (.iconst 3, 1) := by decide +kernel
theorem dL_isDone_2 : decode cL_isDone 2 = .ok (.invokevirtual 46, 3) := by decide +kernel
theorem dL_isDone_5 : decode cL_isDone 5 = .ok (.istore_n 2, 1) := by decide +kernel
theorem dL_isDone_6 : decode cL_isDone 6 = .ok (.iload_n 1, 1) := by decide +kernel
theorem dL_isDone_7 : decode cL_isDone 7 = .ok (.iconst 4, 1) := by decide +kernel
theorem dL_isDone_8 : decode cL_isDone 8 = .ok (.ishr, 1) := by decide +kernel
theorem dL_isDone_9 : decode cL_isDone 9 = .ok (.iconst 1, 1) := by decide +kernel
theorem dL_isDone_10 : decode cL_isDone 10 = .ok (.iload_n 2, 1) := by decide +kernel
theorem dL_isDone_11 : decode cL_isDone 11 = .ok (.invokestatic 60, 3) := by decide +kernel
theorem dL_isDone_14 : decode cL_isDone 14 = .ok (.invokestatic 18, 3) := by decide +kernel
theorem dL_isDone_17 : decode cL_isDone 17 = .ok (.istore_n 3, 1) := by decide +kernel
theorem dL_isDone_18 : decode cL_isDone 18 = .ok (.iload_n 1, 1) := by decide +kernel
theorem dL_isDone_19 : decode cL_isDone 19 = .ok (.bipush 6, 2) := by decide +kernel
theorem dL_isDone_21 : decode cL_isDone 21 = .ok (.ishr, 1) := by decide +kernel
theorem dL_isDone_22 : decode cL_isDone 22 = .ok (.aload_n 0, 1) := by decide +kernel
theorem dL_isDone_23 : decode cL_isDone 23 = .ok (.iconst 1, 1) := by decide +kernel
theorem dL_isDone_24 : decode cL_isDone 24 = .ok (.invokevirtual 46, 3) := by decide +kernel
theorem dL_isDone_27 : decode cL_isDone 27 = .ok (.invokestatic 18, 3) := by decide +kernel
theorem dL_isDone_30 : decode cL_isDone 30 = .ok (.istore 4, 2) := by decide +kernel
theorem dL_isDone_32 : decode cL_isDone 32 = .ok (.iload_n 1, 1) := by decide +kernel
theorem dL_isDone_33 : decode cL_isDone 33 = .ok (.bipush 11, 2) := by decide +kernel
theorem dL_isDone_35 : decode cL_isDone 35 = .ok (.invokestatic 18, 3) := by decide +kernel
theorem dL_isDone_38 : decode cL_isDone 38 = .ok (.tableswitch 198 0 8 #[50, 50, 50, 59, 68, 97, 115, 135, 145], 50) := by decide +kernel
theorem dL_isDone_88 : decode cL_isDone 88 = .ok (.aload_n 0, 1) := by decide +kernel
theorem dL_isDone_89 : decode cL_isDone 89 = .ok (.iload_n 3, 1) := by decide +kernel
theorem dL_isDone_90 : decode cL_isDone 90 = .ok (.invokevirtual 63, 3) := by decide +kernel
theorem dL_isDone_93 : decode cL_isDone 93 = .ok (.pop, 1) := by decide +kernel
theorem dL_isDone_94 : decode cL_isDone 94 = .ok (.goto 156, 3) := by decide +kernel
theorem dL_isDone_97 : decode cL_isDone 97 = .ok (.aload_n 0, 1) := by decide +kernel
theorem dL_isDone_98 : decode cL_isDone 98 = .ok (.iload_n 3, 1) := by decide +kernel
theorem dL_isDone_99 : decode cL_isDone 99 = .ok (.invokevirtual 66, 3) := by decide +kernel
theorem dL_isDone_102 : decode cL_isDone 102 = .ok (.pop, 1) := by decide +kernel
theorem dL_isDone_103 : decode cL_isDone 103 = .ok (.goto 147, 3) := by decide +kernel
theorem dL_isDone_106 : decode cL_isDone 106 = .ok (.aload_n 0, 1) := by decide +kernel
theorem dL_isDone_107 : decode cL_isDone 107 = .ok (.iload 4, 2) := by decide +kernel
theorem dL_isDone_109 : decode cL_isDone 109 = .ok (.sipush 365, 3) := by decide +kernel
theorem dL_isDone_112 : decode cL_isDone 112 = .ok (.aload_n 0, 1) := by decide +kernel
theorem dL_isDone_113 : decode cL_isDone 113 = .ok (.iconst 0, 1) := by decide +kernel
theorem dL_isDone_114 : decode cL_isDone 114 = .ok (.invokevirtual 46, 3) := by decide +kernel
theorem dL_isDone_117 : decode cL_isDone 117 = .ok (.iload_n 1, 1) := by decide +kernel
theorem dL_isDone_118 : decode cL_isDone 118 = .ok (.iconst 3, 1) := by decide +kernel
theorem dL_isDone_119 : decode cL_isDone 119 = .ok (.ishr, 1) := by decide +kernel
theorem dL_isDone_120 : decode cL_isDone 120 = .ok (.iconst 4, 1) := by decide +kernel
theorem dL_isDone_121 : decode cL_isDone 121 = .ok (.invokestatic 18, 3) := by decide +kernel
theorem dL_isDone_124 : decode cL_isDone 124 = .ok (.iadd, 1) := by decide +kernel
theorem dL_isDone_125 : decode cL_isDone 125 = .ok (.invokestatic 49, 3) := by decide +kernel
theorem dL_isDone_128 : decode cL_isDone 128 = .ok (.invokevirtual 69, 3) := by decide +kernel
theorem dL_isDone_131 : decode cL_isDone 131 = .ok (.pop, 1) := by decide +kernel
theorem dL_isDone_132 : decode cL_isDone 132 = .ok (.goto 118, 3) := by decide +kernel
theorem dL_isDone_135 : decode cL_isDone 135 = .ok (.aload_n 0, 1) := by decide +kernel
theorem dL_isDone_136 : decode cL_isDone 136 = .ok (.iload_n 3, 1) := by decide +kernel
theorem dL_isDone_137 : decode cL_isDone 137 = .ok (.iload_n 1, 1) := by decide +kernel
theorem dL_isDone_138 : decode cL_isDone 138 = .ok (.iconst 5, 1) := by decide +kernel
theorem dL_isDone_139 : decode cL_isDone 139 = .ok (.ishr, 1) := by decide +kernel
theorem dL_isDone_140 : decode cL_isDone 140 = .ok (.sipush 241, 3) := by decide +kernel
theorem dL_isDone_143 : decode cL_isDone 143 = .ok (.invokestatic 18, 3) := by decide +kernel
theorem dL_isDone_146 : decode cL_isDone 146 = .ok (.invokevirtual 72, 3) := by decide +kernel
theorem dL_isDone_149 : decode cL_isDone 149 = .ok (.pop, 1) := by decide +kernel
theorem dL_isDone_150 : decode cL_isDone 150 = .ok (.goto 100, 3) := by decide +kernel
theorem dL_isDone_153 : decode cL_isDone 153 = .ok (.aload_n 0, 1) := by decide +kernel
theorem dL_isDone_154 : decode cL_isDone 154 = .ok (.iload 4, 2) := by decide +kernel
theorem dL_isDone_156 : decode cL_isDone 156 = .ok (.iconst 1, 1) := by decide +kernel
theorem dL_isDone_157 : decode cL_isDone 157 = .ok (.iload_n 1, 1) := by decide +kernel
theorem dL_isDone_158 : decode cL_isDone 158 = .ok (.iconst 3, 1) := by decide +kernel
theorem dL_isDone_159 : decode cL_isDone 159 = .ok (.ishr, 1) := by decide +kernel
theorem dL_isDone_160 : decode cL_isDone 160 = .ok (.bipush 16, 2) := by decide +kernel
theorem dL_isDone_162 : decode cL_isDone 162 = .ok (.invokestatic 18, 3) := by decide +kernel
theorem dL_isDone_165 : decode cL_isDone 165 = .ok (.ishl, 1) := by decide +kernel
theorem dL_isDone_166 : decode cL_isDone 166 = .ok (.invokevirtual 75, 3) := by decide +kernel
theorem dL_isDone_169 : decode cL_isDone 169 = .ok (.pop, 1) := by decide +kernel
theorem dL_isDone_170 : decode cL_isDone 170 = .ok (.goto 80, 3) := by decide +kernel
theorem dL_isDone_173 : decode cL_isDone 173 = .ok (.aload_n 0, 1) := by decide +kernel
theorem dL_isDone_174 : decode cL_isDone 174 = .ok (.iload_n 1, 1) := by decide +kernel
theorem dL_isDone_175 : decode cL_isDone 175 = .ok (.iconst 3, 1) := by decide +kernel
theorem dL_isDone_176 : decode cL_isDone 176 = .ok (.ishr, 1) := by decide +kernel
theorem dL_isDone_177 : decode cL_isDone 177 = .ok (.invokestatic 42, 3) := by decide +kernel
theorem dL_isDone_180 : decode cL_isDone 180 = .ok (.goto 70, 3) := by decide +kernel
theorem dL_isDone_183 : decode cL_isDone 183 = .ok (.iload_n 1, 1) := by decide +kernel
theorem dL_isDone_184 : decode cL_isDone 184 = .ok (.bipush 9, 2) := by decide +kernel
theorem dL_isDone_186 : decode cL_isDone 186 = .ok (.ishr, 1) := by decide +kernel
theorem dL_isDone_187 : decode cL_isDone 187 = .ok (.bipush 6, 2) := by decide +kernel
theorem dL_isDone_189 : decode cL_isDone 189 = .ok (.invokestatic 18, 3) := by decide +kernel
theorem dL_isDone_192 : decode cL_isDone 192 = .ok (.iload_n 1, 1) := by decide +kernel
theorem dL_isDone_193 : decode cL_isDone 193 = .ok (.iconst 5, 1) := by decide +kernel
theorem dL_isDone_194 : decode cL_isDone 194 = .ok (.ishr, 1) := by decide +kernel
theorem dL_isDone_195 : decode cL_isDone 195 = .ok (.bipush 6, 2) := by decide +kernel
theorem dL_isDone_197 : decode cL_isDone 197 = .ok (.invokestatic 18, 3) := by decide +kernel
theorem dL_isDone_200 : decode cL_isDone 200 = .ok (.if_icmp .eq 50, 3) := by decide +kernel
theorem dL_isDone_203 : decode cL_isDone 203 = .ok (.aload_n 0, 1) := by decide +kernel
theorem dL_isDone_204 : decode cL_isDone 204 = .ok (.iload_n 1, 1) := by decide +kernel
theorem dL_isDone_205 : decode cL_isDone 205 = .ok (.bipush 9, 2) := by decide +kernel
theorem dL_isDone_207 : decode cL_isDone 207 = .ok (.ishr, 1) := by decide +kernel
theorem dL_isDone_208 : decode cL_isDone 208 = .ok (.bipush 6, 2) := by decide +kernel
theorem dL_isDone_210 : decode cL_isDone 210 = .ok (.invokestatic 18, 3) := by decide +kernel
theorem dL_isDone_213 : decode cL_isDone 213 = .ok (.iload_n 1, 1) := by decide +kernel
theorem dL_isDone_214 : decode cL_isDone 214 = .ok (.iconst 5, 1) := by decide +kernel
theorem dL_isDone_215 : decode cL_isDone 215 = .ok (.ishr, 1) := by decide +kernel
theorem dL_isDone_216 : decode cL_isDone 216 = .ok (.bipush 6, 2) := by decide +kernel
theorem dL_isDone_218 : decode cL_isDone 218 = .ok (.invokestatic 18, 3) := by decide +kernel
theorem dL_isDone_221 : decode cL_isDone 221 = .ok (.iload_n 1, 1) := by decide +kernel
theorem dL_isDone_222 : decode cL_isDone 222 = .ok (.iconst 3, 1) := by decide +kernel
theorem dL_isDone_223 : decode cL_isDone 223 = .ok (.ishr, 1) := by decide +kernel
theorem dL_isDone_224 : decode cL_isDone 224 = .ok (.bipush 8, 2) := by decide +kernel
theorem dL_isDone_226 : decode cL_isDone 226 = .ok (.invokestatic 18, 3) := by decide +kernel
theorem dL_isDone_229 : decode cL_isDone 229 = .ok (.invokevirtual 22, 3) := by decide +kernel
theorem dL_isDone_232 : decode cL_isDone 232 = .ok (.pop, 1) := by decide +kernel
theorem dL_isDone_233 : decode cL_isDone 233 = .ok (.goto 17, 3) := by decide +kernel
theorem dL_isDone_236 : decode cL_isDone 236 = .ok (.aload_n 0, 1) := by decide +kernel
theorem dL_isDone_237 : decode cL_isDone 237 = .ok (.iconst 1, 1) := by decide +kernel
theorem dL_isDone_238 : decode cL_isDone 238 = .ok (.iload_n 1, 1) := by decide +kernel
theorem dL_isDone_239 : decode cL_isDone 239 = .ok (.iconst 4, 1) := by decide +kernel
theorem dL_isDone_240 : decode cL_isDone 240 = .ok (.ishr, 1) := by decide +kernel
theorem dL_isDone_241 : decode cL_isDone 241 = .ok (.iconst 2, 1) := by decide +kernel
theorem dL_isDone_242 : decode cL_isDone 242 = .ok (.invokestatic 18, 3) := by decide +kernel
theorem dL_isDone_245 : decode cL_isDone 245 = .ok (.iadd, 1) := by decide +kernel
theorem dL_isDone_246 : decode cL_isDone 246 = .ok (.invokevirtual 78, 3) := by decide +kernel
theorem dL_isDone_249 : decode cL_isDone 249 = .ok (.pop, 1) := by decide +kernel
theorem dL_isDone_250 : decode cL_isDone 250 = .ok (.iconst 1, 1) := by decide +kernel
theorem dL_isDone_251 : decode cL_isDone 251 = .ok (.ireturn, 1) := by decide +kernel
theorem dL_isDone_252 : decode cL_isDone 252 = .ok (.astore 5, 2) := by decide +kernel
theorem dL_isDone_254 : decode cL_isDone 254 = .ok (.iconst 0, 1) := by decide +kernel
theorem dL_isDone_255 : decode cL_isDone 255 = .ok (.ireturn, 1) := by decide +kernel
theorem dL_isDone_256 : decode cL_isDone 256 = .ok (.astore 5, 2) := by decide +kernel
theorem dL_isDone_258 : decode cL_isDone 258 = .ok (.iload_n 2, 1) := by decide +kernel
theorem dL_isDone_259 : decode cL_isDone 259 = .ok (.ifCond .ne 7, 3) := by decide +kernel
theorem dL_isDone_262 : decode cL_isDone 262 = .ok (.iconst 1, 1) := by decide +kernel
theorem dL_isDone_263 : decode cL_isDone 263 = .ok (.goto 4, 3) := by decide +kernel
theorem dL_isDone_266 : decode cL_isDone 266 = .ok (.iconst 0, 1) := by decide +kernel
theorem dL_isDone_267 : decode cL_isDone 267 = .ok (.ireturn, 1) := by decide +kernel
set_option maxRecDepth 20000 in
theorem ggL_law_L_agency : GoodIn wsL_law wsL_agency := goodIn_ca (goodIn_ca (goodIn_ca (goodIn_r _ [4, 5, 6, 7, 8, 0, 9, 10, 11, 12, 13, 14, 15, 16, 17, 18, 19, 20, 21, 22, 23, 24, 25, 26, 27, 28, 29, 30, 31, 32, 33, 34, 35, 36, 37, 38, 39, 40, 41, 42, 43, 44, 45, 46, 47, 48, 49, 50, 51, 52, 53, 54, 55, 56, 57, 58, 59, 60, 61, 62, 63, 64, 65, 66, 67, 68, 69, 70, 71, 72, 73, 74, 75, 76, 77, 78, 79, 80, 81, 82, 83, 84, 85, 86, 87, 88, 89, 90, 91, 92, 93, 94, 95, 96, 97, 98, 99, 100, 101, 102, 103, 104, 105, 106, 107, 108, 109, 110, 111, 112, 113, 114, 115, 116, 117, 118, 119, 3, 120, 121, 122, 123, 124, 125, 126, 127, 128, 129, 130, 131, 132, 133, 134, 135, 136, 137, 138, 139, 140, 141, 142, 143, 144, 145, 146, 147, 148, 149, 150, 151, 152, 153, 154, 155, 156, 157, 158, 159, 160, 161, 162, 163, 164, 165, 166, 167, 168, 169, 170, 171, 172, 173, 174, 175, 176, 177, 178, 179, 180, 181, 182, 183, 184, 185, 186, 187, 188, 189, 190, 191, 192, 193, 194, 195, 196, 197, 198, 199, 200, 201, 202, 203, 204, 205, 206, 207, 208, 209, 210, 211, 212, 213, 214, 215, 216, 217, 218, 219, 220, 221, 222, 223, 224, 225, 226, 227, 228, 229, 230, 231, 232, 233, 234, 235, 236, 237, 238, 239, 240, 241, 242, 243, 244, 245, 246, 247, 248, 249, 250, 251, 252, 253, 254, 255, 256, 257, 258, 259, 260, 261, 262, 263, 264, 265, 266, 267, 553, 554, 555, 556, 557, 558, 559, 560, 561, 562, 563, 564, 565, 566, 567, 568, 569, 570, 571, 572, 573, 574, 575, 576, 577, 578, 579, 580, 581, 582, 583, 584, 585, 586, 587, 588, 589, 590, 591, 592, 593, 594, 595, 596, 597, 598, 599, 600, 601, 602, 603, 604, 605, 606, 607, 608, 609] (by decide +kernel) (by decide +kernel)) (goodIn_sub (fun _ h => List.mem_append_left _ (List.mem_append_left _ (List.mem_append_right _ h))) (by decide +kernel))) (goodIn_sub (fun _ h => List.mem_append_left _ (List.mem_append_right _ h)) (by decide +kernel))) (goodIn_sub (fun _ h => List.mem_append_right _ h) (by decide +kernel))
set_option maxRecDepth 20000 in
theorem gL_law_L_agency : GoodIn wsL_law (va_wsS RL 83 yL_agency wsL_agency) := goodIn_app (goodIn_of _ (by decide +kernel)) ggL_law_L_agency
set_option maxRecDepth 20000 in
theorem ggL_law_L_cell : GoodIn wsL_law wsL_cell := goodIn_r _ [120, 121] (by decide +kernel) (by decide +kernel)
set_option maxRecDepth 20000 in
theorem gL_law_L_cell : GoodIn wsL_law (va_wsS RL 12 yL_cell wsL_cell) := goodIn_app (goodIn_of _ (by decide +kernel)) ggL_law_L_cell
set_option maxRecDepth 20000 in
theorem ggL_law_X7_desk : GoodIn wsL_law wsX7_desk := goodIn_ca (goodIn_r _ [211, 130, 131, 31, 28, 29, 30, 32, 212, 213, 214, 7, 215, 22, 216, 217, 218, 219, 220, 16, 174, 221, 222, 223, 224, 225, 226, 227, 228, 229, 230, 231, 232, 233, 234, 235, 236, 27, 237, 238, 239, 240, 241, 242, 243, 150, 244, 245, 149, 151, 553, 554, 555, 556, 557, 558, 559, 560, 561, 562, 563, 564, 565, 566, 567, 598, 599, 600, 601, 602, 603, 604, 605, 606, 607, 608, 609, 583, 584, 585, 586, 587, 588, 589, 590] (by decide +kernel) (by decide +kernel)) (goodIn_sub (fun _ h => List.mem_append_left _ (List.mem_append_left _ (List.mem_append_right _ h))) (by decide +kernel))
set_option maxRecDepth 20000 in
theorem gL_law_X7_desk : GoodIn wsL_law (wsV RL 46 RX7 yX7_desk wsX7_desk) := goodIn_app (goodIn_of _ (by decide +kernel)) ggL_law_X7_desk
set_option maxRecDepth 20000 in
theorem ggL_law_X7_digest : GoodIn wsL_law wsX7_digest := goodIn_ca (goodIn_ca (goodIn_r _ [271, 272, 273, 28, 29, 30, 274, 209, 210, 7, 211, 130, 131, 31, 32, 212, 213, 214, 215, 22, 216, 217, 218, 219, 220, 16, 174, 221, 222, 223, 224, 225, 226, 227, 228, 229, 230, 231, 232, 233, 234, 235, 236, 27, 237, 238, 239, 240, 241, 242, 243, 150, 244, 245, 149, 151, 275, 276, 277, 278, 162, 163, 164, 165, 279, 175, 176, 177, 178, 135, 136, 280, 281, 282, 283, 284, 285, 286, 51, 287, 113, 114, 180, 181, 288, 289, 290, 291, 18, 198, 199, 197, 292, 200, 201, 202, 293, 294, 295, 296, 297, 298, 299, 300, 179, 301, 302, 303, 304, 20, 305, 306, 257, 258, 259, 260, 307, 308, 309, 310, 250, 311, 312, 313, 314, 39, 315, 316, 317, 318, 319, 320, 321, 322, 323, 251, 252, 253, 254, 255, 324, 325, 326, 327, 328, 329, 330, 331, 332, 333, 334, 335, 336, 337, 338, 339, 340, 341, 342, 116, 109, 110, 343, 344, 345, 346, 347, 348, 349, 350, 351, 33, 352, 353, 354, 355, 356, 357, 358, 359, 26, 152, 153, 154, 25, 155, 58, 360, 361, 362, 363, 364, 365, 366, 367, 35, 368, 369, 370, 38, 371, 62, 63, 64, 65, 66, 67, 372, 373, 374, 375, 376, 377, 378, 379, 380, 381, 382, 383, 384, 385, 386, 387, 388, 389, 390, 391, 392, 393, 394, 395, 396, 397, 398, 399, 400, 401, 402, 403, 404, 43, 405, 406, 407, 408, 409, 42, 410, 77, 74, 76, 75, 411, 73, 412, 413, 414, 415, 416, 417, 418, 419, 47, 420, 96, 421, 422, 423, 424, 425, 426, 427, 428, 429, 430, 431, 72, 71, 432, 433, 434, 435, 132, 133, 134, 137, 138, 139, 436, 437, 438, 439, 440, 441, 442, 443, 444, 445, 446, 447, 448, 449, 450, 451, 452, 453, 454, 455, 456, 457, 458, 459, 553, 554, 555, 556, 557, 558, 559, 560, 561, 562, 563, 564, 565, 566, 567, 598, 599, 600, 601, 602, 603, 604, 605, 606, 607, 608, 609, 583, 584, 585, 586, 587, 588, 589, 590, 591, 592, 593, 594, 595, 596, 597, 570, 571, 572, 573, 574, 575, 568, 569, 576, 577, 578, 579, 580, 581, 582] (by decide +kernel) (by decide +kernel)) (goodIn_sub (fun _ h => List.mem_append_left _ (List.mem_append_left _ (List.mem_append_right _ h))) (by decide +kernel))) (goodIn_sub (fun _ h => List.mem_append_left _ (List.mem_append_right _ h)) (by decide +kernel))
set_option maxRecDepth 20000 in
theorem gL_law_X7_digest : GoodIn wsL_law (wsV RL 87 RX7 yX7_digest wsX7_digest) := goodIn_app (goodIn_of _ (by decide +kernel)) ggL_law_X7_digest
set_option maxRecDepth 20000 in
theorem ggL_law_L_isDone : GoodIn wsL_law wsL_isDone := goodIn_ca (goodIn_ca (goodIn_ca (goodIn_r _ [462, 206, 463, 464, 243, 150, 244, 207, 149, 151, 208, 209, 210, 7, 211, 130, 131, 31, 28, 29, 30, 32, 212, 213, 214, 215, 22, 216, 217, 218, 219, 220, 16, 174, 221, 222, 223, 224, 225, 226, 227, 228, 229, 230, 231, 232, 233, 234, 235, 236, 27, 237, 238, 239, 240, 241, 242, 245, 122, 123, 3, 124, 125, 465, 466, 467, 468, 160, 161, 39, 317, 315, 319, 316, 324, 327, 328, 329, 330, 135, 136, 469, 470, 471, 472, 331, 332, 333, 334, 335, 336, 337, 338, 250, 251, 344, 345, 346, 347, 348, 349, 350, 351, 33, 352, 353, 354, 355, 356, 357, 358, 359, 26, 164, 252, 179, 180, 181, 152, 153, 154, 25, 155, 58, 360, 361, 362, 363, 253, 254, 364, 365, 366, 367, 20, 306, 35, 255, 318, 368, 369, 370, 38, 371, 62, 63, 64, 65, 66, 67, 372, 373, 374, 375, 376, 377, 378, 379, 162, 380, 381, 382, 383, 384, 163, 385, 386, 387, 388, 389, 390, 391, 392, 393, 394, 395, 396, 165, 397, 398, 399, 400, 473, 474, 475, 476, 477, 478, 479, 480, 481, 482, 483, 326, 484, 485, 486, 487, 488, 489, 490, 491, 492, 493, 494, 495, 175, 176, 177, 178, 496, 497, 498, 499, 500, 501, 502, 503, 284, 285, 286, 51, 287, 113, 114, 504, 505, 506, 507, 508, 509, 510, 511, 325, 339, 340, 341, 342, 116, 109, 110, 343, 512, 513, 514, 515, 166, 167, 168, 169, 203, 204, 205, 246, 247, 248, 249, 256, 257, 258, 259, 260, 132, 133, 134, 137, 138, 139, 261, 262, 263, 264, 265, 266, 267, 126, 127, 128, 129, 140, 141, 142, 143, 57, 144, 145, 146, 147, 148, 516, 517, 518, 519, 520, 521, 522, 523, 524, 525, 526, 527, 279, 43, 18, 406, 528, 292, 529, 530, 531, 532, 533, 534, 535, 536, 407, 408, 409, 42, 410, 77, 74, 76, 75, 411, 73, 412, 413, 414, 415, 416, 417, 418, 419, 47, 420, 96, 421, 422, 423, 424, 425, 426, 427, 428, 429, 430, 431, 72, 71, 537, 538, 539, 540, 553, 554, 555, 556, 557, 558, 559, 560, 561, 562, 563, 564, 565, 566, 567, 598, 599, 600, 601, 602, 603, 604, 605, 606, 607, 608, 609, 583, 584, 585, 586, 587, 588, 589, 590, 570, 571, 572, 573, 574, 575, 568, 569, 595, 596, 597, 576, 577, 578, 579, 580, 581, 582, 591, 592, 593, 594] (by decide +kernel) (by decide +kernel)) (goodIn_sub (fun _ h => List.mem_append_left _ (List.mem_append_left _ (List.mem_append_right _ h))) (by decide +kernel))) (goodIn_sub (fun _ h => List.mem_append_right _ h) (by decide +kernel))) (goodIn_sub (fun _ h => List.mem_append_left _ (List.mem_append_right _ h)) (by decide +kernel))
set_option maxRecDepth 20000 in
theorem gL_law_L_isDone : GoodIn wsL_law (va_wsS RL 91 yL_isDone wsL_isDone) := goodIn_app (goodIn_of _ (by decide +kernel)) ggL_law_L_isDone
set_option maxRecDepth 20000 in
theorem ggL_law_X7_ofSong : GoodIn wsL_law wsX7_ofSong := goodIn_ca (goodIn_ca (goodIn_r _ [291, 130, 131, 18, 198, 199, 197, 292, 200, 201, 7, 202, 135, 136, 293, 294, 295, 296, 297, 298, 299, 300, 28, 16, 163, 179, 180, 181, 553, 554, 555, 556, 557, 558, 559, 560, 561, 562, 563, 564, 565, 566, 567, 591, 592, 593, 594, 583, 584, 585, 586, 587, 588, 589, 590] (by decide +kernel) (by decide +kernel)) (goodIn_sub (fun _ h => List.mem_append_left _ (List.mem_append_left _ (List.mem_append_right _ h))) (by decide +kernel))) (goodIn_sub (fun _ h => List.mem_append_left _ (List.mem_append_right _ h)) (by decide +kernel))
set_option maxRecDepth 20000 in
theorem gL_law_X7_ofSong : GoodIn wsL_law (wsV RL 95 RX7 yX7_ofSong wsX7_ofSong) := goodIn_app (goodIn_of _ (by decide +kernel)) ggL_law_X7_ofSong
set_option maxRecDepth 20000 in
theorem ggL_law_X7_ofWedding : GoodIn wsL_law wsX7_ofWedding := goodIn_ca (goodIn_ca (goodIn_r _ [323, 130, 131, 22, 250, 251, 252, 253, 254, 255, 216, 319, 324, 325, 326, 327, 328, 329, 7, 330, 135, 136, 30, 331, 332, 333, 334, 335, 336, 337, 338, 339, 340, 341, 51, 342, 116, 109, 110, 343, 149, 150, 151, 553, 554, 555, 556, 557, 558, 559, 560, 561, 562, 563, 564, 565, 566, 567, 598, 599, 600, 601, 602, 603, 604, 605, 606, 607, 608, 609] (by decide +kernel) (by decide +kernel)) (goodIn_sub (fun _ h => List.mem_append_left _ (List.mem_append_left _ (List.mem_append_right _ h))) (by decide +kernel))) (goodIn_sub (fun _ h => List.mem_append_left _ (List.mem_append_right _ h)) (by decide +kernel))
set_option maxRecDepth 20000 in
theorem gL_law_X7_ofWedding : GoodIn wsL_law (wsV RL 98 RX7 yX7_ofWedding wsX7_ofWedding) := goodIn_app (goodIn_of _ (by decide +kernel)) ggL_law_X7_ofWedding
set_option maxRecDepth 20000 in
theorem ggL_law_L_isSo : GoodIn wsL_law wsL_isSo := goodIn_ca (goodIn_ca (goodIn_r _ [545, 208, 209, 210, 7, 211, 130, 131, 31, 28, 29, 30, 32, 212, 213, 214, 215, 22, 216, 217, 218, 219, 220, 16, 174, 221, 222, 223, 224, 225, 226, 227, 228, 229, 230, 231, 232, 233, 234, 235, 236, 27, 237, 238, 239, 240, 241, 242, 243, 150, 244, 245, 149, 151, 542, 321, 322, 323, 250, 251, 252, 253, 254, 255, 319, 324, 325, 326, 327, 328, 329, 330, 135, 136, 331, 332, 333, 334, 335, 336, 337, 338, 339, 340, 341, 51, 342, 116, 109, 110, 343, 546, 302, 303, 304, 20, 305, 306, 257, 258, 259, 260, 307, 308, 309, 310, 547, 276, 277, 278, 162, 163, 164, 165, 279, 175, 176, 177, 178, 280, 281, 282, 283, 284, 285, 286, 287, 113, 114, 180, 181, 548, 549, 3, 550, 551, 541, 289, 290, 291, 18, 198, 199, 197, 292, 200, 201, 202, 293, 294, 295, 296, 297, 298, 299, 300, 179, 553, 554, 555, 556, 557, 558, 559, 560, 561, 562, 563, 564, 565, 566, 567, 598, 599, 600, 601, 602, 603, 604, 605, 606, 607, 608, 609, 583, 584, 585, 586, 587, 588, 589, 590, 595, 596, 597, 591, 592, 593, 594] (by decide +kernel) (by decide +kernel)) (goodIn_sub (fun _ h => List.mem_append_left _ (List.mem_append_left _ (List.mem_append_right _ h))) (by decide +kernel))) (goodIn_sub (fun _ h => List.mem_append_left _ (List.mem_append_right _ h)) (by decide +kernel))
set_option maxRecDepth 20000 in
theorem gL_law_L_isSo : GoodIn wsL_law (va_wsS RL 101 yL_isSo wsL_isSo) := goodIn_app (goodIn_of _ (by decide +kernel)) ggL_law_L_isSo
set_option maxRecDepth 20000 in
theorem ggL_law_X7_isSound : GoodIn wsL_law wsX7_isSound := goodIn_r _ [439, 440, 441, 442, 7, 443, 30, 22, 216, 444, 445, 446, 447, 319, 20, 250, 306, 251, 221, 222, 223, 224, 225, 226, 227, 448, 449, 450, 451, 326, 32, 228, 229, 230, 231, 28, 16, 232, 452, 453, 454, 455, 241, 254, 456, 457, 458, 459, 18, 293, 294, 295, 296, 197, 292, 553, 554, 555, 556, 557, 558, 559, 560, 561, 562, 563, 564, 565, 566, 567, 598, 599, 600, 601, 602, 603, 604, 605, 606, 607, 608, 609, 595, 596, 597, 583, 584, 585, 586, 587, 588, 589, 590, 591, 592, 593, 594] (by decide +kernel) (by decide +kernel)
set_option maxRecDepth 20000 in
theorem gL_law_X7_isSound : GoodIn wsL_law (wsV RL 105 RX7 yX7_isSound wsX7_isSound) := goodIn_app (goodIn_of _ (by decide +kernel)) ggL_law_X7_isSound
theorem dL_law_0 : decode cL_law 0 = .ok (.aload_n 0, 1) := by decide +kernel
theorem dL_law_1 : decode cL_law 1 = .ok (.invokestatic 83, 3) := by decide +kernel
theorem dL_law_4 : decode cL_law 4 = .ok (.astore_n 1, 1) := by decide +kernel
theorem dL_law_5 : decode cL_law 5 = .ok (.bipush 14, 2) := by decide +kernel
theorem dL_law_7 : decode cL_law 7 = .ok (.newarray .int, 2) := by decide +kernel
theorem dL_law_9 : decode cL_law 9 = .ok (.astore_n 2, 1) := by decide +kernel
theorem dL_law_10 : decode cL_law 10 = .ok (.bipush 14, 2) := by decide +kernel
theorem dL_law_12 : decode cL_law 12 = .ok (.newarray .int, 2) := by decide +kernel
theorem dL_law_14 : decode cL_law 14 = .ok (.astore_n 3, 1) := by decide +kernel
theorem dL_law_15 : decode cL_law 15 = .ok (.iconst 0, 1) := by decide +kernel
theorem dL_law_16 : decode cL_law 16 = .ok (.istore 4, 2) := by decide +kernel
theorem dL_law_18 : decode cL_law 18 = .ok (.iconst 0, 1) := by decide +kernel
theorem dL_law_19 : decode cL_law 19 = .ok (.istore 5, 2) := by decide +kernel
theorem dL_law_21 : decode cL_law 21 = .ok (.iload 5, 2) := by decide +kernel
theorem dL_law_23 : decode cL_law 23 = .ok (.bipush 20, 2) := by decide +kernel
theorem dL_law_25 : decode cL_law 25 = .ok (.if_icmp .ge 317, 3) := by decide +kernel
theorem dL_law_28 : decode cL_law 28 = .ok (.aload_n 0, 1) := by decide +kernel
theorem dL_law_29 : decode cL_law 29 = .ok (.bipush 15, 2) := by decide +kernel
theorem dL_law_31 : decode cL_law 31 = .ok (.iload 5, 2) := by decide +kernel
theorem dL_law_33 : decode cL_law 33 = .ok (.iadd, 1) := by decide +kernel
theorem dL_law_34 : decode cL_law 34 = .ok (.invokestatic 12, 3) := by decide +kernel
theorem dL_law_37 : decode cL_law 37 = .ok (.istore 6, 2) := by decide +kernel
theorem dL_law_39 : decode cL_law 39 = .ok (.aload_n 1, 1) := by decide +kernel
theorem dL_law_40 : decode cL_law 40 = .ok (.iconst 0, 1) := by decide +kernel
theorem dL_law_41 : decode cL_law 41 = .ok (.invokevirtual 46, 3) := by decide +kernel
theorem dL_law_44 : decode cL_law 44 = .ok (.istore 7, 2) := by decide +kernel
theorem dL_law_46 : decode cL_law 46 = .ok (.aload_n 1, 1) := by decide +kernel
theorem dL_law_47 : decode cL_law 47 = .ok (.iconst 3, 1) := by decide +kernel
theorem dL_law_48 : decode cL_law 48 = .ok (.invokevirtual 46, 3) := by decide +kernel
theorem dL_law_51 : decode cL_law 51 = .ok (.istore 8, 2) := by decide +kernel
theorem dL_law_53 : decode cL_law 53 = .ok (.aload_n 1, 1) := by decide +kernel
theorem dL_law_54 : decode cL_law 54 = .ok (.invokevirtual 87, 3) := by decide +kernel
theorem dL_law_57 : decode cL_law 57 = .ok (.lstore 9, 2) := by decide +kernel
theorem dL_law_59 : decode cL_law 59 = .ok (.aload_n 1, 1) := by decide +kernel
theorem dL_law_60 : decode cL_law 60 = .ok (.iload 6, 2) := by decide +kernel
theorem dL_law_62 : decode cL_law 62 = .ok (.invokestatic 91, 3) := by decide +kernel
theorem dL_law_65 : decode cL_law 65 = .ok (.istore 11, 2) := by decide +kernel
theorem dL_law_67 : decode cL_law 67 = .ok (.iload 11, 2) := by decide +kernel
theorem dL_law_69 : decode cL_law 69 = .ok (.ifCond .ne 13, 3) := by decide +kernel
theorem dL_law_72 : decode cL_law 72 = .ok (.aload_n 1, 1) := by decide +kernel
theorem dL_law_73 : decode cL_law 73 = .ok (.invokevirtual 87, 3) := by decide +kernel
theorem dL_law_76 : decode cL_law 76 = .ok (.lload 9, 2) := by decide +kernel
theorem dL_law_78 : decode cL_law 78 = .ok (.lcmp, 1) := by decide +kernel
theorem dL_law_79 : decode cL_law 79 = .ok (.ifCond .ne 47, 3) := by decide +kernel
theorem dL_law_82 : decode cL_law 82 = .ok (.aload_n 1, 1) := by decide +kernel
theorem dL_law_83 : decode cL_law 83 = .ok (.iconst 0, 1) := by decide +kernel
theorem dL_law_84 : decode cL_law 84 = .ok (.invokevirtual 46, 3) := by decide +kernel
theorem dL_law_87 : decode cL_law 87 = .ok (.iload 7, 2) := by decide +kernel
theorem dL_law_89 : decode cL_law 89 = .ok (.if_icmp .lt 37, 3) := by decide +kernel
theorem dL_law_92 : decode cL_law 92 = .ok (.aload_n 1, 1) := by decide +kernel
theorem dL_law_93 : decode cL_law 93 = .ok (.iconst 0, 1) := by decide +kernel
theorem dL_law_94 : decode cL_law 94 = .ok (.invokevirtual 46, 3) := by decide +kernel
theorem dL_law_97 : decode cL_law 97 = .ok (.iload 7, 2) := by decide +kernel
theorem dL_law_99 : decode cL_law 99 = .ok (.iconst 2, 1) := by decide +kernel
theorem dL_law_100 : decode cL_law 100 = .ok (.iadd, 1) := by decide +kernel
theorem dL_law_101 : decode cL_law 101 = .ok (.if_icmp .gt 25, 3) := by decide +kernel
theorem dL_law_104 : decode cL_law 104 = .ok (.aload_n 1, 1) := by decide +kernel
theorem dL_law_105 : decode cL_law 105 = .ok (.iconst 3, 1) := by decide +kernel
theorem dL_law_106 : decode cL_law 106 = .ok (.invokevirtual 46, 3) := by decide +kernel
theorem dL_law_109 : decode cL_law 109 = .ok (.iload 8, 2) := by decide +kernel
theorem dL_law_111 : decode cL_law 111 = .ok (.if_icmp .lt 15, 3) := by decide +kernel
theorem dL_law_114 : decode cL_law 114 = .ok (.aload_n 1, 1) := by decide +kernel
theorem dL_law_115 : decode cL_law 115 = .ok (.iconst 3, 1) := by decide +kernel
theorem dL_law_116 : decode cL_law 116 = .ok (.invokevirtual 46, 3) := by decide +kernel
theorem dL_law_119 : decode cL_law 119 = .ok (.iload 8, 2) := by decide +kernel
theorem dL_law_121 : decode cL_law 121 = .ok (.iconst 1, 1) := by decide +kernel
theorem dL_law_122 : decode cL_law 122 = .ok (.iadd, 1) := by decide +kernel
theorem dL_law_123 : decode cL_law 123 = .ok (.if_icmp .le 5, 3) := by decide +kernel
theorem dL_law_126 : decode cL_law 126 = .ok (.iconst 0, 1) := by decide +kernel
theorem dL_law_127 : decode cL_law 127 = .ok (.ireturn, 1) := by decide +kernel
theorem dL_law_128 : decode cL_law 128 = .ok (.iconst 0, 1) := by decide +kernel
theorem dL_law_129 : decode cL_law 129 = .ok (.istore 12, 2) := by decide +kernel
theorem dL_law_131 : decode cL_law 131 = .ok (.iconst 0, 1) := by decide +kernel
theorem dL_law_132 : decode cL_law 132 = .ok (.istore 13, 2) := by decide +kernel
theorem dL_law_134 : decode cL_law 134 = .ok (.iload 13, 2) := by decide +kernel
theorem dL_law_136 : decode cL_law 136 = .ok (.bipush 16, 2) := by decide +kernel
theorem dL_law_138 : decode cL_law 138 = .ok (.if_icmp .ge 21, 3) := by decide +kernel
theorem dL_law_141 : decode cL_law 141 = .ok (.iload 12, 2) := by decide +kernel
theorem dL_law_143 : decode cL_law 143 = .ok (.aload_n 1, 1) := by decide +kernel
theorem dL_law_144 : decode cL_law 144 = .ok (.iload 13, 2) := by decide +kernel
theorem dL_law_146 : decode cL_law 146 = .ok (.iconst 3, 1) := by decide +kernel
theorem dL_law_147 : decode cL_law 147 = .ok (.invokevirtual 95, 3) := by decide +kernel
theorem dL_law_150 : decode cL_law 150 = .ok (.iadd, 1) := by decide +kernel
theorem dL_law_151 : decode cL_law 151 = .ok (.istore 12, 2) := by decide +kernel
theorem dL_law_153 : decode cL_law 153 = .ok (.iinc 13 1, 3) := by decide +kernel
theorem dL_law_156 : decode cL_law 156 = .ok (.goto (-22), 3) := by decide +kernel
theorem dL_law_159 : decode cL_law 159 = .ok (.iload 12, 2) := by decide +kernel
theorem dL_law_161 : decode cL_law 161 = .ok (.iload 4, 2) := by decide +kernel
theorem dL_law_163 : decode cL_law 163 = .ok (.if_icmp .lt 36, 3) := by decide +kernel
theorem dL_law_166 : decode cL_law 166 = .ok (.aload_n 1, 1) := by decide +kernel
theorem dL_law_167 : decode cL_law 167 = .ok (.iconst 4, 1) := by decide +kernel
theorem dL_law_168 : decode cL_law 168 = .ok (.invokevirtual 46, 3) := by decide +kernel
