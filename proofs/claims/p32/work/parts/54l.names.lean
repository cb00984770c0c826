set_option maxRecDepth 20000 in
theorem ggL_isSo_X7_desk : GoodIn wsL_isSo wsX7_desk := goodIn_ca (goodIn_r _ [5, 6, 7, 8, 9, 10, 11, 12, 13, 14, 15, 4, 16, 17, 18, 19, 20, 21, 22, 23, 24, 25, 26, 27, 28, 29, 30, 31, 32, 33, 34, 35, 36, 37, 38, 39, 40, 41, 42, 43, 44, 45, 46, 47, 48, 49, 50, 51, 52, 53, 157, 158, 159, 160, 161, 162, 163, 164, 165, 166, 167, 168, 169, 170, 171, 172, 173, 174, 175, 176, 177, 178, 179, 180, 181, 182, 183, 184, 185, 186, 187, 188, 189, 190, 191] (by decide +kernel) (by decide +kernel)) (goodIn_sub (fun _ h => List.mem_cons_of_mem _ (List.mem_append_left _ (List.mem_append_right _ h))) (by decide +kernel))
set_option maxRecDepth 20000 in
theorem gL_isSo_X7_desk : GoodIn wsL_isSo (wsV RL 46 RX7 yX7_desk wsX7_desk) := goodIn_app (goodIn_of _ (by decide +kernel)) ggL_isSo_X7_desk
set_option maxRecDepth 20000 in
theorem ggL_isSo_X7_ofWedding : GoodIn wsL_isSo wsX7_ofWedding := goodIn_ca (goodIn_ca (goodIn_r _ [57, 6, 7, 17, 58, 59, 60, 61, 62, 63, 18, 64, 65, 66, 67, 68, 69, 70, 4, 71, 72, 73, 11, 74, 75, 76, 77, 78, 79, 80, 81, 82, 83, 84, 85, 86, 87, 88, 89, 90, 52, 49, 53, 157, 158, 159, 160, 161, 162, 163, 164, 165, 166, 167, 168, 169, 170, 171, 172, 173, 174, 175, 176, 177, 178, 179, 180, 181, 182, 183] (by decide +kernel) (by decide +kernel)) (goodIn_sub (fun _ h => List.mem_cons_of_mem _ (List.mem_append_left _ (List.mem_append_right _ h))) (by decide +kernel))) (goodIn_sub (fun _ h => List.mem_cons_of_mem _ (List.mem_append_right _ h)) (by decide +kernel))
set_option maxRecDepth 20000 in
theorem gL_isSo_X7_ofWedding : GoodIn wsL_isSo (wsV RL 98 RX7 yX7_ofWedding wsX7_ofWedding) := goodIn_app (goodIn_of _ (by decide +kernel)) ggL_isSo_X7_ofWedding
set_option maxRecDepth 20000 in
theorem ggL_isSo_X7_ofBand : GoodIn wsL_isSo wsX7_ofBand := goodIn_ca (goodIn_ca (goodIn_r _ [94, 6, 7, 95, 96, 97, 98, 99, 100, 4, 101, 72, 73, 10, 102, 103, 104, 105, 11, 17, 58, 18, 157, 158, 159, 160, 161, 162, 163, 164, 165, 166, 167, 168, 169, 170, 171, 192, 193, 194, 172, 173, 174, 175, 176, 177, 178, 179, 180, 181, 182, 183] (by decide +kernel) (by decide +kernel)) (goodIn_sub (fun _ h => List.mem_cons_of_mem _ (List.mem_append_left _ (List.mem_append_right _ h))) (by decide +kernel))) (goodIn_sub (fun _ h => List.mem_cons_of_mem _ (List.mem_append_right _ h)) (by decide +kernel))
set_option maxRecDepth 20000 in
theorem gL_isSo_X7_ofBand : GoodIn wsL_isSo (wsV RL 109 RX7 yX7_ofBand wsX7_ofBand) := goodIn_app (goodIn_of _ (by decide +kernel)) ggL_isSo_X7_ofBand
set_option maxRecDepth 20000 in
theorem ggL_isSo_X7_ofPlayer : GoodIn wsL_isSo wsX7_ofPlayer := goodIn_ca (goodIn_ca (goodIn_r _ [109, 6, 7, 23, 110, 111, 112, 113, 24, 36, 114, 46, 115, 116, 117, 4, 118, 72, 73, 9, 119, 120, 121, 122, 11, 17, 123, 124, 125, 85, 126, 127, 128, 129, 130, 157, 158, 159, 160, 161, 162, 163, 164, 165, 166, 167, 168, 169, 170, 171, 184, 185, 186, 187, 188, 189, 190, 191, 172, 173, 174, 175, 176, 177, 178, 179, 180, 181, 182, 183] (by decide +kernel) (by decide +kernel)) (goodIn_sub (fun _ h => List.mem_cons_of_mem _ (List.mem_append_left _ (List.mem_append_right _ h))) (by decide +kernel))) (goodIn_sub (fun _ h => List.mem_cons_of_mem _ (List.mem_append_right _ h)) (by decide +kernel))
set_option maxRecDepth 20000 in
theorem gL_isSo_X7_ofPlayer : GoodIn wsL_isSo (wsV RL 112 RX7 yX7_ofPlayer wsX7_ofPlayer) := goodIn_app (goodIn_of _ (by decide +kernel)) ggL_isSo_X7_ofPlayer
set_option maxRecDepth 20000 in
theorem ggL_isSo_L_instruments : GoodIn wsL_isSo wsL_instruments := goodIn_ca (goodIn_ca (goodIn_r _ [134, 91, 92, 93, 4, 94, 6, 7, 95, 96, 97, 98, 99, 100, 101, 72, 73, 10, 102, 103, 104, 105, 11, 17, 58, 18, 157, 158, 159, 160, 161, 162, 163, 164, 165, 166, 167, 168, 169, 170, 171, 192, 193, 194, 172, 173, 174, 175, 176, 177, 178, 179, 180, 181, 182, 183] (by decide +kernel) (by decide +kernel)) (goodIn_sub (fun _ h => List.mem_cons_of_mem _ (List.mem_append_left _ (List.mem_append_right _ h))) (by decide +kernel))) (goodIn_sub (fun _ h => List.mem_cons_of_mem _ (List.mem_append_right _ h)) (by decide +kernel))
set_option maxRecDepth 20000 in
theorem gL_isSo_L_instruments : GoodIn wsL_isSo (va_wsS RL 115 yL_instruments wsL_instruments) := goodIn_app (goodIn_of _ (by decide +kernel)) ggL_isSo_L_instruments
set_option maxRecDepth 20000 in
theorem ggL_isSo_J6_bitCount_0f7a4 : GoodIn wsL_isSo wsJ6_bitCount_0f7a4 := goodIn_r _ [28, 29, 30, 31] (by decide +kernel) (by decide +kernel)
set_option maxRecDepth 20000 in
theorem gL_isSo_J6_bitCount_0f7a4 : GoodIn wsL_isSo (va_wsS RL 119 yJ6_bitCount_0f7a4 wsJ6_bitCount_0f7a4) := goodIn_app (goodIn_of _ (by decide +kernel)) ggL_isSo_J6_bitCount_0f7a4
set_option maxRecDepth 20000 in
theorem ggL_isSo_X7_ofSong : GoodIn wsL_isSo wsX7_ofSong := goodIn_ca (goodIn_ca (goodIn_r _ [139, 6, 7, 140, 141, 142, 143, 144, 145, 146, 4, 147, 72, 73, 148, 149, 150, 151, 152, 153, 154, 155, 9, 23, 111, 156, 129, 130, 157, 158, 159, 160, 161, 162, 163, 164, 165, 166, 167, 168, 169, 170, 171, 195, 196, 197, 198, 184, 185, 186, 187, 188, 189, 190, 191] (by decide +kernel) (by decide +kernel)) (goodIn_sub (fun _ h => List.mem_cons_of_mem _ (List.mem_append_left _ (List.mem_append_right _ h))) (by decide +kernel))) (goodIn_sub (fun _ h => List.mem_cons_of_mem _ (List.mem_append_right _ h)) (by decide +kernel))
set_option maxRecDepth 20000 in
theorem gL_isSo_X7_ofSong : GoodIn wsL_isSo (wsV RL 95 RX7 yX7_ofSong wsX7_ofSong) := goodIn_app (goodIn_of _ (by decide +kernel)) ggL_isSo_X7_ofSong
theorem dL_isSo_0 : decode cL_isSo 0 = .ok (.aload_n 0, 1) := by decide +kernel
theorem dL_isSo_1 : decode cL_isSo 1 = .ok (.iconst 1, 1) := by decide +kernel
theorem dL_isSo_2 : decode cL_isSo 2 = .ok (.invokevirtual 46, 3) := by decide +kernel
theorem dL_isSo_5 : decode cL_isSo 5 = .ok (.istore_n 1, 1) := by decide +kernel
theorem dL_isSo_6 : decode cL_isSo 6 = .ok (.iconst 0, 1) := by decide +kernel
theorem dL_isSo_7 : decode cL_isSo 7 = .ok (.istore_n 2, 1) := by decide +kernel
theorem dL_isSo_8 : decode cL_isSo 8 = .ok (.iconst 0, 1) := by decide +kernel
theorem dL_isSo_9 : decode cL_isSo 9 = .ok (.istore_n 3, 1) := by decide +kernel
theorem dL_isSo_10 : decode cL_isSo 10 = .ok (.iload_n 3, 1) := by decide +kernel
theorem dL_isSo_11 : decode cL_isSo 11 = .ok (.aload_n 0, 1) := by decide +kernel
theorem dL_isSo_12 : decode cL_isSo 12 = .ok (.iconst 3, 1) := by decide +kernel
theorem dL_isSo_13 : decode cL_isSo 13 = .ok (.invokevirtual 46, 3) := by decide +kernel
theorem dL_isSo_16 : decode cL_isSo 16 = .ok (.if_icmp .ge 330, 3) := by decide +kernel
theorem dL_isSo_19 : decode cL_isSo 19 = .ok (.aload_n 0, 1) := by decide +kernel
theorem dL_isSo_20 : decode cL_isSo 20 = .ok (.iload_n 3, 1) := by decide +kernel
theorem dL_isSo_21 : decode cL_isSo 21 = .ok (.bipush 6, 2) := by decide +kernel
theorem dL_isSo_23 : decode cL_isSo 23 = .ok (.invokevirtual 98, 3) := by decide +kernel
theorem dL_isSo_26 : decode cL_isSo 26 = .ok (.istore 4, 2) := by decide +kernel
theorem dL_isSo_28 : decode cL_isSo 28 = .ok (.aload_n 0, 1) := by decide +kernel
theorem dL_isSo_29 : decode cL_isSo 29 = .ok (.iload_n 3, 1) := by decide +kernel
theorem dL_isSo_30 : decode cL_isSo 30 = .ok (.bipush 7, 2) := by decide +kernel
theorem dL_isSo_32 : decode cL_isSo 32 = .ok (.invokevirtual 98, 3) := by decide +kernel
theorem dL_isSo_35 : decode cL_isSo 35 = .ok (.istore 5, 2) := by decide +kernel
theorem dL_isSo_37 : decode cL_isSo 37 = .ok (.aload_n 0, 1) := by decide +kernel
theorem dL_isSo_38 : decode cL_isSo 38 = .ok (.iload_n 3, 1) := by decide +kernel
theorem dL_isSo_39 : decode cL_isSo 39 = .ok (.iconst 0, 1) := by decide +kernel
theorem dL_isSo_40 : decode cL_isSo 40 = .ok (.invokevirtual 98, 3) := by decide +kernel
theorem dL_isSo_43 : decode cL_isSo 43 = .ok (.istore 6, 2) := by decide +kernel
theorem dL_isSo_45 : decode cL_isSo 45 = .ok (.iload_n 2, 1) := by decide +kernel
theorem dL_isSo_46 : decode cL_isSo 46 = .ok (.aload_n 0, 1) := by decide +kernel
theorem dL_isSo_47 : decode cL_isSo 47 = .ok (.iload_n 3, 1) := by decide +kernel
theorem dL_isSo_48 : decode cL_isSo 48 = .ok (.bipush 10, 2) := by decide +kernel
theorem dL_isSo_50 : decode cL_isSo 50 = .ok (.invokevirtual 98, 3) := by decide +kernel
theorem dL_isSo_53 : decode cL_isSo 53 = .ok (.iadd, 1) := by decide +kernel
theorem dL_isSo_54 : decode cL_isSo 54 = .ok (.istore_n 2, 1) := by decide +kernel
theorem dL_isSo_55 : decode cL_isSo 55 = .ok (.iload 4, 2) := by decide +kernel
theorem dL_isSo_57 : decode cL_isSo 57 = .ok (.ifCond .ne 32, 3) := by decide +kernel
theorem dL_isSo_60 : decode cL_isSo 60 = .ok (.iload 5, 2) := by decide +kernel
theorem dL_isSo_62 : decode cL_isSo 62 = .ok (.ifCond .ne 83, 3) := by decide +kernel
theorem dL_isSo_65 : decode cL_isSo 65 = .ok (.aload_n 0, 1) := by decide +kernel
theorem dL_isSo_66 : decode cL_isSo 66 = .ok (.iload_n 3, 1) := by decide +kernel
theorem dL_isSo_67 : decode cL_isSo 67 = .ok (.bipush 11, 2) := by decide +kernel
theorem dL_isSo_69 : decode cL_isSo 69 = .ok (.invokevirtual 98, 3) := by decide +kernel
theorem dL_isSo_72 : decode cL_isSo 72 = .ok (.ifCond .lt 73, 3) := by decide +kernel
theorem dL_isSo_75 : decode cL_isSo 75 = .ok (.aload_n 0, 1) := by decide +kernel
theorem dL_isSo_76 : decode cL_isSo 76 = .ok (.iload_n 3, 1) := by decide +kernel
theorem dL_isSo_77 : decode cL_isSo 77 = .ok (.iconst 1, 1) := by decide +kernel
theorem dL_isSo_78 : decode cL_isSo 78 = .ok (.invokevirtual 98, 3) := by decide +kernel
theorem dL_isSo_81 : decode cL_isSo 81 = .ok (.aload_n 0, 1) := by decide +kernel
theorem dL_isSo_82 : decode cL_isSo 82 = .ok (.iconst 0, 1) := by decide +kernel
theorem dL_isSo_83 : decode cL_isSo 83 = .ok (.invokevirtual 46, 3) := by decide +kernel
theorem dL_isSo_86 : decode cL_isSo 86 = .ok (.if_icmp .lt 59, 3) := by decide +kernel
theorem dL_isSo_89 : decode cL_isSo 89 = .ok (.iload 4, 2) := by decide +kernel
theorem dL_isSo_91 : decode cL_isSo 91 = .ok (.ifCond .eq 14, 3) := by decide +kernel
theorem dL_isSo_94 : decode cL_isSo 94 = .ok (.aload_n 0, 1) := by decide +kernel
theorem dL_isSo_95 : decode cL_isSo 95 = .ok (.iload_n 3, 1) := by decide +kernel
theorem dL_isSo_96 : decode cL_isSo 96 = .ok (.bipush 11, 2) := by decide +kernel
theorem dL_isSo_98 : decode cL_isSo 98 = .ok (.invokevirtual 98, 3) := by decide +kernel
theorem dL_isSo_101 : decode cL_isSo 101 = .ok (.iconst (-1), 1) := by decide +kernel
theorem dL_isSo_102 : decode cL_isSo 102 = .ok (.if_icmp .ne 43, 3) := by decide +kernel
theorem dL_isSo_105 : decode cL_isSo 105 = .ok (.iload 4, 2) := by decide +kernel
theorem dL_isSo_107 : decode cL_isSo 107 = .ok (.iconst 1, 1) := by decide +kernel
theorem dL_isSo_108 : decode cL_isSo 108 = .ok (.if_icmp .ne 17, 3) := by decide +kernel
theorem dL_isSo_111 : decode cL_isSo 111 = .ok (.aload_n 0, 1) := by decide +kernel
theorem dL_isSo_112 : decode cL_isSo 112 = .ok (.iload_n 3, 1) := by decide +kernel
theorem dL_isSo_113 : decode cL_isSo 113 = .ok (.iconst 1, 1) := by decide +kernel
theorem dL_isSo_114 : decode cL_isSo 114 = .ok (.invokevirtual 98, 3) := by decide +kernel
theorem dL_isSo_117 : decode cL_isSo 117 = .ok (.aload_n 0, 1) := by decide +kernel
theorem dL_isSo_118 : decode cL_isSo 118 = .ok (.iconst 0, 1) := by decide +kernel
theorem dL_isSo_119 : decode cL_isSo 119 = .ok (.invokevirtual 46, 3) := by decide +kernel
theorem dL_isSo_122 : decode cL_isSo 122 = .ok (.if_icmp .lt 23, 3) := by decide +kernel
theorem dL_isSo_125 : decode cL_isSo 125 = .ok (.iload 4, 2) := by decide +kernel
theorem dL_isSo_127 : decode cL_isSo 127 = .ok (.iconst 2, 1) := by decide +kernel
theorem dL_isSo_128 : decode cL_isSo 128 = .ok (.if_icmp .ne 19, 3) := by decide +kernel
theorem dL_isSo_131 : decode cL_isSo 131 = .ok (.aload_n 0, 1) := by decide +kernel
theorem dL_isSo_132 : decode cL_isSo 132 = .ok (.iload_n 3, 1) := by decide +kernel
theorem dL_isSo_133 : decode cL_isSo 133 = .ok (.iconst 1, 1) := by decide +kernel
theorem dL_isSo_134 : decode cL_isSo 134 = .ok (.invokevirtual 98, 3) := by decide +kernel
theorem dL_isSo_137 : decode cL_isSo 137 = .ok (.aload_n 0, 1) := by decide +kernel
theorem dL_isSo_138 : decode cL_isSo 138 = .ok (.iconst 0, 1) := by decide +kernel
theorem dL_isSo_139 : decode cL_isSo 139 = .ok (.invokevirtual 46, 3) := by decide +kernel
theorem dL_isSo_142 : decode cL_isSo 142 = .ok (.if_icmp .lt 5, 3) := by decide +kernel
theorem dL_isSo_145 : decode cL_isSo 145 = .ok (.iconst 0, 1) := by decide +kernel
theorem dL_isSo_146 : decode cL_isSo 146 = .ok (.ireturn, 1) := by decide +kernel
theorem dL_isSo_147 : decode cL_isSo 147 = .ok (.iload 4, 2) := by decide +kernel
theorem dL_isSo_149 : decode cL_isSo 149 = .ok (.iconst 1, 1) := by decide +kernel
theorem dL_isSo_150 : decode cL_isSo 150 = .ok (.if_icmp .eq 12, 3) := by decide +kernel
theorem dL_isSo_153 : decode cL_isSo 153 = .ok (.iload 4, 2) := by decide +kernel
theorem dL_isSo_155 : decode cL_isSo 155 = .ok (.iconst 2, 1) := by decide +kernel
theorem dL_isSo_156 : decode cL_isSo 156 = .ok (.if_icmp .eq 6, 3) := by decide +kernel
theorem dL_isSo_159 : decode cL_isSo 159 = .ok (.goto 181, 3) := by decide +kernel
theorem dL_isSo_162 : decode cL_isSo 162 = .ok (.aload_n 0, 1) := by decide +kernel
theorem dL_isSo_163 : decode cL_isSo 163 = .ok (.iload 6, 2) := by decide +kernel
theorem dL_isSo_165 : decode cL_isSo 165 = .ok (.bipush 6, 2) := by decide +kernel
theorem dL_isSo_167 : decode cL_isSo 167 = .ok (.invokevirtual 109, 3) := by decide +kernel
theorem dL_isSo_170 : decode cL_isSo 170 = .ok (.istore 7, 2) := by decide +kernel
theorem dL_isSo_172 : decode cL_isSo 172 = .ok (.iconst 0, 1) := by decide +kernel
theorem dL_isSo_173 : decode cL_isSo 173 = .ok (.istore 8, 2) := by decide +kernel
theorem dL_isSo_175 : decode cL_isSo 175 = .ok (.iconst 0, 1) := by decide +kernel
theorem dL_isSo_176 : decode cL_isSo 176 = .ok (.istore 9, 2) := by decide +kernel
theorem dL_isSo_178 : decode cL_isSo 178 = .ok (.iload 9, 2) := by decide +kernel
theorem dL_isSo_180 : decode cL_isSo 180 = .ok (.iload_n 1, 1) := by decide +kernel
theorem dL_isSo_181 : decode cL_isSo 181 = .ok (.if_icmp .ge 47, 3) := by decide +kernel
theorem dL_isSo_184 : decode cL_isSo 184 = .ok (.iload 8, 2) := by decide +kernel
theorem dL_isSo_186 : decode cL_isSo 186 = .ok (.iload 5, 2) := by decide +kernel
theorem dL_isSo_188 : decode cL_isSo 188 = .ok (.iload 9, 2) := by decide +kernel
theorem dL_isSo_190 : decode cL_isSo 190 = .ok (.ishr, 1) := by decide +kernel
theorem dL_isSo_191 : decode cL_isSo 191 = .ok (.iconst 1, 1) := by decide +kernel
theorem dL_isSo_192 : decode cL_isSo 192 = .ok (.iand, 1) := by decide +kernel
theorem dL_isSo_193 : decode cL_isSo 193 = .ok (.iconst 1, 1) := by decide +kernel
theorem dL_isSo_194 : decode cL_isSo 194 = .ok (.if_icmp .ne 24, 3) := by decide +kernel
theorem dL_isSo_197 : decode cL_isSo 197 = .ok (.aload_n 0, 1) := by decide +kernel
theorem dL_isSo_198 : decode cL_isSo 198 = .ok (.iload 9, 2) := by decide +kernel
theorem dL_isSo_200 : decode cL_isSo 200 = .ok (.iconst 0, 1) := by decide +kernel
theorem dL_isSo_201 : decode cL_isSo 201 = .ok (.invokevirtual 112, 3) := by decide +kernel
theorem dL_isSo_204 : decode cL_isSo 204 = .ok (.aload_n 0, 1) := by decide +kernel
theorem dL_isSo_205 : decode cL_isSo 205 = .ok (.iload 6, 2) := by decide +kernel
theorem dL_isSo_207 : decode cL_isSo 207 = .ok (.invokestatic 115, 3) := by decide +kernel
theorem dL_isSo_210 : decode cL_isSo 210 = .ok (.iand, 1) := by decide +kernel
theorem dL_isSo_211 : decode cL_isSo 211 = .ok (.ifCond .ne 7, 3) := by decide +kernel
theorem dL_isSo_214 : decode cL_isSo 214 = .ok (.iconst 1, 1) := by decide +kernel
theorem dL_isSo_215 : decode cL_isSo 215 = .ok (.goto 4, 3) := by decide +kernel
theorem dL_isSo_218 : decode cL_isSo 218 = .ok (.iconst 0, 1) := by decide +kernel
theorem dL_isSo_219 : decode cL_isSo 219 = .ok (.iadd, 1) := by decide +kernel
theorem dL_isSo_220 : decode cL_isSo 220 = .ok (.istore 8, 2) := by decide +kernel
theorem dL_isSo_222 : decode cL_isSo 222 = .ok (.iinc 9 1, 3) := by decide +kernel
theorem dL_isSo_225 : decode cL_isSo 225 = .ok (.goto (-47), 3) := by decide +kernel
theorem dL_isSo_228 : decode cL_isSo 228 = .ok (.iload 5, 2) := by decide +kernel
theorem dL_isSo_230 : decode cL_isSo 230 = .ok (.invokestatic 119, 3) := by decide +kernel
theorem dL_isSo_233 : decode cL_isSo 233 = .ok (.iload 7, 2) := by decide +kernel
theorem dL_isSo_235 : decode cL_isSo 235 = .ok (.if_icmp .ne 40, 3) := by decide +kernel
theorem dL_isSo_238 : decode cL_isSo 238 = .ok (.iload 5, 2) := by decide +kernel
theorem dL_isSo_240 : decode cL_isSo 240 = .ok (.iconst 1, 1) := by decide +kernel
theorem dL_isSo_241 : decode cL_isSo 241 = .ok (.iload_n 1, 1) := by decide +kernel
theorem dL_isSo_242 : decode cL_isSo 242 = .ok (.ishl, 1) := by decide +kernel
theorem dL_isSo_243 : decode cL_isSo 243 = .ok (.if_icmp .ge 32, 3) := by decide +kernel
theorem dL_isSo_246 : decode cL_isSo 246 = .ok (.iload 8, 2) := by decide +kernel
theorem dL_isSo_248 : decode cL_isSo 248 = .ok (.ifCond .gt 27, 3) := by decide +kernel
theorem dL_isSo_251 : decode cL_isSo 251 = .ok (.aload_n 0, 1) := by decide +kernel
theorem dL_isSo_252 : decode cL_isSo 252 = .ok (.iload_n 3, 1) := by decide +kernel
theorem dL_isSo_253 : decode cL_isSo 253 = .ok (.bipush 8, 2) := by decide +kernel
theorem dL_isSo_255 : decode cL_isSo 255 = .ok (.invokevirtual 98, 3) := by decide +kernel
theorem dL_isSo_258 : decode cL_isSo 258 = .ok (.bipush 50, 2) := by decide +kernel
theorem dL_isSo_260 : decode cL_isSo 260 = .ok (.if_icmp .lt 15, 3) := by decide +kernel
theorem dL_isSo_263 : decode cL_isSo 263 = .ok (.aload_n 0, 1) := by decide +kernel
theorem dL_isSo_264 : decode cL_isSo 264 = .ok (.iload_n 3, 1) := by decide +kernel
theorem dL_isSo_265 : decode cL_isSo 265 = .ok (.bipush 12, 2) := by decide +kernel
theorem dL_isSo_267 : decode cL_isSo 267 = .ok (.invokevirtual 98, 3) := by decide +kernel
theorem dL_isSo_270 : decode cL_isSo 270 = .ok (.bipush 16, 2) := by decide +kernel
theorem dL_isSo_272 : decode cL_isSo 272 = .ok (.if_icmp .le 5, 3) := by decide +kernel
theorem dL_isSo_275 : decode cL_isSo 275 = .ok (.iconst 0, 1) := by decide +kernel
theorem dL_isSo_276 : decode cL_isSo 276 = .ok (.ireturn, 1) := by decide +kernel
theorem dL_isSo_277 : decode cL_isSo 277 = .ok (.iconst 0, 1) := by decide +kernel
theorem dL_isSo_278 : decode cL_isSo 278 = .ok (.istore 9, 2) := by decide +kernel
theorem dL_isSo_280 : decode cL_isSo 280 = .ok (.iload 9, 2) := by decide +kernel
theorem dL_isSo_282 : decode cL_isSo 282 = .ok (.iload_n 3, 1) := by decide +kernel
theorem dL_isSo_283 : decode cL_isSo 283 = .ok (.if_icmp .ge 57, 3) := by decide +kernel
theorem dL_isSo_286 : decode cL_isSo 286 = .ok (.iload 4, 2) := by decide +kernel
theorem dL_isSo_288 : decode cL_isSo 288 = .ok (.iconst 1, 1) := by decide +kernel
theorem dL_isSo_289 : decode cL_isSo 289 = .ok (.if_icmp .ne 45, 3) := by decide +kernel
theorem dL_isSo_292 : decode cL_isSo 292 = .ok (.aload_n 0, 1) := by decide +kernel
theorem dL_isSo_293 : decode cL_isSo 293 = .ok (.iload 9, 2) := by decide +kernel
theorem dL_isSo_295 : decode cL_isSo 295 = .ok (.bipush 6, 2) := by decide +kernel
theorem dL_isSo_297 : decode cL_isSo 297 = .ok (.invokevirtual 98, 3) := by decide +kernel
theorem dL_isSo_300 : decode cL_isSo 300 = .ok (.iconst 1, 1) := by decide +kernel
theorem dL_isSo_301 : decode cL_isSo 301 = .ok (.if_icmp .ne 33, 3) := by decide +kernel
theorem dL_isSo_304 : decode cL_isSo 304 = .ok (.aload_n 0, 1) := by decide +kernel
theorem dL_isSo_305 : decode cL_isSo 305 = .ok (.iload 9, 2) := by decide +kernel
theorem dL_isSo_307 : decode cL_isSo 307 = .ok (.iconst 1, 1) := by decide +kernel
theorem dL_isSo_308 : decode cL_isSo 308 = .ok (.invokevirtual 98, 3) := by decide +kernel
theorem dL_isSo_311 : decode cL_isSo 311 = .ok (.aload_n 0, 1) := by decide +kernel
theorem dL_isSo_312 : decode cL_isSo 312 = .ok (.iload_n 3, 1) := by decide +kernel
theorem dL_isSo_313 : decode cL_isSo 313 = .ok (.iconst 1, 1) := by decide +kernel
theorem dL_isSo_314 : decode cL_isSo 314 = .ok (.invokevirtual 98, 3) := by decide +kernel
theorem dL_isSo_317 : decode cL_isSo 317 = .ok (.if_icmp .ne 17, 3) := by decide +kernel
theorem dL_isSo_320 : decode cL_isSo 320 = .ok (.aload_n 0, 1) := by decide +kernel
theorem dL_isSo_321 : decode cL_isSo 321 = .ok (.iload 9, 2) := by decide +kernel
theorem dL_isSo_323 : decode cL_isSo 323 = .ok (.iconst 0, 1) := by decide +kernel
theorem dL_isSo_324 : decode cL_isSo 324 = .ok (.invokevirtual 98, 3) := by decide +kernel
theorem dL_isSo_327 : decode cL_isSo 327 = .ok (.iload 6, 2) := by decide +kernel
theorem dL_isSo_329 : decode cL_isSo 329 = .ok (.if_icmp .ne 5, 3) := by decide +kernel
theorem dL_isSo_332 : decode cL_isSo 332 = .ok (.iconst 0, 1) := by decide +kernel
theorem dL_isSo_333 : decode cL_isSo 333 = .ok (.ireturn, 1) := by decide +kernel
theorem dL_isSo_334 : decode cL_isSo 334 = .ok (.iinc 9 1, 3) := by decide +kernel
theorem dL_isSo_337 : decode cL_isSo 337 = .ok (.goto (-57), 3) := by decide +kernel
theorem dL_isSo_340 : decode cL_isSo 340 = .ok (.iinc 3 1, 3) := by decide +kernel
theorem dL_isSo_343 : decode cL_isSo 343 = .ok (.goto (-333), 3) := by decide +kernel
theorem dL_isSo_346 : decode cL_isSo 346 = .ok (.iconst 0, 1) := by decide +kernel
theorem dL_isSo_347 : decode cL_isSo 347 = .ok (.istore_n 3, 1) := by decide +kernel
theorem dL_isSo_348 : decode cL_isSo 348 = .ok (.iconst 0, 1) := by decide +kernel
theorem dL_isSo_349 : decode cL_isSo 349 = .ok (.istore 4, 2) := by decide +kernel
theorem dL_isSo_351 : decode cL_isSo 351 = .ok (.iconst 0, 1) := by decide +kernel
theorem dL_isSo_352 : decode cL_isSo 352 = .ok (.istore 5, 2) := by decide +kernel
theorem dL_isSo_354 : decode cL_isSo 354 = .ok (.iload 5, 2) := by decide +kernel
theorem dL_isSo_356 : decode cL_isSo 356 = .ok (.iload_n 1, 1) := by decide +kernel
theorem dL_isSo_357 : decode cL_isSo 357 = .ok (.if_icmp .ge 91, 3) := by decide +kernel
theorem dL_isSo_360 : decode cL_isSo 360 = .ok (.iload_n 3, 1) := by decide +kernel
theorem dL_isSo_361 : decode cL_isSo 361 = .ok (.aload_n 0, 1) := by decide +kernel
theorem dL_isSo_362 : decode cL_isSo 362 = .ok (.iload 5, 2) := by decide +kernel
theorem dL_isSo_364 : decode cL_isSo 364 = .ok (.iconst 5, 1) := by decide +kernel
theorem dL_isSo_365 : decode cL_isSo 365 = .ok (.invokevirtual 112, 3) := by decide +kernel
theorem dL_isSo_368 : decode cL_isSo 368 = .ok (.iadd, 1) := by decide +kernel
theorem dL_isSo_369 : decode cL_isSo 369 = .ok (.istore_n 3, 1) := by decide +kernel
theorem dL_isSo_370 : decode cL_isSo 370 = .ok (.iload 4, 2) := by decide +kernel
theorem dL_isSo_372 : decode cL_isSo 372 = .ok (.aload_n 0, 1) := by decide +kernel
theorem dL_isSo_373 : decode cL_isSo 373 = .ok (.iload 5, 2) := by decide +kernel
theorem dL_isSo_375 : decode cL_isSo 375 = .ok (.bipush 6, 2) := by decide +kernel
theorem dL_isSo_377 : decode cL_isSo 377 = .ok (.invokevirtual 112, 3) := by decide +kernel
theorem dL_isSo_380 : decode cL_isSo 380 = .ok (.iadd, 1) := by decide +kernel
theorem dL_isSo_381 : decode cL_isSo 381 = .ok (.istore 4, 2) := by decide +kernel
theorem dL_isSo_383 : decode cL_isSo 383 = .ok (.aload_n 0, 1) := by decide +kernel
theorem dL_isSo_384 : decode cL_isSo 384 = .ok (.iload 5, 2) := by decide +kernel
theorem dL_isSo_386 : decode cL_isSo 386 = .ok (.bipush 8, 2) := by decide +kernel
theorem dL_isSo_388 : decode cL_isSo 388 = .ok (.invokevirtual 112, 3) := by decide +kernel
theorem dL_isSo_391 : decode cL_isSo 391 = .ok (.aload_n 0, 1) := by decide +kernel
theorem dL_isSo_392 : decode cL_isSo 392 = .ok (.iload 5, 2) := by decide +kernel
theorem dL_isSo_394 : decode cL_isSo 394 = .ok (.bipush 7, 2) := by decide +kernel
theorem dL_isSo_396 : decode cL_isSo 396 = .ok (.invokevirtual 112, 3) := by decide +kernel
theorem dL_isSo_399 : decode cL_isSo 399 = .ok (.if_icmp .lt 41, 3) := by decide +kernel
theorem dL_isSo_402 : decode cL_isSo 402 = .ok (.aload_n 0, 1) := by decide +kernel
theorem dL_isSo_403 : decode cL_isSo 403 = .ok (.iload 5, 2) := by decide +kernel
theorem dL_isSo_405 : decode cL_isSo 405 = .ok (.bipush 8, 2) := by decide +kernel
theorem dL_isSo_407 : decode cL_isSo 407 = .ok (.invokevirtual 112, 3) := by decide +kernel
theorem dL_isSo_410 : decode cL_isSo 410 = .ok (.bipush 6, 2) := by decide +kernel
theorem dL_isSo_412 : decode cL_isSo 412 = .ok (.aload_n 0, 1) := by decide +kernel
theorem dL_isSo_413 : decode cL_isSo 413 = .ok (.iload 5, 2) := by decide +kernel
theorem dL_isSo_415 : decode cL_isSo 415 = .ok (.bipush 7, 2) := by decide +kernel
theorem dL_isSo_417 : decode cL_isSo 417 = .ok (.invokevirtual 112, 3) := by decide +kernel
theorem dL_isSo_420 : decode cL_isSo 420 = .ok (.imul, 1) := by decide +kernel
theorem dL_isSo_421 : decode cL_isSo 421 = .ok (.if_icmp .gt 19, 3) := by decide +kernel
theorem dL_isSo_424 : decode cL_isSo 424 = .ok (.aload_n 0, 1) := by decide +kernel
theorem dL_isSo_425 : decode cL_isSo 425 = .ok (.iload 5, 2) := by decide +kernel
theorem dL_isSo_427 : decode cL_isSo 427 = .ok (.iconst 4, 1) := by decide +kernel
theorem dL_isSo_428 : decode cL_isSo 428 = .ok (.invokevirtual 112, 3) := by decide +kernel
theorem dL_isSo_431 : decode cL_isSo 431 = .ok (.iload 5, 2) := by decide +kernel
theorem dL_isSo_433 : decode cL_isSo 433 = .ok (.ishr, 1) := by decide +kernel
theorem dL_isSo_434 : decode cL_isSo 434 = .ok (.iconst 1, 1) := by decide +kernel
theorem dL_isSo_435 : decode cL_isSo 435 = .ok (.iand, 1) := by decide +kernel
theorem dL_isSo_436 : decode cL_isSo 436 = .ok (.iconst 1, 1) := by decide +kernel
theorem dL_isSo_437 : decode cL_isSo 437 = .ok (.if_icmp .ne 5, 3) := by decide +kernel
theorem dL_isSo_440 : decode cL_isSo 440 = .ok (.iconst 0, 1) := by decide +kernel
theorem dL_isSo_441 : decode cL_isSo 441 = .ok (.ireturn, 1) := by decide +kernel
theorem dL_isSo_442 : decode cL_isSo 442 = .ok (.iinc 5 1, 3) := by decide +kernel
theorem dL_isSo_445 : decode cL_isSo 445 = .ok (.goto (-91), 3) := by decide +kernel
theorem dL_isSo_448 : decode cL_isSo 448 = .ok (.iconst 0, 1) := by decide +kernel
theorem dL_isSo_449 : decode cL_isSo 449 = .ok (.istore 5, 2) := by decide +kernel
theorem dL_isSo_451 : decode cL_isSo 451 = .ok (.iconst 0, 1) := by decide +kernel
theorem dL_isSo_452 : decode cL_isSo 452 = .ok (.istore 6, 2) := by decide +kernel
theorem dL_isSo_454 : decode cL_isSo 454 = .ok (.iload 6, 2) := by decide +kernel
theorem dL_isSo_456 : decode cL_isSo 456 = .ok (.bipush 16, 2) := by decide +kernel
theorem dL_isSo_458 : decode cL_isSo 458 = .ok (.if_icmp .ge 21, 3) := by decide +kernel
theorem dL_isSo_461 : decode cL_isSo 461 = .ok (.iload 5, 2) := by decide +kernel
theorem dL_isSo_463 : decode cL_isSo 463 = .ok (.aload_n 0, 1) := by decide +kernel
theorem dL_isSo_464 : decode cL_isSo 464 = .ok (.iload 6, 2) := by decide +kernel
theorem dL_isSo_466 : decode cL_isSo 466 = .ok (.iconst 4, 1) := by decide +kernel
theorem dL_isSo_467 : decode cL_isSo 467 = .ok (.invokevirtual 95, 3) := by decide +kernel
theorem dL_isSo_470 : decode cL_isSo 470 = .ok (.iadd, 1) := by decide +kernel
theorem dL_isSo_471 : decode cL_isSo 471 = .ok (.istore 5, 2) := by decide +kernel
theorem dL_isSo_473 : decode cL_isSo 473 = .ok (.iinc 6 1, 3) := by decide +kernel
theorem dL_isSo_476 : decode cL_isSo 476 = .ok (.goto (-22), 3) := by decide +kernel
theorem dL_isSo_479 : decode cL_isSo 479 = .ok (.aload_n 0, 1) := by decide +kernel
theorem dL_isSo_480 : decode cL_isSo 480 = .ok (.bipush 8, 2) := by decide +kernel
theorem dL_isSo_482 : decode cL_isSo 482 = .ok (.invokevirtual 46, 3) := by decide +kernel
theorem dL_isSo_485 : decode cL_isSo 485 = .ok (.iload_n 2, 1) := by decide +kernel
theorem dL_isSo_486 : decode cL_isSo 486 = .ok (.iload_n 3, 1) := by decide +kernel
theorem dL_isSo_487 : decode cL_isSo 487 = .ok (.isub, 1) := by decide +kernel
theorem dL_isSo_488 : decode cL_isSo 488 = .ok (.if_icmp .ne 35, 3) := by decide +kernel
theorem dL_isSo_491 : decode cL_isSo 491 = .ok (.aload_n 0, 1) := by decide +kernel
theorem dL_isSo_492 : decode cL_isSo 492 = .ok (.bipush 10, 2) := by decide +kernel
theorem dL_isSo_494 : decode cL_isSo 494 = .ok (.invokevirtual 46, 3) := by decide +kernel
theorem dL_isSo_497 : decode cL_isSo 497 = .ok (.iload_n 3, 1) := by decide +kernel
theorem dL_isSo_498 : decode cL_isSo 498 = .ok (.if_icmp .ne 25, 3) := by decide +kernel
theorem dL_isSo_501 : decode cL_isSo 501 = .ok (.iload 4, 2) := by decide +kernel
theorem dL_isSo_503 : decode cL_isSo 503 = .ok (.aload_n 0, 1) := by decide +kernel
theorem dL_isSo_504 : decode cL_isSo 504 = .ok (.iconst 5, 1) := by decide +kernel
theorem dL_isSo_505 : decode cL_isSo 505 = .ok (.invokevirtual 46, 3) := by decide +kernel
theorem dL_isSo_508 : decode cL_isSo 508 = .ok (.if_icmp .lt 15, 3) := by decide +kernel
theorem dL_isSo_511 : decode cL_isSo 511 = .ok (.iload 5, 2) := by decide +kernel
theorem dL_isSo_513 : decode cL_isSo 513 = .ok (.sipush 1000, 3) := by decide +kernel
theorem dL_isSo_516 : decode cL_isSo 516 = .ok (.if_icmp .gt 7, 3) := by decide +kernel
theorem dL_isSo_519 : decode cL_isSo 519 = .ok (.iconst 1, 1) := by decide +kernel
theorem dL_isSo_520 : decode cL_isSo 520 = .ok (.goto 4, 3) := by decide +kernel
theorem dL_isSo_523 : decode cL_isSo 523 = .ok (.iconst 0, 1) := by decide +kernel
theorem dL_isSo_524 : decode cL_isSo 524 = .ok (.ireturn, 1) := by decide +kernel
set_option maxRecDepth 20000 in
theorem ggL_instruments_X7_ofBand : GoodIn wsL_instruments wsX7_ofBand := goodIn_ca (goodIn_ca (goodIn_r _ [5, 6, 7, 8, 9, 10, 11, 12, 13, 4, 14, 15, 16, 17, 18, 19, 20, 21, 22, 23, 24, 25, 26, 27, 28, 29, 30, 31, 32, 33, 34, 35, 36, 37, 38, 39, 40, 41, 42, 43, 44, 45, 46, 47, 48, 49, 50, 51, 52, 53, 54, 55] (by decide +kernel) (by decide +kernel)) (goodIn_sub (fun _ h => List.mem_cons_of_mem _ (List.mem_append_left _ (List.mem_append_right _ h))) (by decide +kernel))) (goodIn_sub (fun _ h => List.mem_cons_of_mem _ (List.mem_append_right _ h)) (by decide +kernel))
set_option maxRecDepth 20000 in
theorem gL_instruments_X7_ofBand : GoodIn wsL_instruments (wsV RL 109 RX7 yX7_ofBand wsX7_ofBand) := goodIn_app (goodIn_of _ (by decide +kernel)) ggL_instruments_X7_ofBand
theorem dL_instruments_0 : decode cL_instruments 0 = .ok (.iconst 0, 1) := by decide +kernel
theorem dL_instruments_1 : decode cL_instruments 1 = .ok (.istore_n 2, 1) := by decide +kernel
theorem dL_instruments_2 : decode cL_instruments 2 = .ok (.iconst 0, 1) := by decide +kernel
theorem dL_instruments_3 : decode cL_instruments 3 = .ok (.istore_n 3, 1) := by decide +kernel
theorem dL_instruments_4 : decode cL_instruments 4 = .ok (.iload_n 3, 1) := by decide +kernel
theorem dL_instruments_5 : decode cL_instruments 5 = .ok (.bipush 6, 2) := by decide +kernel
theorem dL_instruments_7 : decode cL_instruments 7 = .ok (.if_icmp .ge 28, 3) := by decide +kernel
theorem dL_instruments_10 : decode cL_instruments 10 = .ok (.iload_n 2, 1) := by decide +kernel
theorem dL_instruments_11 : decode cL_instruments 11 = .ok (.aload_n 0, 1) := by decide +kernel
theorem dL_instruments_12 : decode cL_instruments 12 = .ok (.iload_n 1, 1) := by decide +kernel
theorem dL_instruments_13 : decode cL_instruments 13 = .ok (.iload_n 3, 1) := by decide +kernel
theorem dL_instruments_14 : decode cL_instruments 14 = .ok (.invokevirtual 109, 3) := by decide +kernel
theorem dL_instruments_17 : decode cL_instruments 17 = .ok (.ifCond .le 9, 3) := by decide +kernel
theorem dL_instruments_20 : decode cL_instruments 20 = .ok (.iconst 1, 1) := by decide +kernel
theorem dL_instruments_21 : decode cL_instruments 21 = .ok (.iload_n 3, 1) := by decide +kernel
theorem dL_instruments_22 : decode cL_instruments 22 = .ok (.ishl, 1) := by decide +kernel
theorem dL_instruments_23 : decode cL_instruments 23 = .ok (.goto 4, 3) := by decide +kernel
theorem dL_instruments_26 : decode cL_instruments 26 = .ok (.iconst 0, 1) := by decide +kernel
theorem dL_instruments_27 : decode cL_instruments 27 = .ok (.ior, 1) := by decide +kernel
theorem dL_instruments_28 : decode cL_instruments 28 = .ok (.istore_n 2, 1) := by decide +kernel
theorem dL_instruments_29 : decode cL_instruments 29 = .ok (.iinc 3 1, 3) := by decide +kernel
theorem dL_instruments_32 : decode cL_instruments 32 = .ok (.goto (-28), 3) := by decide +kernel
theorem dL_instruments_35 : decode cL_instruments 35 = .ok (.iload_n 2, 1) := by decide +kernel
theorem dL_instruments_36 : decode cL_instruments 36 = .ok (.ireturn, 1) := by decide +kernel
