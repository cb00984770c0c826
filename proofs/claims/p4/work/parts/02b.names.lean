theorem dX0_init_0 : decode cX0_init 0 = .ok (.aload_n 0, 1) := by decide +kernel
theorem dX0_init_1 : decode cX0_init 1 = .ok (.invokespecial 3, 3) := by decide +kernel
theorem dX0_init_4 : decode cX0_init 4 = .ok (.aload_n 0, 1) := by decide +kernel
theorem dX0_init_5 : decode cX0_init 5 = .ok (.bipush 6, 2) := by decide +kernel
theorem dX0_init_7 : decode cX0_init 7 = .ok (.newarray .int, 2) := by decide +kernel
theorem dX0_init_9 : decode cX0_init 9 = .ok (.putfield 9, 3) := by decide +kernel
theorem dX0_init_12 : decode cX0_init 12 = .ok (.aload_n 0, 1) := by decide +kernel
theorem dX0_init_13 : decode cX0_init 13 = .ok (.iconst 5, 1) := by decide +kernel
theorem dX0_init_14 : decode cX0_init 14 = .ok (.newarray .int, 2) := by decide +kernel
theorem dX0_init_16 : decode cX0_init 16 = .ok (.putfield 15, 3) := by decide +kernel
theorem dX0_init_19 : decode cX0_init 19 = .ok (.aload_n 0, 1) := by decide +kernel
theorem dX0_init_20 : decode cX0_init 20 = .ok (.iconst 0, 1) := by decide +kernel
theorem dX0_init_21 : decode cX0_init 21 = .ok (.putfield 18, 3) := by decide +kernel
theorem dX0_init_24 : decode cX0_init 24 = .ok (.return_, 1) := by decide +kernel
theorem dX0_take_0 : decode cX0_take 0 = .ok (.iload_n 1, 1) := by decide +kernel
theorem dX0_take_1 : decode cX0_take 1 = .ok (.istore_n 2, 1) := by decide +kernel
theorem dX0_take_2 : decode cX0_take 2 = .ok (.iconst 0, 1) := by decide +kernel
theorem dX0_take_3 : decode cX0_take 3 = .ok (.istore_n 3, 1) := by decide +kernel
theorem dX0_take_4 : decode cX0_take 4 = .ok (.iload_n 3, 1) := by decide +kernel
theorem dX0_take_5 : decode cX0_take 5 = .ok (.bipush 6, 2) := by decide +kernel
theorem dX0_take_7 : decode cX0_take 7 = .ok (.if_icmp .ge 70, 3) := by decide +kernel
theorem dX0_take_10 : decode cX0_take 10 = .ok (.aload_n 0, 1) := by decide +kernel
theorem dX0_take_11 : decode cX0_take 11 = .ok (.getfield 9, 3) := by decide +kernel
theorem dX0_take_14 : decode cX0_take 14 = .ok (.iload_n 3, 1) := by decide +kernel
theorem dX0_take_15 : decode cX0_take 15 = .ok (.iload_n 2, 1) := by decide +kernel
theorem dX0_take_16 : decode cX0_take 16 = .ok (.iconst 3, 1) := by decide +kernel
theorem dX0_take_17 : decode cX0_take 17 = .ok (.irem, 1) := by decide +kernel
theorem dX0_take_18 : decode cX0_take 18 = .ok (.iastore, 1) := by decide +kernel
theorem dX0_take_19 : decode cX0_take 19 = .ok (.iload_n 2, 1) := by decide +kernel
theorem dX0_take_20 : decode cX0_take 20 = .ok (.iconst 3, 1) := by decide +kernel
theorem dX0_take_21 : decode cX0_take 21 = .ok (.idiv, 1) := by decide +kernel
theorem dX0_take_22 : decode cX0_take 22 = .ok (.istore_n 2, 1) := by decide +kernel
theorem dX0_take_23 : decode cX0_take 23 = .ok (.iconst 0, 1) := by decide +kernel
theorem dX0_take_24 : decode cX0_take 24 = .ok (.istore 4, 2) := by decide +kernel
theorem dX0_take_26 : decode cX0_take 26 = .ok (.iload 4, 2) := by decide +kernel
theorem dX0_take_28 : decode cX0_take 28 = .ok (.aload_n 0, 1) := by decide +kernel
theorem dX0_take_29 : decode cX0_take 29 = .ok (.getfield 9, 3) := by decide +kernel
theorem dX0_take_32 : decode cX0_take 32 = .ok (.iload_n 3, 1) := by decide +kernel
theorem dX0_take_33 : decode cX0_take 33 = .ok (.iaload, 1) := by decide +kernel
theorem dX0_take_34 : decode cX0_take 34 = .ok (.if_icmp .ge 37, 3) := by decide +kernel
theorem dX0_take_37 : decode cX0_take 37 = .ok (.aload_n 0, 1) := by decide +kernel
theorem dX0_take_38 : decode cX0_take 38 = .ok (.getfield 18, 3) := by decide +kernel
theorem dX0_take_41 : decode cX0_take 41 = .ok (.iconst 5, 1) := by decide +kernel
theorem dX0_take_42 : decode cX0_take 42 = .ok (.if_icmp .ge 29, 3) := by decide +kernel
theorem dX0_take_45 : decode cX0_take 45 = .ok (.aload_n 0, 1) := by decide +kernel
theorem dX0_take_46 : decode cX0_take 46 = .ok (.getfield 15, 3) := by decide +kernel
theorem dX0_take_49 : decode cX0_take 49 = .ok (.aload_n 0, 1) := by decide +kernel
theorem dX0_take_50 : decode cX0_take 50 = .ok (.getfield 18, 3) := by decide +kernel
theorem dX0_take_53 : decode cX0_take 53 = .ok (.iload_n 3, 1) := by decide +kernel
theorem dX0_take_54 : decode cX0_take 54 = .ok (.iastore, 1) := by decide +kernel
theorem dX0_take_55 : decode cX0_take 55 = .ok (.aload_n 0, 1) := by decide +kernel
theorem dX0_take_56 : decode cX0_take 56 = .ok (.dup, 1) := by decide +kernel
theorem dX0_take_57 : decode cX0_take 57 = .ok (.getfield 18, 3) := by decide +kernel
theorem dX0_take_60 : decode cX0_take 60 = .ok (.iconst 1, 1) := by decide +kernel
theorem dX0_take_61 : decode cX0_take 61 = .ok (.iadd, 1) := by decide +kernel
theorem dX0_take_62 : decode cX0_take 62 = .ok (.putfield 18, 3) := by decide +kernel
theorem dX0_take_65 : decode cX0_take 65 = .ok (.iinc 4 1, 3) := by decide +kernel
theorem dX0_take_68 : decode cX0_take 68 = .ok (.goto (-42), 3) := by decide +kernel
theorem dX0_take_71 : decode cX0_take 71 = .ok (.iinc 3 1, 3) := by decide +kernel
theorem dX0_take_74 : decode cX0_take 74 = .ok (.goto (-70), 3) := by decide +kernel
theorem dX0_take_77 : decode cX0_take 77 = .ok (.return_, 1) := by decide +kernel
theorem dX1_init_0 : decode cX1_init 0 = .ok (.aload_n 0, 1) := by decide +kernel
theorem dX1_init_1 : decode cX1_init 1 = .ok (.invokespecial 3, 3) := by decide +kernel
theorem dX1_init_4 : decode cX1_init 4 = .ok (.aload_n 0, 1) := by decide +kernel
theorem dX1_init_5 : decode cX1_init 5 = .ok (.bipush 16, 2) := by decide +kernel
theorem dX1_init_7 : decode cX1_init 7 = .ok (.newarray .int, 2) := by decide +kernel
theorem dX1_init_9 : decode cX1_init 9 = .ok (.putfield 9, 3) := by decide +kernel
theorem dX1_init_12 : decode cX1_init 12 = .ok (.aload_n 0, 1) := by decide +kernel
theorem dX1_init_13 : decode cX1_init 13 = .ok (.iconst 0, 1) := by decide +kernel
theorem dX1_init_14 : decode cX1_init 14 = .ok (.putfield 15, 3) := by decide +kernel
theorem dX1_init_17 : decode cX1_init 17 = .ok (.aload_n 0, 1) := by decide +kernel
theorem dX1_init_18 : decode cX1_init 18 = .ok (.iconst 0, 1) := by decide +kernel
theorem dX1_init_19 : decode cX1_init 19 = .ok (.putfield 19, 3) := by decide +kernel
theorem dX1_init_22 : decode cX1_init 22 = .ok (.aload_n 0, 1) := by decide +kernel
theorem dX1_init_23 : decode cX1_init 23 = .ok (.bipush 16, 2) := by decide +kernel
theorem dX1_init_25 : decode cX1_init 25 = .ok (.newarray .int, 2) := by decide +kernel
theorem dX1_init_27 : decode cX1_init 27 = .ok (.putfield 22, 3) := by decide +kernel
theorem dX1_init_30 : decode cX1_init 30 = .ok (.aload_n 0, 1) := by decide +kernel
theorem dX1_init_31 : decode cX1_init 31 = .ok (.bipush 16, 2) := by decide +kernel
theorem dX1_init_33 : decode cX1_init 33 = .ok (.newarray .int, 2) := by decide +kernel
theorem dX1_init_35 : decode cX1_init 35 = .ok (.putfield 25, 3) := by decide +kernel
theorem dX1_init_38 : decode cX1_init 38 = .ok (.aload_n 0, 1) := by decide +kernel
theorem dX1_init_39 : decode cX1_init 39 = .ok (.bipush 16, 2) := by decide +kernel
theorem dX1_init_41 : decode cX1_init 41 = .ok (.newarray .int, 2) := by decide +kernel
theorem dX1_init_43 : decode cX1_init 43 = .ok (.putfield 28, 3) := by decide +kernel
theorem dX1_init_46 : decode cX1_init 46 = .ok (.aload_n 0, 1) := by decide +kernel
theorem dX1_init_47 : decode cX1_init 47 = .ok (.iconst 0, 1) := by decide +kernel
theorem dX1_init_48 : decode cX1_init 48 = .ok (.putfield 31, 3) := by decide +kernel
theorem dX1_init_51 : decode cX1_init 51 = .ok (.return_, 1) := by decide +kernel
set_option maxRecDepth 20000 in
theorem ggX1_choose_X1_sort : GoodIn wsX1_choose wsX1_sort := goodIn_r _ [11, 1, 12, 2, 13, 14, 15, 36, 37, 38, 39, 40, 41, 42, 43, 44, 45, 46] rfl (by decide +kernel)
set_option maxRecDepth 20000 in
theorem gX1_choose_X1_sort : GoodIn wsX1_choose (wsV RX1 34 RX1 yX1_sort wsX1_sort) := goodIn_app (goodIn_of _ (by decide +kernel)) ggX1_choose_X1_sort
set_option maxRecDepth 20000 in
theorem ggX1_choose_X5_fitsBeside : GoodIn wsX1_choose wsX5_fitsBeside := goodIn_r _ [20, 21, 22, 23, 24, 25, 43, 44, 45, 46] rfl (by decide +kernel)
set_option maxRecDepth 20000 in
theorem gX1_choose_X5_fitsBeside : GoodIn wsX1_choose (wsV RX1 38 RX5 yX5_fitsBeside wsX5_fitsBeside) := goodIn_app (goodIn_of _ (by decide +kernel)) ggX1_choose_X5_fitsBeside
set_option maxRecDepth 20000 in
theorem ggX1_choose_X1_betterStart : GoodIn wsX1_choose wsX1_betterStart := goodIn_r _ [29, 4, 2, 36, 37, 38, 39, 40, 41, 42] rfl (by decide +kernel)
set_option maxRecDepth 20000 in
theorem gX1_choose_X1_betterStart : GoodIn wsX1_choose (wsV RX1 44 RX1 yX1_betterStart wsX1_betterStart) := goodIn_app (goodIn_of _ (by decide +kernel)) ggX1_choose_X1_betterStart
set_option maxRecDepth 20000 in
theorem ggX1_choose_X1_follow : GoodIn wsX1_choose wsX1_follow := goodIn_r _ [33, 34, 35, 2, 3, 36, 37, 38, 39, 40, 41, 42] rfl (by decide +kernel)
set_option maxRecDepth 20000 in
theorem gX1_choose_X1_follow : GoodIn wsX1_choose (wsV RX1 49 RX1 yX1_follow wsX1_follow) := goodIn_app (goodIn_of _ (by decide +kernel)) ggX1_choose_X1_follow
theorem dX1_choose_0 : decode cX1_choose 0 = .ok (.aload_n 0, 1) := by decide +kernel
theorem dX1_choose_1 : decode cX1_choose 1 = .ok (.aload_n 1, 1) := by decide +kernel
theorem dX1_choose_2 : decode cX1_choose 2 = .ok (.iload_n 2, 1) := by decide +kernel
theorem dX1_choose_3 : decode cX1_choose 3 = .ok (.invokevirtual 34, 3) := by decide +kernel
theorem dX1_choose_6 : decode cX1_choose 6 = .ok (.aload_n 0, 1) := by decide +kernel
theorem dX1_choose_7 : decode cX1_choose 7 = .ok (.getfield 31, 3) := by decide +kernel
theorem dX1_choose_10 : decode cX1_choose 10 = .ok (.iconst 1, 1) := by decide +kernel
theorem dX1_choose_11 : decode cX1_choose 11 = .ok (.isub, 1) := by decide +kernel
theorem dX1_choose_12 : decode cX1_choose 12 = .ok (.istore_n 3, 1) := by decide +kernel
theorem dX1_choose_13 : decode cX1_choose 13 = .ok (.iload_n 3, 1) := by decide +kernel
theorem dX1_choose_14 : decode cX1_choose 14 = .ok (.ifCond .lt 118, 3) := by decide +kernel
theorem dX1_choose_17 : decode cX1_choose 17 = .ok (.aload_n 1, 1) := by decide +kernel
theorem dX1_choose_18 : decode cX1_choose 18 = .ok (.aload_n 0, 1) := by decide +kernel
theorem dX1_choose_19 : decode cX1_choose 19 = .ok (.getfield 22, 3) := by decide +kernel
theorem dX1_choose_22 : decode cX1_choose 22 = .ok (.iload_n 3, 1) := by decide +kernel
theorem dX1_choose_23 : decode cX1_choose 23 = .ok (.iaload, 1) := by decide +kernel
theorem dX1_choose_24 : decode cX1_choose 24 = .ok (.aaload, 1) := by decide +kernel
theorem dX1_choose_25 : decode cX1_choose 25 = .ok (.astore 4, 2) := by decide +kernel
theorem dX1_choose_27 : decode cX1_choose 27 = .ok (.aload_n 0, 1) := by decide +kernel
theorem dX1_choose_28 : decode cX1_choose 28 = .ok (.getfield 28, 3) := by decide +kernel
theorem dX1_choose_31 : decode cX1_choose 31 = .ok (.iload_n 3, 1) := by decide +kernel
theorem dX1_choose_32 : decode cX1_choose 32 = .ok (.iconst (-1), 1) := by decide +kernel
theorem dX1_choose_33 : decode cX1_choose 33 = .ok (.iastore, 1) := by decide +kernel
theorem dX1_choose_34 : decode cX1_choose 34 = .ok (.iload_n 3, 1) := by decide +kernel
theorem dX1_choose_35 : decode cX1_choose 35 = .ok (.iconst 1, 1) := by decide +kernel
theorem dX1_choose_36 : decode cX1_choose 36 = .ok (.iadd, 1) := by decide +kernel
theorem dX1_choose_37 : decode cX1_choose 37 = .ok (.istore 5, 2) := by decide +kernel
theorem dX1_choose_39 : decode cX1_choose 39 = .ok (.iload 5, 2) := by decide +kernel
theorem dX1_choose_41 : decode cX1_choose 41 = .ok (.aload_n 0, 1) := by decide +kernel
theorem dX1_choose_42 : decode cX1_choose 42 = .ok (.getfield 31, 3) := by decide +kernel
theorem dX1_choose_45 : decode cX1_choose 45 = .ok (.if_icmp .ge 44, 3) := by decide +kernel
theorem dX1_choose_48 : decode cX1_choose 48 = .ok (.aload 4, 2) := by decide +kernel
theorem dX1_choose_50 : decode cX1_choose 50 = .ok (.aload_n 1, 1) := by decide +kernel
theorem dX1_choose_51 : decode cX1_choose 51 = .ok (.aload_n 0, 1) := by decide +kernel
theorem dX1_choose_52 : decode cX1_choose 52 = .ok (.getfield 22, 3) := by decide +kernel
theorem dX1_choose_55 : decode cX1_choose 55 = .ok (.iload 5, 2) := by decide +kernel
theorem dX1_choose_57 : decode cX1_choose 57 = .ok (.iaload, 1) := by decide +kernel
theorem dX1_choose_58 : decode cX1_choose 58 = .ok (.aaload, 1) := by decide +kernel
theorem dX1_choose_59 : decode cX1_choose 59 = .ok (.invokevirtual 38, 3) := by decide +kernel
theorem dX1_choose_62 : decode cX1_choose 62 = .ok (.ifCond .eq 21, 3) := by decide +kernel
theorem dX1_choose_65 : decode cX1_choose 65 = .ok (.aload_n 0, 1) := by decide +kernel
theorem dX1_choose_66 : decode cX1_choose 66 = .ok (.getfield 28, 3) := by decide +kernel
theorem dX1_choose_69 : decode cX1_choose 69 = .ok (.iload_n 3, 1) := by decide +kernel
theorem dX1_choose_70 : decode cX1_choose 70 = .ok (.aload_n 0, 1) := by decide +kernel
theorem dX1_choose_71 : decode cX1_choose 71 = .ok (.iload 5, 2) := by decide +kernel
theorem dX1_choose_73 : decode cX1_choose 73 = .ok (.aload_n 0, 1) := by decide +kernel
theorem dX1_choose_74 : decode cX1_choose 74 = .ok (.getfield 28, 3) := by decide +kernel
theorem dX1_choose_77 : decode cX1_choose 77 = .ok (.iload_n 3, 1) := by decide +kernel
theorem dX1_choose_78 : decode cX1_choose 78 = .ok (.iaload, 1) := by decide +kernel
theorem dX1_choose_79 : decode cX1_choose 79 = .ok (.invokevirtual 44, 3) := by decide +kernel
theorem dX1_choose_82 : decode cX1_choose 82 = .ok (.iastore, 1) := by decide +kernel
theorem dX1_choose_83 : decode cX1_choose 83 = .ok (.iinc 5 1, 3) := by decide +kernel
theorem dX1_choose_86 : decode cX1_choose 86 = .ok (.goto (-47), 3) := by decide +kernel
theorem dX1_choose_89 : decode cX1_choose 89 = .ok (.aload_n 0, 1) := by decide +kernel
theorem dX1_choose_90 : decode cX1_choose 90 = .ok (.getfield 25, 3) := by decide +kernel
theorem dX1_choose_93 : decode cX1_choose 93 = .ok (.iload_n 3, 1) := by decide +kernel
theorem dX1_choose_94 : decode cX1_choose 94 = .ok (.aload 4, 2) := by decide +kernel
theorem dX1_choose_96 : decode cX1_choose 96 = .ok (.getfield 48, 3) := by decide +kernel
theorem dX1_choose_99 : decode cX1_choose 99 = .ok (.aload_n 0, 1) := by decide +kernel
theorem dX1_choose_100 : decode cX1_choose 100 = .ok (.getfield 28, 3) := by decide +kernel
theorem dX1_choose_103 : decode cX1_choose 103 = .ok (.iload_n 3, 1) := by decide +kernel
theorem dX1_choose_104 : decode cX1_choose 104 = .ok (.iaload, 1) := by decide +kernel
theorem dX1_choose_105 : decode cX1_choose 105 = .ok (.iconst (-1), 1) := by decide +kernel
theorem dX1_choose_106 : decode cX1_choose 106 = .ok (.if_icmp .ne 7, 3) := by decide +kernel
theorem dX1_choose_109 : decode cX1_choose 109 = .ok (.iconst 0, 1) := by decide +kernel
theorem dX1_choose_110 : decode cX1_choose 110 = .ok (.goto 14, 3) := by decide +kernel
theorem dX1_choose_113 : decode cX1_choose 113 = .ok (.aload_n 0, 1) := by decide +kernel
theorem dX1_choose_114 : decode cX1_choose 114 = .ok (.getfield 25, 3) := by decide +kernel
theorem dX1_choose_117 : decode cX1_choose 117 = .ok (.aload_n 0, 1) := by decide +kernel
theorem dX1_choose_118 : decode cX1_choose 118 = .ok (.getfield 28, 3) := by decide +kernel
theorem dX1_choose_121 : decode cX1_choose 121 = .ok (.iload_n 3, 1) := by decide +kernel
theorem dX1_choose_122 : decode cX1_choose 122 = .ok (.iaload, 1) := by decide +kernel
theorem dX1_choose_123 : decode cX1_choose 123 = .ok (.iaload, 1) := by decide +kernel
theorem dX1_choose_124 : decode cX1_choose 124 = .ok (.iadd, 1) := by decide +kernel
theorem dX1_choose_125 : decode cX1_choose 125 = .ok (.iastore, 1) := by decide +kernel
theorem dX1_choose_126 : decode cX1_choose 126 = .ok (.iinc 3 (-1), 3) := by decide +kernel
theorem dX1_choose_129 : decode cX1_choose 129 = .ok (.goto (-116), 3) := by decide +kernel
theorem dX1_choose_132 : decode cX1_choose 132 = .ok (.iconst (-1), 1) := by decide +kernel
theorem dX1_choose_133 : decode cX1_choose 133 = .ok (.istore_n 3, 1) := by decide +kernel
theorem dX1_choose_134 : decode cX1_choose 134 = .ok (.iconst 0, 1) := by decide +kernel
theorem dX1_choose_135 : decode cX1_choose 135 = .ok (.istore 4, 2) := by decide +kernel
theorem dX1_choose_137 : decode cX1_choose 137 = .ok (.iload 4, 2) := by decide +kernel
theorem dX1_choose_139 : decode cX1_choose 139 = .ok (.aload_n 0, 1) := by decide +kernel
theorem dX1_choose_140 : decode cX1_choose 140 = .ok (.getfield 31, 3) := by decide +kernel
theorem dX1_choose_143 : decode cX1_choose 143 = .ok (.if_icmp .ge 17, 3) := by decide +kernel
theorem dX1_choose_146 : decode cX1_choose 146 = .ok (.aload_n 0, 1) := by decide +kernel
theorem dX1_choose_147 : decode cX1_choose 147 = .ok (.iload 4, 2) := by decide +kernel
theorem dX1_choose_149 : decode cX1_choose 149 = .ok (.iload_n 3, 1) := by decide +kernel
theorem dX1_choose_150 : decode cX1_choose 150 = .ok (.invokevirtual 44, 3) := by decide +kernel
theorem dX1_choose_153 : decode cX1_choose 153 = .ok (.istore_n 3, 1) := by decide +kernel
theorem dX1_choose_154 : decode cX1_choose 154 = .ok (.iinc 4 1, 3) := by decide +kernel
theorem dX1_choose_157 : decode cX1_choose 157 = .ok (.goto (-20), 3) := by decide +kernel
theorem dX1_choose_160 : decode cX1_choose 160 = .ok (.aload_n 0, 1) := by decide +kernel
theorem dX1_choose_161 : decode cX1_choose 161 = .ok (.iload_n 3, 1) := by decide +kernel
theorem dX1_choose_162 : decode cX1_choose 162 = .ok (.iconst (-1), 1) := by decide +kernel
theorem dX1_choose_163 : decode cX1_choose 163 = .ok (.if_icmp .ne 7, 3) := by decide +kernel
theorem dX1_choose_166 : decode cX1_choose 166 = .ok (.iconst 0, 1) := by decide +kernel
theorem dX1_choose_167 : decode cX1_choose 167 = .ok (.goto 9, 3) := by decide +kernel
theorem dX1_choose_170 : decode cX1_choose 170 = .ok (.aload_n 0, 1) := by decide +kernel
theorem dX1_choose_171 : decode cX1_choose 171 = .ok (.getfield 25, 3) := by decide +kernel
theorem dX1_choose_174 : decode cX1_choose 174 = .ok (.iload_n 3, 1) := by decide +kernel
theorem dX1_choose_175 : decode cX1_choose 175 = .ok (.iaload, 1) := by decide +kernel
theorem dX1_choose_176 : decode cX1_choose 176 = .ok (.putfield 19, 3) := by decide +kernel
theorem dX1_choose_179 : decode cX1_choose 179 = .ok (.aload_n 0, 1) := by decide +kernel
theorem dX1_choose_180 : decode cX1_choose 180 = .ok (.iload_n 3, 1) := by decide +kernel
theorem dX1_choose_181 : decode cX1_choose 181 = .ok (.invokevirtual 49, 3) := by decide +kernel
theorem dX1_choose_184 : decode cX1_choose 184 = .ok (.return_, 1) := by decide +kernel
set_option maxRecDepth 20000 in
theorem ggX1_sort_X7_has : GoodIn wsX1_sort wsX7_has := goodIn_r _ [6] rfl (by decide +kernel)
set_option maxRecDepth 20000 in
theorem gX1_sort_X7_has_n53 : GoodIn wsX1_sort (wsX7_has) := ggX1_sort_X7_has
theorem dX1_sort_0 : decode cX1_sort 0 = .ok (.aload_n 0, 1) := by decide +kernel
theorem dX1_sort_1 : decode cX1_sort 1 = .ok (.iconst 0, 1) := by decide +kernel
theorem dX1_sort_2 : decode cX1_sort 2 = .ok (.putfield 31, 3) := by decide +kernel
theorem dX1_sort_5 : decode cX1_sort 5 = .ok (.iconst 0, 1) := by decide +kernel
theorem dX1_sort_6 : decode cX1_sort 6 = .ok (.istore_n 3, 1) := by decide +kernel
theorem dX1_sort_7 : decode cX1_sort 7 = .ok (.iload_n 3, 1) := by decide +kernel
theorem dX1_sort_8 : decode cX1_sort 8 = .ok (.bipush 10, 2) := by decide +kernel
theorem dX1_sort_10 : decode cX1_sort 10 = .ok (.if_icmp .ge 75, 3) := by decide +kernel
theorem dX1_sort_13 : decode cX1_sort 13 = .ok (.iconst 0, 1) := by decide +kernel
theorem dX1_sort_14 : decode cX1_sort 14 = .ok (.istore 4, 2) := by decide +kernel
theorem dX1_sort_16 : decode cX1_sort 16 = .ok (.iload 4, 2) := by decide +kernel
theorem dX1_sort_18 : decode cX1_sort 18 = .ok (.bipush 16, 2) := by decide +kernel
theorem dX1_sort_20 : decode cX1_sort 20 = .ok (.if_icmp .ge 59, 3) := by decide +kernel
theorem dX1_sort_23 : decode cX1_sort 23 = .ok (.iload_n 2, 1) := by decide +kernel
theorem dX1_sort_24 : decode cX1_sort 24 = .ok (.iload 4, 2) := by decide +kernel
theorem dX1_sort_26 : decode cX1_sort 26 = .ok (.invokestatic 53, 3) := by decide +kernel
theorem dX1_sort_29 : decode cX1_sort 29 = .ok (.ifCond .eq 44, 3) := by decide +kernel
theorem dX1_sort_32 : decode cX1_sort 32 = .ok (.aload_n 1, 1) := by decide +kernel
theorem dX1_sort_33 : decode cX1_sort 33 = .ok (.iload 4, 2) := by decide +kernel
theorem dX1_sort_35 : decode cX1_sort 35 = .ok (.aaload, 1) := by decide +kernel
theorem dX1_sort_36 : decode cX1_sort 36 = .ok (.getfield 57, 3) := by decide +kernel
theorem dX1_sort_39 : decode cX1_sort 39 = .ok (.iload_n 3, 1) := by decide +kernel
theorem dX1_sort_40 : decode cX1_sort 40 = .ok (.if_icmp .ne 33, 3) := by decide +kernel
theorem dX1_sort_43 : decode cX1_sort 43 = .ok (.aload_n 0, 1) := by decide +kernel
theorem dX1_sort_44 : decode cX1_sort 44 = .ok (.getfield 31, 3) := by decide +kernel
theorem dX1_sort_47 : decode cX1_sort 47 = .ok (.bipush 16, 2) := by decide +kernel
theorem dX1_sort_49 : decode cX1_sort 49 = .ok (.if_icmp .ge 24, 3) := by decide +kernel
theorem dX1_sort_52 : decode cX1_sort 52 = .ok (.aload_n 0, 1) := by decide +kernel
theorem dX1_sort_53 : decode cX1_sort 53 = .ok (.getfield 22, 3) := by decide +kernel
theorem dX1_sort_56 : decode cX1_sort 56 = .ok (.aload_n 0, 1) := by decide +kernel
theorem dX1_sort_57 : decode cX1_sort 57 = .ok (.getfield 31, 3) := by decide +kernel
theorem dX1_sort_60 : decode cX1_sort 60 = .ok (.iload 4, 2) := by decide +kernel
theorem dX1_sort_62 : decode cX1_sort 62 = .ok (.iastore, 1) := by decide +kernel
theorem dX1_sort_63 : decode cX1_sort 63 = .ok (.aload_n 0, 1) := by decide +kernel
theorem dX1_sort_64 : decode cX1_sort 64 = .ok (.dup, 1) := by decide +kernel
theorem dX1_sort_65 : decode cX1_sort 65 = .ok (.getfield 31, 3) := by decide +kernel
theorem dX1_sort_68 : decode cX1_sort 68 = .ok (.iconst 1, 1) := by decide +kernel
theorem dX1_sort_69 : decode cX1_sort 69 = .ok (.iadd, 1) := by decide +kernel
theorem dX1_sort_70 : decode cX1_sort 70 = .ok (.putfield 31, 3) := by decide +kernel
theorem dX1_sort_73 : decode cX1_sort 73 = .ok (.iinc 4 1, 3) := by decide +kernel
theorem dX1_sort_76 : decode cX1_sort 76 = .ok (.goto (-60), 3) := by decide +kernel
theorem dX1_sort_79 : decode cX1_sort 79 = .ok (.iinc 3 1, 3) := by decide +kernel
theorem dX1_sort_82 : decode cX1_sort 82 = .ok (.goto (-75), 3) := by decide +kernel
theorem dX1_sort_85 : decode cX1_sort 85 = .ok (.return_, 1) := by decide +kernel
theorem dX1_betterStart_0 : decode cX1_betterStart 0 = .ok (.iload_n 2, 1) := by decide +kernel
theorem dX1_betterStart_1 : decode cX1_betterStart 1 = .ok (.iconst (-1), 1) := by decide +kernel
theorem dX1_betterStart_2 : decode cX1_betterStart 2 = .ok (.if_icmp .eq 18, 3) := by decide +kernel
theorem dX1_betterStart_5 : decode cX1_betterStart 5 = .ok (.aload_n 0, 1) := by decide +kernel
theorem dX1_betterStart_6 : decode cX1_betterStart 6 = .ok (.getfield 25, 3) := by decide +kernel
theorem dX1_betterStart_9 : decode cX1_betterStart 9 = .ok (.iload_n 1, 1) := by decide +kernel
theorem dX1_betterStart_10 : decode cX1_betterStart 10 = .ok (.iaload, 1) := by decide +kernel
theorem dX1_betterStart_11 : decode cX1_betterStart 11 = .ok (.aload_n 0, 1) := by decide +kernel
theorem dX1_betterStart_12 : decode cX1_betterStart 12 = .ok (.getfield 25, 3) := by decide +kernel
theorem dX1_betterStart_15 : decode cX1_betterStart 15 = .ok (.iload_n 2, 1) := by decide +kernel
theorem dX1_betterStart_16 : decode cX1_betterStart 16 = .ok (.iaload, 1) := by decide +kernel
theorem dX1_betterStart_17 : decode cX1_betterStart 17 = .ok (.if_icmp .le 5, 3) := by decide +kernel
theorem dX1_betterStart_20 : decode cX1_betterStart 20 = .ok (.iload_n 1, 1) := by decide +kernel
theorem dX1_betterStart_21 : decode cX1_betterStart 21 = .ok (.ireturn, 1) := by decide +kernel
theorem dX1_betterStart_22 : decode cX1_betterStart 22 = .ok (.aload_n 0, 1) := by decide +kernel
theorem dX1_betterStart_23 : decode cX1_betterStart 23 = .ok (.getfield 25, 3) := by decide +kernel
theorem dX1_betterStart_26 : decode cX1_betterStart 26 = .ok (.iload_n 1, 1) := by decide +kernel
theorem dX1_betterStart_27 : decode cX1_betterStart 27 = .ok (.iaload, 1) := by decide +kernel
theorem dX1_betterStart_28 : decode cX1_betterStart 28 = .ok (.aload_n 0, 1) := by decide +kernel
theorem dX1_betterStart_29 : decode cX1_betterStart 29 = .ok (.getfield 25, 3) := by decide +kernel
theorem dX1_betterStart_32 : decode cX1_betterStart 32 = .ok (.iload_n 2, 1) := by decide +kernel
theorem dX1_betterStart_33 : decode cX1_betterStart 33 = .ok (.iaload, 1) := by decide +kernel
theorem dX1_betterStart_34 : decode cX1_betterStart 34 = .ok (.if_icmp .ne 22, 3) := by decide +kernel
theorem dX1_betterStart_37 : decode cX1_betterStart 37 = .ok (.aload_n 0, 1) := by decide +kernel
theorem dX1_betterStart_38 : decode cX1_betterStart 38 = .ok (.getfield 22, 3) := by decide +kernel
theorem dX1_betterStart_41 : decode cX1_betterStart 41 = .ok (.iload_n 1, 1) := by decide +kernel
theorem dX1_betterStart_42 : decode cX1_betterStart 42 = .ok (.iaload, 1) := by decide +kernel
theorem dX1_betterStart_43 : decode cX1_betterStart 43 = .ok (.aload_n 0, 1) := by decide +kernel
theorem dX1_betterStart_44 : decode cX1_betterStart 44 = .ok (.getfield 22, 3) := by decide +kernel
theorem dX1_betterStart_47 : decode cX1_betterStart 47 = .ok (.iload_n 2, 1) := by decide +kernel
theorem dX1_betterStart_48 : decode cX1_betterStart 48 = .ok (.iaload, 1) := by decide +kernel
theorem dX1_betterStart_49 : decode cX1_betterStart 49 = .ok (.if_icmp .ge 7, 3) := by decide +kernel
theorem dX1_betterStart_52 : decode cX1_betterStart 52 = .ok (.iload_n 1, 1) := by decide +kernel
theorem dX1_betterStart_53 : decode cX1_betterStart 53 = .ok (.goto 4, 3) := by decide +kernel
theorem dX1_betterStart_56 : decode cX1_betterStart 56 = .ok (.iload_n 2, 1) := by decide +kernel
theorem dX1_betterStart_57 : decode cX1_betterStart 57 = .ok (.ireturn, 1) := by decide +kernel
theorem dX1_follow_0 : decode cX1_follow 0 = .ok (.aload_n 0, 1) := by decide +kernel
theorem dX1_follow_1 : decode cX1_follow 1 = .ok (.iconst 0, 1) := by decide +kernel
theorem dX1_follow_2 : decode cX1_follow 2 = .ok (.putfield 15, 3) := by decide +kernel
theorem dX1_follow_5 : decode cX1_follow 5 = .ok (.iload_n 1, 1) := by decide +kernel
theorem dX1_follow_6 : decode cX1_follow 6 = .ok (.istore_n 2, 1) := by decide +kernel
theorem dX1_follow_7 : decode cX1_follow 7 = .ok (.iload_n 2, 1) := by decide +kernel
theorem dX1_follow_8 : decode cX1_follow 8 = .ok (.iconst (-1), 1) := by decide +kernel
theorem dX1_follow_9 : decode cX1_follow 9 = .ok (.if_icmp .eq 47, 3) := by decide +kernel
theorem dX1_follow_12 : decode cX1_follow 12 = .ok (.aload_n 0, 1) := by decide +kernel
theorem dX1_follow_13 : decode cX1_follow 13 = .ok (.getfield 15, 3) := by decide +kernel
theorem dX1_follow_16 : decode cX1_follow 16 = .ok (.bipush 16, 2) := by decide +kernel
theorem dX1_follow_18 : decode cX1_follow 18 = .ok (.if_icmp .ge 38, 3) := by decide +kernel
theorem dX1_follow_21 : decode cX1_follow 21 = .ok (.aload_n 0, 1) := by decide +kernel
theorem dX1_follow_22 : decode cX1_follow 22 = .ok (.getfield 9, 3) := by decide +kernel
theorem dX1_follow_25 : decode cX1_follow 25 = .ok (.aload_n 0, 1) := by decide +kernel
theorem dX1_follow_26 : decode cX1_follow 26 = .ok (.getfield 15, 3) := by decide +kernel
theorem dX1_follow_29 : decode cX1_follow 29 = .ok (.aload_n 0, 1) := by decide +kernel
theorem dX1_follow_30 : decode cX1_follow 30 = .ok (.getfield 22, 3) := by decide +kernel
theorem dX1_follow_33 : decode cX1_follow 33 = .ok (.iload_n 2, 1) := by decide +kernel
theorem dX1_follow_34 : decode cX1_follow 34 = .ok (.iaload, 1) := by decide +kernel
theorem dX1_follow_35 : decode cX1_follow 35 = .ok (.iastore, 1) := by decide +kernel
theorem dX1_follow_36 : decode cX1_follow 36 = .ok (.aload_n 0, 1) := by decide +kernel
theorem dX1_follow_37 : decode cX1_follow 37 = .ok (.dup, 1) := by decide +kernel
theorem dX1_follow_38 : decode cX1_follow 38 = .ok (.getfield 15, 3) := by decide +kernel
theorem dX1_follow_41 : decode cX1_follow 41 = .ok (.iconst 1, 1) := by decide +kernel
theorem dX1_follow_42 : decode cX1_follow 42 = .ok (.iadd, 1) := by decide +kernel
theorem dX1_follow_43 : decode cX1_follow 43 = .ok (.putfield 15, 3) := by decide +kernel
theorem dX1_follow_46 : decode cX1_follow 46 = .ok (.aload_n 0, 1) := by decide +kernel
theorem dX1_follow_47 : decode cX1_follow 47 = .ok (.getfield 28, 3) := by decide +kernel
theorem dX1_follow_50 : decode cX1_follow 50 = .ok (.iload_n 2, 1) := by decide +kernel
theorem dX1_follow_51 : decode cX1_follow 51 = .ok (.iaload, 1) := by decide +kernel
theorem dX1_follow_52 : decode cX1_follow 52 = .ok (.istore_n 2, 1) := by decide +kernel
theorem dX1_follow_53 : decode cX1_follow 53 = .ok (.goto (-46), 3) := by decide +kernel
theorem dX1_follow_56 : decode cX1_follow 56 = .ok (.return_, 1) := by decide +kernel
theorem dX2_init_0 : decode cX2_init 0 = .ok (.aload_n 0, 1) := by decide +kernel
theorem dX2_init_1 : decode cX2_init 1 = .ok (.invokespecial 3, 3) := by decide +kernel
theorem dX2_init_4 : decode cX2_init 4 = .ok (.aload_n 0, 1) := by decide +kernel
theorem dX2_init_5 : decode cX2_init 5 = .ok (.iconst (-1), 1) := by decide +kernel
theorem dX2_init_6 : decode cX2_init 6 = .ok (.putfield 9, 3) := by decide +kernel
theorem dX2_init_9 : decode cX2_init 9 = .ok (.aload_n 0, 1) := by decide +kernel
theorem dX2_init_10 : decode cX2_init 10 = .ok (.iconst (-1), 1) := by decide +kernel
theorem dX2_init_11 : decode cX2_init 11 = .ok (.putfield 15, 3) := by decide +kernel
theorem dX2_init_14 : decode cX2_init 14 = .ok (.aload_n 0, 1) := by decide +kernel
theorem dX2_init_15 : decode cX2_init 15 = .ok (.iconst 0, 1) := by decide +kernel
theorem dX2_init_16 : decode cX2_init 16 = .ok (.putfield 18, 3) := by decide +kernel
theorem dX2_init_19 : decode cX2_init 19 = .ok (.aload_n 0, 1) := by decide +kernel
theorem dX2_init_20 : decode cX2_init 20 = .ok (.iconst 0, 1) := by decide +kernel
theorem dX2_init_21 : decode cX2_init 21 = .ok (.putfield 21, 3) := by decide +kernel
theorem dX2_init_24 : decode cX2_init 24 = .ok (.aload_n 0, 1) := by decide +kernel
theorem dX2_init_25 : decode cX2_init 25 = .ok (.iconst 0, 1) := by decide +kernel
theorem dX2_init_26 : decode cX2_init 26 = .ok (.putfield 24, 3) := by decide +kernel
theorem dX2_init_29 : decode cX2_init 29 = .ok (.aload_n 0, 1) := by decide +kernel
theorem dX2_init_30 : decode cX2_init 30 = .ok (.iconst 0, 1) := by decide +kernel
theorem dX2_init_31 : decode cX2_init 31 = .ok (.putfield 27, 3) := by decide +kernel
theorem dX2_init_34 : decode cX2_init 34 = .ok (.return_, 1) := by decide +kernel
theorem dX2_clear_0 : decode cX2_clear 0 = .ok (.aload_n 0, 1) := by decide +kernel
theorem dX2_clear_1 : decode cX2_clear 1 = .ok (.iconst (-1), 1) := by decide +kernel
theorem dX2_clear_2 : decode cX2_clear 2 = .ok (.putfield 9, 3) := by decide +kernel
theorem dX2_clear_5 : decode cX2_clear 5 = .ok (.aload_n 0, 1) := by decide +kernel
theorem dX2_clear_6 : decode cX2_clear 6 = .ok (.iconst (-1), 1) := by decide +kernel
theorem dX2_clear_7 : decode cX2_clear 7 = .ok (.putfield 15, 3) := by decide +kernel
theorem dX2_clear_10 : decode cX2_clear 10 = .ok (.aload_n 0, 1) := by decide +kernel
theorem dX2_clear_11 : decode cX2_clear 11 = .ok (.iconst 0, 1) := by decide +kernel
theorem dX2_clear_12 : decode cX2_clear 12 = .ok (.putfield 18, 3) := by decide +kernel
theorem dX2_clear_15 : decode cX2_clear 15 = .ok (.aload_n 0, 1) := by decide +kernel
theorem dX2_clear_16 : decode cX2_clear 16 = .ok (.iconst 0, 1) := by decide +kernel
theorem dX2_clear_17 : decode cX2_clear 17 = .ok (.putfield 21, 3) := by decide +kernel
theorem dX2_clear_20 : decode cX2_clear 20 = .ok (.aload_n 0, 1) := by decide +kernel
theorem dX2_clear_21 : decode cX2_clear 21 = .ok (.iconst (-1), 1) := by decide +kernel
theorem dX2_clear_22 : decode cX2_clear 22 = .ok (.putfield 24, 3) := by decide +kernel
theorem dX2_clear_25 : decode cX2_clear 25 = .ok (.aload_n 0, 1) := by decide +kernel
theorem dX2_clear_26 : decode cX2_clear 26 = .ok (.iconst 0, 1) := by decide +kernel
theorem dX2_clear_27 : decode cX2_clear 27 = .ok (.putfield 27, 3) := by decide +kernel
theorem dX2_clear_30 : decode cX2_clear 30 = .ok (.return_, 1) := by decide +kernel
theorem dX2_add_0 : decode cX2_add 0 = .ok (.aload_n 0, 1) := by decide +kernel
theorem dX2_add_1 : decode cX2_add 1 = .ok (.getfield 21, 3) := by decide +kernel
theorem dX2_add_4 : decode cX2_add 4 = .ok (.ifCond .eq 27, 3) := by decide +kernel
theorem dX2_add_7 : decode cX2_add 7 = .ok (.iload_n 3, 1) := by decide +kernel
theorem dX2_add_8 : decode cX2_add 8 = .ok (.aload_n 0, 1) := by decide +kernel
theorem dX2_add_9 : decode cX2_add 9 = .ok (.getfield 18, 3) := by decide +kernel
theorem dX2_add_12 : decode cX2_add 12 = .ok (.if_icmp .gt 19, 3) := by decide +kernel
theorem dX2_add_15 : decode cX2_add 15 = .ok (.iload_n 3, 1) := by decide +kernel
theorem dX2_add_16 : decode cX2_add 16 = .ok (.aload_n 0, 1) := by decide +kernel
theorem dX2_add_17 : decode cX2_add 17 = .ok (.getfield 18, 3) := by decide +kernel
theorem dX2_add_20 : decode cX2_add 20 = .ok (.if_icmp .ne 26, 3) := by decide +kernel
theorem dX2_add_23 : decode cX2_add 23 = .ok (.iload_n 2, 1) := by decide +kernel
theorem dX2_add_24 : decode cX2_add 24 = .ok (.aload_n 0, 1) := by decide +kernel
theorem dX2_add_25 : decode cX2_add 25 = .ok (.getfield 15, 3) := by decide +kernel
theorem dX2_add_28 : decode cX2_add 28 = .ok (.if_icmp .ge 18, 3) := by decide +kernel
theorem dX2_add_31 : decode cX2_add 31 = .ok (.aload_n 0, 1) := by decide +kernel
theorem dX2_add_32 : decode cX2_add 32 = .ok (.iload_n 1, 1) := by decide +kernel
theorem dX2_add_33 : decode cX2_add 33 = .ok (.putfield 9, 3) := by decide +kernel
theorem dX2_add_36 : decode cX2_add 36 = .ok (.aload_n 0, 1) := by decide +kernel
theorem dX2_add_37 : decode cX2_add 37 = .ok (.iload_n 2, 1) := by decide +kernel
theorem dX2_add_38 : decode cX2_add 38 = .ok (.putfield 15, 3) := by decide +kernel
theorem dX2_add_41 : decode cX2_add 41 = .ok (.aload_n 0, 1) := by decide +kernel
theorem dX2_add_42 : decode cX2_add 42 = .ok (.iload_n 3, 1) := by decide +kernel
theorem dX2_add_43 : decode cX2_add 43 = .ok (.putfield 18, 3) := by decide +kernel
theorem dX2_add_46 : decode cX2_add 46 = .ok (.aload_n 0, 1) := by decide +kernel
theorem dX2_add_47 : decode cX2_add 47 = .ok (.dup, 1) := by decide +kernel
theorem dX2_add_48 : decode cX2_add 48 = .ok (.getfield 21, 3) := by decide +kernel
theorem dX2_add_51 : decode cX2_add 51 = .ok (.iconst 1, 1) := by decide +kernel
theorem dX2_add_52 : decode cX2_add 52 = .ok (.iadd, 1) := by decide +kernel
theorem dX2_add_53 : decode cX2_add 53 = .ok (.putfield 21, 3) := by decide +kernel
theorem dX2_add_56 : decode cX2_add 56 = .ok (.aload_n 0, 1) := by decide +kernel
theorem dX2_add_57 : decode cX2_add 57 = .ok (.dup, 1) := by decide +kernel
theorem dX2_add_58 : decode cX2_add 58 = .ok (.getfield 24, 3) := by decide +kernel
theorem dX2_add_61 : decode cX2_add 61 = .ok (.iload_n 1, 1) := by decide +kernel
theorem dX2_add_62 : decode cX2_add 62 = .ok (.iand, 1) := by decide +kernel
theorem dX2_add_63 : decode cX2_add 63 = .ok (.putfield 24, 3) := by decide +kernel
theorem dX2_add_66 : decode cX2_add 66 = .ok (.return_, 1) := by decide +kernel
theorem dX3_init_0 : decode cX3_init 0 = .ok (.aload_n 0, 1) := by decide +kernel
theorem dX3_init_1 : decode cX3_init 1 = .ok (.invokespecial 1, 3) := by decide +kernel
theorem dX3_init_4 : decode cX3_init 4 = .ok (.aload_n 0, 1) := by decide +kernel
theorem dX3_init_5 : decode cX3_init 5 = .ok (.iconst 0, 1) := by decide +kernel
theorem dX3_init_6 : decode cX3_init 6 = .ok (.putfield 7, 3) := by decide +kernel
theorem dX3_init_9 : decode cX3_init 9 = .ok (.aload_n 0, 1) := by decide +kernel
theorem dX3_init_10 : decode cX3_init 10 = .ok (.iconst 0, 1) := by decide +kernel
theorem dX3_init_11 : decode cX3_init 11 = .ok (.putfield 13, 3) := by decide +kernel
theorem dX3_init_14 : decode cX3_init 14 = .ok (.aload_n 0, 1) := by decide +kernel
theorem dX3_init_15 : decode cX3_init 15 = .ok (.iconst 0, 1) := by decide +kernel
theorem dX3_init_16 : decode cX3_init 16 = .ok (.putfield 16, 3) := by decide +kernel
theorem dX3_init_19 : decode cX3_init 19 = .ok (.aload_n 0, 1) := by decide +kernel
theorem dX3_init_20 : decode cX3_init 20 = .ok (.iconst 0, 1) := by decide +kernel
theorem dX3_init_21 : decode cX3_init 21 = .ok (.putfield 19, 3) := by decide +kernel
theorem dX3_init_24 : decode cX3_init 24 = .ok (.aload_n 0, 1) := by decide +kernel
theorem dX3_init_25 : decode cX3_init 25 = .ok (.iconst 0, 1) := by decide +kernel
theorem dX3_init_26 : decode cX3_init 26 = .ok (.putfield 22, 3) := by decide +kernel
theorem dX3_init_29 : decode cX3_init 29 = .ok (.aload_n 0, 1) := by decide +kernel
theorem dX3_init_30 : decode cX3_init 30 = .ok (.iconst 0, 1) := by decide +kernel
theorem dX3_init_31 : decode cX3_init 31 = .ok (.putfield 25, 3) := by decide +kernel
theorem dX3_init_34 : decode cX3_init 34 = .ok (.aload_n 0, 1) := by decide +kernel
theorem dX3_init_35 : decode cX3_init 35 = .ok (.iconst 0, 1) := by decide +kernel
theorem dX3_init_36 : decode cX3_init 36 = .ok (.putfield 28, 3) := by decide +kernel
theorem dX3_init_39 : decode cX3_init 39 = .ok (.aload_n 0, 1) := by decide +kernel
theorem dX3_init_40 : decode cX3_init 40 = .ok (.iconst 0, 1) := by decide +kernel
theorem dX3_init_41 : decode cX3_init 41 = .ok (.putfield 31, 3) := by decide +kernel
theorem dX3_init_44 : decode cX3_init 44 = .ok (.return_, 1) := by decide +kernel
theorem dX4_init_0 : decode cX4_init 0 = .ok (.aload_n 0, 1) := by decide +kernel
theorem dX4_init_1 : decode cX4_init 1 = .ok (.invokespecial 3, 3) := by decide +kernel
theorem dX4_init_4 : decode cX4_init 4 = .ok (.aload_n 0, 1) := by decide +kernel
theorem dX4_init_5 : decode cX4_init 5 = .ok (.bipush 6, 2) := by decide +kernel
theorem dX4_init_7 : decode cX4_init 7 = .ok (.bipush 6, 2) := by decide +kernel
theorem dX4_init_9 : decode cX4_init 9 = .ok (.multianewarray 9 2, 4) := by decide +kernel
theorem dX4_init_13 : decode cX4_init 13 = .ok (.putfield 11, 3) := by decide +kernel
theorem dX4_init_16 : decode cX4_init 16 = .ok (.aload_n 0, 1) := by decide +kernel
theorem dX4_init_17 : decode cX4_init 17 = .ok (.bipush 6, 2) := by decide +kernel
theorem dX4_init_19 : decode cX4_init 19 = .ok (.bipush 6, 2) := by decide +kernel
theorem dX4_init_21 : decode cX4_init 21 = .ok (.multianewarray 9 2, 4) := by decide +kernel
theorem dX4_init_25 : decode cX4_init 25 = .ok (.putfield 16, 3) := by decide +kernel
theorem dX4_init_28 : decode cX4_init 28 = .ok (.iconst 0, 1) := by decide +kernel
theorem dX4_init_29 : decode cX4_init 29 = .ok (.istore_n 1, 1) := by decide +kernel
theorem dX4_init_30 : decode cX4_init 30 = .ok (.iload_n 1, 1) := by decide +kernel
theorem dX4_init_31 : decode cX4_init 31 = .ok (.bipush 6, 2) := by decide +kernel
theorem dX4_init_33 : decode cX4_init 33 = .ok (.if_icmp .ge 41, 3) := by decide +kernel
theorem dX4_init_36 : decode cX4_init 36 = .ok (.iconst 0, 1) := by decide +kernel
theorem dX4_init_37 : decode cX4_init 37 = .ok (.istore_n 2, 1) := by decide +kernel
theorem dX4_init_38 : decode cX4_init 38 = .ok (.iload_n 2, 1) := by decide +kernel
theorem dX4_init_39 : decode cX4_init 39 = .ok (.bipush 6, 2) := by decide +kernel
theorem dX4_init_41 : decode cX4_init 41 = .ok (.if_icmp .ge 27, 3) := by decide +kernel
theorem dX4_init_44 : decode cX4_init 44 = .ok (.aload_n 0, 1) := by decide +kernel
theorem dX4_init_45 : decode cX4_init 45 = .ok (.getfield 16, 3) := by decide +kernel
theorem dX4_init_48 : decode cX4_init 48 = .ok (.iload_n 1, 1) := by decide +kernel
theorem dX4_init_49 : decode cX4_init 49 = .ok (.aaload, 1) := by decide +kernel
theorem dX4_init_50 : decode cX4_init 50 = .ok (.iload_n 2, 1) := by decide +kernel
theorem dX4_init_51 : decode cX4_init 51 = .ok (.iload_n 1, 1) := by decide +kernel
theorem dX4_init_52 : decode cX4_init 52 = .ok (.iload_n 2, 1) := by decide +kernel
theorem dX4_init_53 : decode cX4_init 53 = .ok (.if_icmp .ne 7, 3) := by decide +kernel
theorem dX4_init_56 : decode cX4_init 56 = .ok (.iconst 0, 1) := by decide +kernel
theorem dX4_init_57 : decode cX4_init 57 = .ok (.goto 4, 3) := by decide +kernel
theorem dX4_init_60 : decode cX4_init 60 = .ok (.iconst (-1), 1) := by decide +kernel
theorem dX4_init_61 : decode cX4_init 61 = .ok (.iastore, 1) := by decide +kernel
theorem dX4_init_62 : decode cX4_init 62 = .ok (.iinc 2 1, 3) := by decide +kernel
theorem dX4_init_65 : decode cX4_init 65 = .ok (.goto (-27), 3) := by decide +kernel
theorem dX4_init_68 : decode cX4_init 68 = .ok (.iinc 1 1, 3) := by decide +kernel
theorem dX4_init_71 : decode cX4_init 71 = .ok (.goto (-41), 3) := by decide +kernel
theorem dX4_init_74 : decode cX4_init 74 = .ok (.return_, 1) := by decide +kernel
theorem dX4_between_0 : decode cX4_between 0 = .ok (.aload_n 0, 1) := by decide +kernel
theorem dX4_between_1 : decode cX4_between 1 = .ok (.getfield 16, 3) := by decide +kernel
theorem dX4_between_4 : decode cX4_between 4 = .ok (.iload_n 1, 1) := by decide +kernel
theorem dX4_between_5 : decode cX4_between 5 = .ok (.aaload, 1) := by decide +kernel
theorem dX4_between_6 : decode cX4_between 6 = .ok (.iload_n 2, 1) := by decide +kernel
theorem dX4_between_7 : decode cX4_between 7 = .ok (.iaload, 1) := by decide +kernel
theorem dX4_between_8 : decode cX4_between 8 = .ok (.ireturn, 1) := by decide +kernel
set_option maxRecDepth 20000 in
theorem ggX4_lay_X4_shortenOver : GoodIn wsX4_lay wsX4_shortenOver := goodIn_r _ [7, 2, 8, 9, 10, 11, 12, 13] rfl (by decide +kernel)
set_option maxRecDepth 20000 in
theorem gX4_lay_X4_shortenOver : GoodIn wsX4_lay (wsV RX4 19 RX4 yX4_shortenOver wsX4_shortenOver) := goodIn_app (goodIn_of _ (by decide +kernel)) ggX4_lay_X4_shortenOver
theorem dX4_lay_0 : decode cX4_lay 0 = .ok (.aload_n 0, 1) := by decide +kernel
theorem dX4_lay_1 : decode cX4_lay 1 = .ok (.getfield 11, 3) := by decide +kernel
theorem dX4_lay_4 : decode cX4_lay 4 = .ok (.iload_n 1, 1) := by decide +kernel
theorem dX4_lay_5 : decode cX4_lay 5 = .ok (.aaload, 1) := by decide +kernel
theorem dX4_lay_6 : decode cX4_lay 6 = .ok (.iload_n 2, 1) := by decide +kernel
theorem dX4_lay_7 : decode cX4_lay 7 = .ok (.iload_n 3, 1) := by decide +kernel
theorem dX4_lay_8 : decode cX4_lay 8 = .ok (.iastore, 1) := by decide +kernel
theorem dX4_lay_9 : decode cX4_lay 9 = .ok (.aload_n 0, 1) := by decide +kernel
theorem dX4_lay_10 : decode cX4_lay 10 = .ok (.getfield 11, 3) := by decide +kernel
theorem dX4_lay_13 : decode cX4_lay 13 = .ok (.iload_n 2, 1) := by decide +kernel
theorem dX4_lay_14 : decode cX4_lay 14 = .ok (.aaload, 1) := by decide +kernel
theorem dX4_lay_15 : decode cX4_lay 15 = .ok (.iload_n 1, 1) := by decide +kernel
theorem dX4_lay_16 : decode cX4_lay 16 = .ok (.iload_n 3, 1) := by decide +kernel
theorem dX4_lay_17 : decode cX4_lay 17 = .ok (.iastore, 1) := by decide +kernel
theorem dX4_lay_18 : decode cX4_lay 18 = .ok (.iconst 0, 1) := by decide +kernel
theorem dX4_lay_19 : decode cX4_lay 19 = .ok (.istore 4, 2) := by decide +kernel
theorem dX4_lay_21 : decode cX4_lay 21 = .ok (.iload 4, 2) := by decide +kernel
theorem dX4_lay_23 : decode cX4_lay 23 = .ok (.bipush 6, 2) := by decide +kernel
theorem dX4_lay_25 : decode cX4_lay 25 = .ok (.if_icmp .ge 73, 3) := by decide +kernel
theorem dX4_lay_28 : decode cX4_lay 28 = .ok (.iconst 0, 1) := by decide +kernel
theorem dX4_lay_29 : decode cX4_lay 29 = .ok (.istore 5, 2) := by decide +kernel
theorem dX4_lay_31 : decode cX4_lay 31 = .ok (.iload 5, 2) := by decide +kernel
theorem dX4_lay_33 : decode cX4_lay 33 = .ok (.bipush 6, 2) := by decide +kernel
theorem dX4_lay_35 : decode cX4_lay 35 = .ok (.if_icmp .ge 57, 3) := by decide +kernel
theorem dX4_lay_38 : decode cX4_lay 38 = .ok (.aload_n 0, 1) := by decide +kernel
theorem dX4_lay_39 : decode cX4_lay 39 = .ok (.getfield 16, 3) := by decide +kernel
theorem dX4_lay_42 : decode cX4_lay 42 = .ok (.iload 4, 2) := by decide +kernel
theorem dX4_lay_44 : decode cX4_lay 44 = .ok (.aaload, 1) := by decide +kernel
theorem dX4_lay_45 : decode cX4_lay 45 = .ok (.iload 5, 2) := by decide +kernel
theorem dX4_lay_47 : decode cX4_lay 47 = .ok (.iload 4, 2) := by decide +kernel
theorem dX4_lay_49 : decode cX4_lay 49 = .ok (.iload 5, 2) := by decide +kernel
theorem dX4_lay_51 : decode cX4_lay 51 = .ok (.if_icmp .ne 7, 3) := by decide +kernel
theorem dX4_lay_54 : decode cX4_lay 54 = .ok (.iconst 0, 1) := by decide +kernel
theorem dX4_lay_55 : decode cX4_lay 55 = .ok (.goto 30, 3) := by decide +kernel
theorem dX4_lay_58 : decode cX4_lay 58 = .ok (.aload_n 0, 1) := by decide +kernel
theorem dX4_lay_59 : decode cX4_lay 59 = .ok (.getfield 11, 3) := by decide +kernel
theorem dX4_lay_62 : decode cX4_lay 62 = .ok (.iload 4, 2) := by decide +kernel
theorem dX4_lay_64 : decode cX4_lay 64 = .ok (.aaload, 1) := by decide +kernel
theorem dX4_lay_65 : decode cX4_lay 65 = .ok (.iload 5, 2) := by decide +kernel
theorem dX4_lay_67 : decode cX4_lay 67 = .ok (.iaload, 1) := by decide +kernel
theorem dX4_lay_68 : decode cX4_lay 68 = .ok (.ifCond .ne 7, 3) := by decide +kernel
theorem dX4_lay_71 : decode cX4_lay 71 = .ok (.iconst (-1), 1) := by decide +kernel
theorem dX4_lay_72 : decode cX4_lay 72 = .ok (.goto 13, 3) := by decide +kernel
theorem dX4_lay_75 : decode cX4_lay 75 = .ok (.aload_n 0, 1) := by decide +kernel
theorem dX4_lay_76 : decode cX4_lay 76 = .ok (.getfield 11, 3) := by decide +kernel
theorem dX4_lay_79 : decode cX4_lay 79 = .ok (.iload 4, 2) := by decide +kernel
theorem dX4_lay_81 : decode cX4_lay 81 = .ok (.aaload, 1) := by decide +kernel
theorem dX4_lay_82 : decode cX4_lay 82 = .ok (.iload 5, 2) := by decide +kernel
theorem dX4_lay_84 : decode cX4_lay 84 = .ok (.iaload, 1) := by decide +kernel
theorem dX4_lay_85 : decode cX4_lay 85 = .ok (.iastore, 1) := by decide +kernel
theorem dX4_lay_86 : decode cX4_lay 86 = .ok (.iinc 5 1, 3) := by decide +kernel
theorem dX4_lay_89 : decode cX4_lay 89 = .ok (.goto (-58), 3) := by decide +kernel
theorem dX4_lay_92 : decode cX4_lay 92 = .ok (.iinc 4 1, 3) := by decide +kernel
theorem dX4_lay_95 : decode cX4_lay 95 = .ok (.goto (-74), 3) := by decide +kernel
theorem dX4_lay_98 : decode cX4_lay 98 = .ok (.iconst 0, 1) := by decide +kernel
theorem dX4_lay_99 : decode cX4_lay 99 = .ok (.istore 4, 2) := by decide +kernel
theorem dX4_lay_101 : decode cX4_lay 101 = .ok (.iload 4, 2) := by decide +kernel
theorem dX4_lay_103 : decode cX4_lay 103 = .ok (.bipush 6, 2) := by decide +kernel
theorem dX4_lay_105 : decode cX4_lay 105 = .ok (.if_icmp .ge 15, 3) := by decide +kernel
theorem dX4_lay_108 : decode cX4_lay 108 = .ok (.aload_n 0, 1) := by decide +kernel
theorem dX4_lay_109 : decode cX4_lay 109 = .ok (.iload 4, 2) := by decide +kernel
theorem dX4_lay_111 : decode cX4_lay 111 = .ok (.invokevirtual 19, 3) := by decide +kernel
theorem dX4_lay_114 : decode cX4_lay 114 = .ok (.iinc 4 1, 3) := by decide +kernel
theorem dX4_lay_117 : decode cX4_lay 117 = .ok (.goto (-16), 3) := by decide +kernel
theorem dX4_lay_120 : decode cX4_lay 120 = .ok (.return_, 1) := by decide +kernel
theorem dX4_shortenOver_0 : decode cX4_shortenOver 0 = .ok (.iconst 0, 1) := by decide +kernel
theorem dX4_shortenOver_1 : decode cX4_shortenOver 1 = .ok (.istore_n 2, 1) := by decide +kernel
theorem dX4_shortenOver_2 : decode cX4_shortenOver 2 = .ok (.iload_n 2, 1) := by decide +kernel
theorem dX4_shortenOver_3 : decode cX4_shortenOver 3 = .ok (.bipush 6, 2) := by decide +kernel
theorem dX4_shortenOver_5 : decode cX4_shortenOver 5 = .ok (.if_icmp .ge 104, 3) := by decide +kernel
theorem dX4_shortenOver_8 : decode cX4_shortenOver 8 = .ok (.iconst 0, 1) := by decide +kernel
theorem dX4_shortenOver_9 : decode cX4_shortenOver 9 = .ok (.istore_n 3, 1) := by decide +kernel
theorem dX4_shortenOver_10 : decode cX4_shortenOver 10 = .ok (.iload_n 3, 1) := by decide +kernel
theorem dX4_shortenOver_11 : decode cX4_shortenOver 11 = .ok (.bipush 6, 2) := by decide +kernel
theorem dX4_shortenOver_13 : decode cX4_shortenOver 13 = .ok (.if_icmp .ge 90, 3) := by decide +kernel
theorem dX4_shortenOver_16 : decode cX4_shortenOver 16 = .ok (.aload_n 0, 1) := by decide +kernel
theorem dX4_shortenOver_17 : decode cX4_shortenOver 17 = .ok (.getfield 16, 3) := by decide +kernel
theorem dX4_shortenOver_20 : decode cX4_shortenOver 20 = .ok (.iload_n 2, 1) := by decide +kernel
theorem dX4_shortenOver_21 : decode cX4_shortenOver 21 = .ok (.aaload, 1) := by decide +kernel
theorem dX4_shortenOver_22 : decode cX4_shortenOver 22 = .ok (.iload_n 1, 1) := by decide +kernel
theorem dX4_shortenOver_23 : decode cX4_shortenOver 23 = .ok (.iaload, 1) := by decide +kernel
theorem dX4_shortenOver_24 : decode cX4_shortenOver 24 = .ok (.iconst (-1), 1) := by decide +kernel
theorem dX4_shortenOver_25 : decode cX4_shortenOver 25 = .ok (.if_icmp .eq 72, 3) := by decide +kernel
theorem dX4_shortenOver_28 : decode cX4_shortenOver 28 = .ok (.aload_n 0, 1) := by decide +kernel
theorem dX4_shortenOver_29 : decode cX4_shortenOver 29 = .ok (.getfield 16, 3) := by decide +kernel
theorem dX4_shortenOver_32 : decode cX4_shortenOver 32 = .ok (.iload_n 1, 1) := by decide +kernel
theorem dX4_shortenOver_33 : decode cX4_shortenOver 33 = .ok (.aaload, 1) := by decide +kernel
theorem dX4_shortenOver_34 : decode cX4_shortenOver 34 = .ok (.iload_n 3, 1) := by decide +kernel
theorem dX4_shortenOver_35 : decode cX4_shortenOver 35 = .ok (.iaload, 1) := by decide +kernel
theorem dX4_shortenOver_36 : decode cX4_shortenOver 36 = .ok (.iconst (-1), 1) := by decide +kernel
theorem dX4_shortenOver_37 : decode cX4_shortenOver 37 = .ok (.if_icmp .eq 60, 3) := by decide +kernel
theorem dX4_shortenOver_40 : decode cX4_shortenOver 40 = .ok (.aload_n 0, 1) := by decide +kernel
theorem dX4_shortenOver_41 : decode cX4_shortenOver 41 = .ok (.getfield 16, 3) := by decide +kernel
theorem dX4_shortenOver_44 : decode cX4_shortenOver 44 = .ok (.iload_n 2, 1) := by decide +kernel
theorem dX4_shortenOver_45 : decode cX4_shortenOver 45 = .ok (.aaload, 1) := by decide +kernel
theorem dX4_shortenOver_46 : decode cX4_shortenOver 46 = .ok (.iload_n 1, 1) := by decide +kernel
theorem dX4_shortenOver_47 : decode cX4_shortenOver 47 = .ok (.iaload, 1) := by decide +kernel
theorem dX4_shortenOver_48 : decode cX4_shortenOver 48 = .ok (.aload_n 0, 1) := by decide +kernel
theorem dX4_shortenOver_49 : decode cX4_shortenOver 49 = .ok (.getfield 16, 3) := by decide +kernel
theorem dX4_shortenOver_52 : decode cX4_shortenOver 52 = .ok (.iload_n 1, 1) := by decide +kernel
theorem dX4_shortenOver_53 : decode cX4_shortenOver 53 = .ok (.aaload, 1) := by decide +kernel
theorem dX4_shortenOver_54 : decode cX4_shortenOver 54 = .ok (.iload_n 3, 1) := by decide +kernel
theorem dX4_shortenOver_55 : decode cX4_shortenOver 55 = .ok (.iaload, 1) := by decide +kernel
theorem dX4_shortenOver_56 : decode cX4_shortenOver 56 = .ok (.iadd, 1) := by decide +kernel
theorem dX4_shortenOver_57 : decode cX4_shortenOver 57 = .ok (.istore 4, 2) := by decide +kernel
theorem dX4_shortenOver_59 : decode cX4_shortenOver 59 = .ok (.aload_n 0, 1) := by decide +kernel
theorem dX4_shortenOver_60 : decode cX4_shortenOver 60 = .ok (.getfield 16, 3) := by decide +kernel
theorem dX4_shortenOver_63 : decode cX4_shortenOver 63 = .ok (.iload_n 2, 1) := by decide +kernel
theorem dX4_shortenOver_64 : decode cX4_shortenOver 64 = .ok (.aaload, 1) := by decide +kernel
theorem dX4_shortenOver_65 : decode cX4_shortenOver 65 = .ok (.iload_n 3, 1) := by decide +kernel
theorem dX4_shortenOver_66 : decode cX4_shortenOver 66 = .ok (.aload_n 0, 1) := by decide +kernel
theorem dX4_shortenOver_67 : decode cX4_shortenOver 67 = .ok (.getfield 16, 3) := by decide +kernel
theorem dX4_shortenOver_70 : decode cX4_shortenOver 70 = .ok (.iload_n 2, 1) := by decide +kernel
theorem dX4_shortenOver_71 : decode cX4_shortenOver 71 = .ok (.aaload, 1) := by decide +kernel
theorem dX4_shortenOver_72 : decode cX4_shortenOver 72 = .ok (.iload_n 3, 1) := by decide +kernel
theorem dX4_shortenOver_73 : decode cX4_shortenOver 73 = .ok (.iaload, 1) := by decide +kernel
theorem dX4_shortenOver_74 : decode cX4_shortenOver 74 = .ok (.iconst (-1), 1) := by decide +kernel
theorem dX4_shortenOver_75 : decode cX4_shortenOver 75 = .ok (.if_icmp .ne 8, 3) := by decide +kernel
theorem dX4_shortenOver_78 : decode cX4_shortenOver 78 = .ok (.iload 4, 2) := by decide +kernel
theorem dX4_shortenOver_80 : decode cX4_shortenOver 80 = .ok (.goto 16, 3) := by decide +kernel
theorem dX4_shortenOver_83 : decode cX4_shortenOver 83 = .ok (.aload_n 0, 1) := by decide +kernel
theorem dX4_shortenOver_84 : decode cX4_shortenOver 84 = .ok (.getfield 16, 3) := by decide +kernel
theorem dX4_shortenOver_87 : decode cX4_shortenOver 87 = .ok (.iload_n 2, 1) := by decide +kernel
theorem dX4_shortenOver_88 : decode cX4_shortenOver 88 = .ok (.aaload, 1) := by decide +kernel
theorem dX4_shortenOver_89 : decode cX4_shortenOver 89 = .ok (.iload_n 3, 1) := by decide +kernel
theorem dX4_shortenOver_90 : decode cX4_shortenOver 90 = .ok (.iaload, 1) := by decide +kernel
theorem dX4_shortenOver_91 : decode cX4_shortenOver 91 = .ok (.iload 4, 2) := by decide +kernel
theorem dX4_shortenOver_93 : decode cX4_shortenOver 93 = .ok (.invokestatic 23, 3) := by decide +kernel
theorem dX4_shortenOver_96 : decode cX4_shortenOver 96 = .ok (.iastore, 1) := by decide +kernel
theorem dX4_shortenOver_97 : decode cX4_shortenOver 97 = .ok (.iinc 3 1, 3) := by decide +kernel
theorem dX4_shortenOver_100 : decode cX4_shortenOver 100 = .ok (.goto (-90), 3) := by decide +kernel
theorem dX4_shortenOver_103 : decode cX4_shortenOver 103 = .ok (.iinc 2 1, 3) := by decide +kernel
theorem dX4_shortenOver_106 : decode cX4_shortenOver 106 = .ok (.goto (-104), 3) := by decide +kernel
theorem dX4_shortenOver_109 : decode cX4_shortenOver 109 = .ok (.return_, 1) := by decide +kernel
theorem dX5_init_0 : decode cX5_init 0 = .ok (.aload_n 0, 1) := by decide +kernel
theorem dX5_init_1 : decode cX5_init 1 = .ok (.invokespecial 3, 3) := by decide +kernel
theorem dX5_init_4 : decode cX5_init 4 = .ok (.aload_n 0, 1) := by decide +kernel
theorem dX5_init_5 : decode cX5_init 5 = .ok (.iconst 5, 1) := by decide +kernel
theorem dX5_init_6 : decode cX5_init 6 = .ok (.putfield 9, 3) := by decide +kernel
theorem dX5_init_9 : decode cX5_init 9 = .ok (.aload_n 0, 1) := by decide +kernel
theorem dX5_init_10 : decode cX5_init 10 = .ok (.iconst 3, 1) := by decide +kernel
theorem dX5_init_11 : decode cX5_init 11 = .ok (.putfield 15, 3) := by decide +kernel
theorem dX5_init_14 : decode cX5_init 14 = .ok (.aload_n 0, 1) := by decide +kernel
theorem dX5_init_15 : decode cX5_init 15 = .ok (.iconst 0, 1) := by decide +kernel
theorem dX5_init_16 : decode cX5_init 16 = .ok (.putfield 18, 3) := by decide +kernel
theorem dX5_init_19 : decode cX5_init 19 = .ok (.aload_n 0, 1) := by decide +kernel
theorem dX5_init_20 : decode cX5_init 20 = .ok (.iload_n 1, 1) := by decide +kernel
theorem dX5_init_21 : decode cX5_init 21 = .ok (.putfield 21, 3) := by decide +kernel
theorem dX5_init_24 : decode cX5_init 24 = .ok (.return_, 1) := by decide +kernel
theorem dX5_fitsBeside_0 : decode cX5_fitsBeside 0 = .ok (.aload_n 0, 1) := by decide +kernel
theorem dX5_fitsBeside_1 : decode cX5_fitsBeside 1 = .ok (.getfield 21, 3) := by decide +kernel
theorem dX5_fitsBeside_4 : decode cX5_fitsBeside 4 = .ok (.aload_n 1, 1) := by decide +kernel
theorem dX5_fitsBeside_5 : decode cX5_fitsBeside 5 = .ok (.getfield 21, 3) := by decide +kernel
theorem dX5_fitsBeside_8 : decode cX5_fitsBeside 8 = .ok (.isub, 1) := by decide +kernel
theorem dX5_fitsBeside_9 : decode cX5_fitsBeside 9 = .ok (.invokestatic 24, 3) := by decide +kernel
theorem dX5_fitsBeside_12 : decode cX5_fitsBeside 12 = .ok (.istore_n 2, 1) := by decide +kernel
theorem dX5_fitsBeside_13 : decode cX5_fitsBeside 13 = .ok (.iload_n 2, 1) := by decide +kernel
theorem dX5_fitsBeside_14 : decode cX5_fitsBeside 14 = .ok (.iconst 2, 1) := by decide +kernel
theorem dX5_fitsBeside_15 : decode cX5_fitsBeside 15 = .ok (.if_icmp .le 9, 3) := by decide +kernel
theorem dX5_fitsBeside_18 : decode cX5_fitsBeside 18 = .ok (.iload_n 2, 1) := by decide +kernel
theorem dX5_fitsBeside_19 : decode cX5_fitsBeside 19 = .ok (.bipush 10, 2) := by decide +kernel
theorem dX5_fitsBeside_21 : decode cX5_fitsBeside 21 = .ok (.if_icmp .lt 7, 3) := by decide +kernel
theorem dX5_fitsBeside_24 : decode cX5_fitsBeside 24 = .ok (.iconst 1, 1) := by decide +kernel
theorem dX5_fitsBeside_25 : decode cX5_fitsBeside 25 = .ok (.goto 4, 3) := by decide +kernel
theorem dX5_fitsBeside_28 : decode cX5_fitsBeside 28 = .ok (.iconst 0, 1) := by decide +kernel
theorem dX5_fitsBeside_29 : decode cX5_fitsBeside 29 = .ok (.ireturn, 1) := by decide +kernel
theorem dX6_init_0 : decode cX6_init 0 = .ok (.aload_n 0, 1) := by decide +kernel
theorem dX6_init_1 : decode cX6_init 1 = .ok (.invokespecial 3, 3) := by decide +kernel
theorem dX6_init_4 : decode cX6_init 4 = .ok (.aload_n 0, 1) := by decide +kernel
theorem dX6_init_5 : decode cX6_init 5 = .ok (.iconst 0, 1) := by decide +kernel
theorem dX6_init_6 : decode cX6_init 6 = .ok (.putfield 9, 3) := by decide +kernel
theorem dX6_init_9 : decode cX6_init 9 = .ok (.aload_n 0, 1) := by decide +kernel
theorem dX6_init_10 : decode cX6_init 10 = .ok (.iconst 0, 1) := by decide +kernel
theorem dX6_init_11 : decode cX6_init 11 = .ok (.putfield 15, 3) := by decide +kernel
theorem dX6_init_14 : decode cX6_init 14 = .ok (.aload_n 0, 1) := by decide +kernel
theorem dX6_init_15 : decode cX6_init 15 = .ok (.iconst 0, 1) := by decide +kernel
theorem dX6_init_16 : decode cX6_init 16 = .ok (.putfield 18, 3) := by decide +kernel
theorem dX6_init_19 : decode cX6_init 19 = .ok (.aload_n 0, 1) := by decide +kernel
theorem dX6_init_20 : decode cX6_init 20 = .ok (.iconst 0, 1) := by decide +kernel
theorem dX6_init_21 : decode cX6_init 21 = .ok (.putfield 21, 3) := by decide +kernel
theorem dX6_init_24 : decode cX6_init 24 = .ok (.aload_n 0, 1) := by decide +kernel
theorem dX6_init_25 : decode cX6_init 25 = .ok (.iconst 0, 1) := by decide +kernel
theorem dX6_init_26 : decode cX6_init 26 = .ok (.putfield 24, 3) := by decide +kernel
theorem dX6_init_29 : decode cX6_init 29 = .ok (.aload_n 0, 1) := by decide +kernel
theorem dX6_init_30 : decode cX6_init 30 = .ok (.iconst 0, 1) := by decide +kernel
theorem dX6_init_31 : decode cX6_init 31 = .ok (.putfield 27, 3) := by decide +kernel
theorem dX6_init_34 : decode cX6_init 34 = .ok (.aload_n 0, 1) := by decide +kernel
theorem dX6_init_35 : decode cX6_init 35 = .ok (.iconst 0, 1) := by decide +kernel
theorem dX6_init_36 : decode cX6_init 36 = .ok (.putfield 30, 3) := by decide +kernel
theorem dX6_init_39 : decode cX6_init 39 = .ok (.aload_n 0, 1) := by decide +kernel
theorem dX6_init_40 : decode cX6_init 40 = .ok (.iconst 0, 1) := by decide +kernel
theorem dX6_init_41 : decode cX6_init 41 = .ok (.putfield 33, 3) := by decide +kernel
theorem dX6_init_44 : decode cX6_init 44 = .ok (.aload_n 0, 1) := by decide +kernel
theorem dX6_init_45 : decode cX6_init 45 = .ok (.iconst 0, 1) := by decide +kernel
theorem dX6_init_46 : decode cX6_init 46 = .ok (.putfield 36, 3) := by decide +kernel
theorem dX6_init_49 : decode cX6_init 49 = .ok (.aload_n 0, 1) := by decide +kernel
theorem dX6_init_50 : decode cX6_init 50 = .ok (.iconst 0, 1) := by decide +kernel
theorem dX6_init_51 : decode cX6_init 51 = .ok (.putfield 39, 3) := by decide +kernel
theorem dX6_init_54 : decode cX6_init 54 = .ok (.aload_n 0, 1) := by decide +kernel
theorem dX6_init_55 : decode cX6_init 55 = .ok (.iconst 0, 1) := by decide +kernel
theorem dX6_init_56 : decode cX6_init 56 = .ok (.putfield 42, 3) := by decide +kernel
theorem dX6_init_59 : decode cX6_init 59 = .ok (.aload_n 0, 1) := by decide +kernel
theorem dX6_init_60 : decode cX6_init 60 = .ok (.iconst 0, 1) := by decide +kernel
theorem dX6_init_61 : decode cX6_init 61 = .ok (.putfield 45, 3) := by decide +kernel
theorem dX6_init_64 : decode cX6_init 64 = .ok (.return_, 1) := by decide +kernel
set_option maxRecDepth 20000 in
theorem ggX6_isFixedWith_X7_has : GoodIn wsX6_isFixedWith wsX7_has := goodIn_r _ [5] rfl (by decide +kernel)
set_option maxRecDepth 20000 in
theorem gX6_isFixedWith_X7_has_n48 : GoodIn wsX6_isFixedWith (wsX7_has) := ggX6_isFixedWith_X7_has
theorem dX6_isFixedWith_0 : decode cX6_isFixedWith 0 = .ok (.aload_n 0, 1) := by decide +kernel
theorem dX6_isFixedWith_1 : decode cX6_isFixedWith 1 = .ok (.getfield 33, 3) := by decide +kernel
theorem dX6_isFixedWith_4 : decode cX6_isFixedWith 4 = .ok (.iconst 1, 1) := by decide +kernel
theorem dX6_isFixedWith_5 : decode cX6_isFixedWith 5 = .ok (.if_icmp .ne 18, 3) := by decide +kernel
theorem dX6_isFixedWith_8 : decode cX6_isFixedWith 8 = .ok (.aload_n 0, 1) := by decide +kernel
theorem dX6_isFixedWith_9 : decode cX6_isFixedWith 9 = .ok (.getfield 36, 3) := by decide +kernel
theorem dX6_isFixedWith_12 : decode cX6_isFixedWith 12 = .ok (.iload_n 1, 1) := by decide +kernel
theorem dX6_isFixedWith_13 : decode cX6_isFixedWith 13 = .ok (.invokestatic 48, 3) := by decide +kernel
theorem dX6_isFixedWith_16 : decode cX6_isFixedWith 16 = .ok (.ifCond .eq 7, 3) := by decide +kernel
theorem dX6_isFixedWith_19 : decode cX6_isFixedWith 19 = .ok (.iconst 1, 1) := by decide +kernel
theorem dX6_isFixedWith_20 : decode cX6_isFixedWith 20 = .ok (.goto 4, 3) := by decide +kernel
theorem dX6_isFixedWith_23 : decode cX6_isFixedWith 23 = .ok (.iconst 0, 1) := by decide +kernel
theorem dX6_isFixedWith_24 : decode cX6_isFixedWith 24 = .ok (.ireturn, 1) := by decide +kernel
theorem dX6_quarters_0 : decode cX6_quarters 0 = .ok (.aload_n 0, 1) := by decide +kernel
theorem dX6_quarters_1 : decode cX6_quarters 1 = .ok (.getfield 42, 3) := by decide +kernel
theorem dX6_quarters_4 : decode cX6_quarters 4 = .ok (.bipush 24, 2) := by decide +kernel
theorem dX6_quarters_6 : decode cX6_quarters 6 = .ok (.aload_n 0, 1) := by decide +kernel
theorem dX6_quarters_7 : decode cX6_quarters 7 = .ok (.getfield 21, 3) := by decide +kernel
theorem dX6_quarters_10 : decode cX6_quarters 10 = .ok (.isub, 1) := by decide +kernel
theorem dX6_quarters_11 : decode cX6_quarters 11 = .ok (.aload_n 0, 1) := by decide +kernel
theorem dX6_quarters_12 : decode cX6_quarters 12 = .ok (.getfield 24, 3) := by decide +kernel
theorem dX6_quarters_15 : decode cX6_quarters 15 = .ok (.isub, 1) := by decide +kernel
theorem dX6_quarters_16 : decode cX6_quarters 16 = .ok (.bipush 60, 2) := by decide +kernel
theorem dX6_quarters_18 : decode cX6_quarters 18 = .ok (.imul, 1) := by decide +kernel
theorem dX6_quarters_19 : decode cX6_quarters 19 = .ok (.invokestatic 52, 3) := by decide +kernel
theorem dX6_quarters_22 : decode cX6_quarters 22 = .ok (.istore_n 1, 1) := by decide +kernel
theorem dX6_quarters_23 : decode cX6_quarters 23 = .ok (.iload_n 1, 1) := by decide +kernel
theorem dX6_quarters_24 : decode cX6_quarters 24 = .ok (.bipush 14, 2) := by decide +kernel
theorem dX6_quarters_26 : decode cX6_quarters 26 = .ok (.iadd, 1) := by decide +kernel
theorem dX6_quarters_27 : decode cX6_quarters 27 = .ok (.bipush 15, 2) := by decide +kernel
theorem dX6_quarters_29 : decode cX6_quarters 29 = .ok (.idiv, 1) := by decide +kernel
theorem dX6_quarters_30 : decode cX6_quarters 30 = .ok (.ireturn, 1) := by decide +kernel
set_option maxRecDepth 20000 in
theorem ggX7_init_X4_init : GoodIn wsX7_init wsX4_init := goodIn_r _ [44, 45, 2, 3, 46, 16, 47, 48, 123, 124] rfl (by decide +kernel)
set_option maxRecDepth 20000 in
theorem gX7_init_X4_init : GoodIn wsX7_init (wsX4_init) := ggX7_init_X4_init
set_option maxRecDepth 20000 in
theorem ggX7_init_X2_init : GoodIn wsX7_init wsX2_init := goodIn_r _ [50, 51, 2, 3, 52, 53, 54, 55, 56, 57, 125, 126, 127, 128, 129, 130] rfl (by decide +kernel)
set_option maxRecDepth 20000 in
theorem gX7_init_X2_init_n69 : GoodIn wsX7_init (wsX2_init) := ggX7_init_X2_init
set_option maxRecDepth 20000 in
theorem ggX7_init_X1_init : GoodIn wsX7_init wsX1_init := goodIn_r _ [59, 60, 2, 3, 16, 61, 62, 63, 64, 65, 66, 67, 131, 132, 133, 134, 135, 136, 137] rfl (by decide +kernel)
set_option maxRecDepth 20000 in
theorem gX7_init_X1_init_n76 : GoodIn wsX7_init (wsX1_init) := ggX7_init_X1_init
set_option maxRecDepth 20000 in
theorem ggX7_init_X3_init : GoodIn wsX7_init wsX3_init := goodIn_r _ [69, 70, 2, 3, 71, 72, 73, 74, 75, 76, 77, 78, 138, 139, 140, 141, 142, 143, 144, 145] rfl (by decide +kernel)
set_option maxRecDepth 20000 in
theorem gX7_init_X3_init_n81 : GoodIn wsX7_init (wsX3_init) := ggX7_init_X3_init
set_option maxRecDepth 20000 in
theorem ggX7_init_X5_init : GoodIn wsX7_init wsX5_init := goodIn_r _ [81, 82, 2, 3, 83, 84, 85, 86, 146, 147, 148, 149] rfl (by decide +kernel)
set_option maxRecDepth 20000 in
theorem gX7_init_X5_init : GoodIn wsX7_init (wsX5_init) := ggX7_init_X5_init
set_option maxRecDepth 20000 in
theorem ggX7_init_X0_init : GoodIn wsX7_init wsX0_init := goodIn_r _ [88, 89, 2, 3, 16, 90, 91, 92, 150, 151, 152] rfl (by decide +kernel)
set_option maxRecDepth 20000 in
theorem gX7_init_X0_init_n85 : GoodIn wsX7_init (wsX0_init) := ggX7_init_X0_init
set_option maxRecDepth 20000 in
theorem ggX7_init_X6_init : GoodIn wsX7_init wsX6_init := goodIn_r _ [94, 95, 2, 3, 96, 97, 98, 99, 100, 101, 102, 103, 104, 105, 106, 107, 153, 154, 155, 156, 157, 158, 159, 160, 161, 162, 163, 164] rfl (by decide +kernel)
set_option maxRecDepth 20000 in
theorem gX7_init_X6_init_n86 : GoodIn wsX7_init (wsX6_init) := ggX7_init_X6_init
theorem dX7_init_0 : decode cX7_init 0 = .ok (.aload_n 0, 1) := by decide +kernel
theorem dX7_init_1 : decode cX7_init 1 = .ok (.invokespecial 1, 3) := by decide +kernel
theorem dX7_init_4 : decode cX7_init 4 = .ok (.aload_n 0, 1) := by decide +kernel
theorem dX7_init_5 : decode cX7_init 5 = .ok (.bipush 10, 2) := by decide +kernel
theorem dX7_init_7 : decode cX7_init 7 = .ok (.anewarray 9, 3) := by decide +kernel
theorem dX7_init_10 : decode cX7_init 10 = .ok (.putfield 11, 3) := by decide +kernel
theorem dX7_init_13 : decode cX7_init 13 = .ok (.aload_n 0, 1) := by decide +kernel
theorem dX7_init_14 : decode cX7_init 14 = .ok (.bipush 16, 2) := by decide +kernel
theorem dX7_init_16 : decode cX7_init 16 = .ok (.anewarray 15, 3) := by decide +kernel
theorem dX7_init_19 : decode cX7_init 19 = .ok (.putfield 17, 3) := by decide +kernel
theorem dX7_init_22 : decode cX7_init 22 = .ok (.aload_n 0, 1) := by decide +kernel
theorem dX7_init_23 : decode cX7_init 23 = .ok (.bipush 6, 2) := by decide +kernel
theorem dX7_init_25 : decode cX7_init 25 = .ok (.anewarray 21, 3) := by decide +kernel
theorem dX7_init_28 : decode cX7_init 28 = .ok (.putfield 23, 3) := by decide +kernel
theorem dX7_init_31 : decode cX7_init 31 = .ok (.aload_n 0, 1) := by decide +kernel
theorem dX7_init_32 : decode cX7_init 32 = .ok (.bipush 14, 2) := by decide +kernel
theorem dX7_init_34 : decode cX7_init 34 = .ok (.anewarray 27, 3) := by decide +kernel
theorem dX7_init_37 : decode cX7_init 37 = .ok (.putfield 29, 3) := by decide +kernel
theorem dX7_init_40 : decode cX7_init 40 = .ok (.aload_n 0, 1) := by decide +kernel
theorem dX7_init_41 : decode cX7_init 41 = .ok (.new 33, 3) := by decide +kernel
theorem dX7_init_44 : decode cX7_init 44 = .ok (.dup, 1) := by decide +kernel
theorem dX7_init_45 : decode cX7_init 45 = .ok (.invokespecial 35, 3) := by decide +kernel
theorem dX7_init_48 : decode cX7_init 48 = .ok (.putfield 36, 3) := by decide +kernel
theorem dX7_init_51 : decode cX7_init 51 = .ok (.aload_n 0, 1) := by decide +kernel
theorem dX7_init_52 : decode cX7_init 52 = .ok (.sipush 366, 3) := by decide +kernel
theorem dX7_init_55 : decode cX7_init 55 = .ok (.newarray .int, 2) := by decide +kernel
theorem dX7_init_57 : decode cX7_init 57 = .ok (.putfield 40, 3) := by decide +kernel
theorem dX7_init_60 : decode cX7_init 60 = .ok (.aload_n 0, 1) := by decide +kernel
theorem dX7_init_61 : decode cX7_init 61 = .ok (.iconst 0, 1) := by decide +kernel
theorem dX7_init_62 : decode cX7_init 62 = .ok (.putfield 44, 3) := by decide +kernel
theorem dX7_init_65 : decode cX7_init 65 = .ok (.aload_n 0, 1) := by decide +kernel
theorem dX7_init_66 : decode cX7_init 66 = .ok (.iconst 0, 1) := by decide +kernel
theorem dX7_init_67 : decode cX7_init 67 = .ok (.putfield 48, 3) := by decide +kernel
theorem dX7_init_70 : decode cX7_init 70 = .ok (.aload_n 0, 1) := by decide +kernel
theorem dX7_init_71 : decode cX7_init 71 = .ok (.iconst 0, 1) := by decide +kernel
theorem dX7_init_72 : decode cX7_init 72 = .ok (.putfield 51, 3) := by decide +kernel
theorem dX7_init_75 : decode cX7_init 75 = .ok (.aload_n 0, 1) := by decide +kernel
theorem dX7_init_76 : decode cX7_init 76 = .ok (.iconst 0, 1) := by decide +kernel
theorem dX7_init_77 : decode cX7_init 77 = .ok (.putfield 54, 3) := by decide +kernel
theorem dX7_init_80 : decode cX7_init 80 = .ok (.aload_n 0, 1) := by decide +kernel
theorem dX7_init_81 : decode cX7_init 81 = .ok (.iconst 0, 1) := by decide +kernel
theorem dX7_init_82 : decode cX7_init 82 = .ok (.putfield 57, 3) := by decide +kernel
theorem dX7_init_85 : decode cX7_init 85 = .ok (.aload_n 0, 1) := by decide +kernel
theorem dX7_init_86 : decode cX7_init 86 = .ok (.bipush 14, 2) := by decide +kernel
theorem dX7_init_88 : decode cX7_init 88 = .ok (.newarray .int, 2) := by decide +kernel
theorem dX7_init_90 : decode cX7_init 90 = .ok (.putfield 60, 3) := by decide +kernel
theorem dX7_init_93 : decode cX7_init 93 = .ok (.aload_n 0, 1) := by decide +kernel
theorem dX7_init_94 : decode cX7_init 94 = .ok (.sipush 1024, 3) := by decide +kernel
theorem dX7_init_97 : decode cX7_init 97 = .ok (.newarray .boolean, 2) := by decide +kernel
theorem dX7_init_99 : decode cX7_init 99 = .ok (.putfield 63, 3) := by decide +kernel
theorem dX7_init_102 : decode cX7_init 102 = .ok (.aload_n 0, 1) := by decide +kernel
theorem dX7_init_103 : decode cX7_init 103 = .ok (.new 67, 3) := by decide +kernel
theorem dX7_init_106 : decode cX7_init 106 = .ok (.dup, 1) := by decide +kernel
theorem dX7_init_107 : decode cX7_init 107 = .ok (.invokespecial 69, 3) := by decide +kernel
theorem dX7_init_110 : decode cX7_init 110 = .ok (.putfield 70, 3) := by decide +kernel
theorem dX7_init_113 : decode cX7_init 113 = .ok (.aload_n 0, 1) := by decide +kernel
theorem dX7_init_114 : decode cX7_init 114 = .ok (.new 74, 3) := by decide +kernel
theorem dX7_init_117 : decode cX7_init 117 = .ok (.dup, 1) := by decide +kernel
theorem dX7_init_118 : decode cX7_init 118 = .ok (.invokespecial 76, 3) := by decide +kernel
theorem dX7_init_121 : decode cX7_init 121 = .ok (.putfield 77, 3) := by decide +kernel
theorem dX7_init_124 : decode cX7_init 124 = .ok (.iconst 0, 1) := by decide +kernel
theorem dX7_init_125 : decode cX7_init 125 = .ok (.istore_n 1, 1) := by decide +kernel
theorem dX7_init_126 : decode cX7_init 126 = .ok (.iload_n 1, 1) := by decide +kernel
theorem dX7_init_127 : decode cX7_init 127 = .ok (.bipush 10, 2) := by decide +kernel
theorem dX7_init_129 : decode cX7_init 129 = .ok (.if_icmp .ge 22, 3) := by decide +kernel
theorem dX7_init_132 : decode cX7_init 132 = .ok (.aload_n 0, 1) := by decide +kernel
theorem dX7_init_133 : decode cX7_init 133 = .ok (.getfield 11, 3) := by decide +kernel
theorem dX7_init_136 : decode cX7_init 136 = .ok (.iload_n 1, 1) := by decide +kernel
theorem dX7_init_137 : decode cX7_init 137 = .ok (.new 9, 3) := by decide +kernel
theorem dX7_init_140 : decode cX7_init 140 = .ok (.dup, 1) := by decide +kernel
theorem dX7_init_141 : decode cX7_init 141 = .ok (.invokespecial 81, 3) := by decide +kernel
theorem dX7_init_144 : decode cX7_init 144 = .ok (.aastore, 1) := by decide +kernel
theorem dX7_init_145 : decode cX7_init 145 = .ok (.iinc 1 1, 3) := by decide +kernel
theorem dX7_init_148 : decode cX7_init 148 = .ok (.goto (-22), 3) := by decide +kernel
theorem dX7_init_151 : decode cX7_init 151 = .ok (.iconst 0, 1) := by decide +kernel
theorem dX7_init_152 : decode cX7_init 152 = .ok (.istore_n 1, 1) := by decide +kernel
theorem dX7_init_153 : decode cX7_init 153 = .ok (.iload_n 1, 1) := by decide +kernel
theorem dX7_init_154 : decode cX7_init 154 = .ok (.bipush 16, 2) := by decide +kernel
theorem dX7_init_156 : decode cX7_init 156 = .ok (.if_icmp .ge 26, 3) := by decide +kernel
theorem dX7_init_159 : decode cX7_init 159 = .ok (.aload_n 0, 1) := by decide +kernel
theorem dX7_init_160 : decode cX7_init 160 = .ok (.getfield 17, 3) := by decide +kernel
theorem dX7_init_163 : decode cX7_init 163 = .ok (.iload_n 1, 1) := by decide +kernel
theorem dX7_init_164 : decode cX7_init 164 = .ok (.new 15, 3) := by decide +kernel
theorem dX7_init_167 : decode cX7_init 167 = .ok (.dup, 1) := by decide +kernel
theorem dX7_init_168 : decode cX7_init 168 = .ok (.iload_n 1, 1) := by decide +kernel
theorem dX7_init_169 : decode cX7_init 169 = .ok (.bipush 12, 2) := by decide +kernel
theorem dX7_init_171 : decode cX7_init 171 = .ok (.irem, 1) := by decide +kernel
theorem dX7_init_172 : decode cX7_init 172 = .ok (.invokespecial 82, 3) := by decide +kernel
theorem dX7_init_175 : decode cX7_init 175 = .ok (.aastore, 1) := by decide +kernel
theorem dX7_init_176 : decode cX7_init 176 = .ok (.iinc 1 1, 3) := by decide +kernel
theorem dX7_init_179 : decode cX7_init 179 = .ok (.goto (-26), 3) := by decide +kernel
theorem dX7_init_182 : decode cX7_init 182 = .ok (.iconst 0, 1) := by decide +kernel
theorem dX7_init_183 : decode cX7_init 183 = .ok (.istore_n 1, 1) := by decide +kernel
theorem dX7_init_184 : decode cX7_init 184 = .ok (.iload_n 1, 1) := by decide +kernel
theorem dX7_init_185 : decode cX7_init 185 = .ok (.bipush 6, 2) := by decide +kernel
theorem dX7_init_187 : decode cX7_init 187 = .ok (.if_icmp .ge 22, 3) := by decide +kernel
theorem dX7_init_190 : decode cX7_init 190 = .ok (.aload_n 0, 1) := by decide +kernel
theorem dX7_init_191 : decode cX7_init 191 = .ok (.getfield 23, 3) := by decide +kernel
theorem dX7_init_194 : decode cX7_init 194 = .ok (.iload_n 1, 1) := by decide +kernel
theorem dX7_init_195 : decode cX7_init 195 = .ok (.new 21, 3) := by decide +kernel
theorem dX7_init_198 : decode cX7_init 198 = .ok (.dup, 1) := by decide +kernel
theorem dX7_init_199 : decode cX7_init 199 = .ok (.invokespecial 85, 3) := by decide +kernel
theorem dX7_init_202 : decode cX7_init 202 = .ok (.aastore, 1) := by decide +kernel
theorem dX7_init_203 : decode cX7_init 203 = .ok (.iinc 1 1, 3) := by decide +kernel
theorem dX7_init_206 : decode cX7_init 206 = .ok (.goto (-22), 3) := by decide +kernel
theorem dX7_init_209 : decode cX7_init 209 = .ok (.iconst 0, 1) := by decide +kernel
theorem dX7_init_210 : decode cX7_init 210 = .ok (.istore_n 1, 1) := by decide +kernel
theorem dX7_init_211 : decode cX7_init 211 = .ok (.iload_n 1, 1) := by decide +kernel
theorem dX7_init_212 : decode cX7_init 212 = .ok (.bipush 14, 2) := by decide +kernel
theorem dX7_init_214 : decode cX7_init 214 = .ok (.if_icmp .ge 22, 3) := by decide +kernel
theorem dX7_init_217 : decode cX7_init 217 = .ok (.aload_n 0, 1) := by decide +kernel
theorem dX7_init_218 : decode cX7_init 218 = .ok (.getfield 29, 3) := by decide +kernel
theorem dX7_init_221 : decode cX7_init 221 = .ok (.iload_n 1, 1) := by decide +kernel
theorem dX7_init_222 : decode cX7_init 222 = .ok (.new 27, 3) := by decide +kernel
theorem dX7_init_225 : decode cX7_init 225 = .ok (.dup, 1) := by decide +kernel
theorem dX7_init_226 : decode cX7_init 226 = .ok (.invokespecial 86, 3) := by decide +kernel
theorem dX7_init_229 : decode cX7_init 229 = .ok (.aastore, 1) := by decide +kernel
theorem dX7_init_230 : decode cX7_init 230 = .ok (.iinc 1 1, 3) := by decide +kernel
theorem dX7_init_233 : decode cX7_init 233 = .ok (.goto (-22), 3) := by decide +kernel
theorem dX7_init_236 : decode cX7_init 236 = .ok (.return_, 1) := by decide +kernel
set_option maxRecDepth 20000 in
theorem ggX7_player_X7_isTown : GoodIn wsX7_player wsX7_isTown := goodIn_r _ [16] rfl (by decide +kernel)
set_option maxRecDepth 20000 in
theorem gX7_player_X7_isTown : GoodIn wsX7_player (va_wsS RX7 87 yX7_isTown wsX7_isTown) := goodIn_app (goodIn_of _ (by decide +kernel)) ggX7_player_X7_isTown
set_option maxRecDepth 20000 in
theorem ggX7_player_X7_isSetOfSongs : GoodIn wsX7_player wsX7_isSetOfSongs := goodIn_r _ [19, 20] rfl (by decide +kernel)
set_option maxRecDepth 20000 in
theorem gX7_player_X7_isSetOfSongs : GoodIn wsX7_player (va_wsS RX7 98 yX7_isSetOfSongs wsX7_isSetOfSongs) := goodIn_app (goodIn_of _ (by decide +kernel)) ggX7_player_X7_isSetOfSongs
theorem dX7_player_0 : decode cX7_player 0 = .ok (.iload_n 3, 1) := by decide +kernel
theorem dX7_player_1 : decode cX7_player 1 = .ok (.invokestatic 87, 3) := by decide +kernel
theorem dX7_player_4 : decode cX7_player 4 = .ok (.ifCond .ne 13, 3) := by decide +kernel
theorem dX7_player_7 : decode cX7_player 7 = .ok (.new 91, 3) := by decide +kernel
theorem dX7_player_10 : decode cX7_player 10 = .ok (.dup, 1) := by decide +kernel
theorem dX7_player_11 : decode cX7_player 11 = .ok (.ldc 93, 2) := by decide +kernel
theorem dX7_player_13 : decode cX7_player 13 = .ok (.invokespecial 95, 3) := by decide +kernel
theorem dX7_player_16 : decode cX7_player 16 = .ok (.athrow, 1) := by decide +kernel
theorem dX7_player_17 : decode cX7_player 17 = .ok (.iload_n 1, 1) := by decide +kernel
theorem dX7_player_18 : decode cX7_player 18 = .ok (.iconst 1, 1) := by decide +kernel
theorem dX7_player_19 : decode cX7_player 19 = .ok (.if_icmp .lt 29, 3) := by decide +kernel
theorem dX7_player_22 : decode cX7_player 22 = .ok (.iload_n 1, 1) := by decide +kernel
theorem dX7_player_23 : decode cX7_player 23 = .ok (.bipush 64, 2) := by decide +kernel
theorem dX7_player_25 : decode cX7_player 25 = .ok (.if_icmp .ge 23, 3) := by decide +kernel
theorem dX7_player_28 : decode cX7_player 28 = .ok (.iload_n 2, 1) := by decide +kernel
theorem dX7_player_29 : decode cX7_player 29 = .ok (.invokestatic 98, 3) := by decide +kernel
theorem dX7_player_32 : decode cX7_player 32 = .ok (.ifCond .eq 16, 3) := by decide +kernel
theorem dX7_player_35 : decode cX7_player 35 = .ok (.iload 4, 2) := by decide +kernel
theorem dX7_player_37 : decode cX7_player 37 = .ok (.iconst 1, 1) := by decide +kernel
theorem dX7_player_38 : decode cX7_player 38 = .ok (.if_icmp .lt 10, 3) := by decide +kernel
theorem dX7_player_41 : decode cX7_player 41 = .ok (.iload 4, 2) := by decide +kernel
theorem dX7_player_43 : decode cX7_player 43 = .ok (.bipush 99, 2) := by decide +kernel
theorem dX7_player_45 : decode cX7_player 45 = .ok (.if_icmp .le 13, 3) := by decide +kernel
theorem dX7_player_48 : decode cX7_player 48 = .ok (.new 101, 3) := by decide +kernel
theorem dX7_player_51 : decode cX7_player 51 = .ok (.dup, 1) := by decide +kernel
theorem dX7_player_52 : decode cX7_player 52 = .ok (.ldc 103, 2) := by decide +kernel
theorem dX7_player_54 : decode cX7_player 54 = .ok (.invokespecial 105, 3) := by decide +kernel
theorem dX7_player_57 : decode cX7_player 57 = .ok (.athrow, 1) := by decide +kernel
theorem dX7_player_58 : decode cX7_player 58 = .ok (.aload_n 0, 1) := by decide +kernel
theorem dX7_player_59 : decode cX7_player 59 = .ok (.getfield 44, 3) := by decide +kernel
theorem dX7_player_62 : decode cX7_player 62 = .ok (.bipush 10, 2) := by decide +kernel
theorem dX7_player_64 : decode cX7_player 64 = .ok (.if_icmp .lt 13, 3) := by decide +kernel
theorem dX7_player_67 : decode cX7_player 67 = .ok (.new 106, 3) := by decide +kernel
theorem dX7_player_70 : decode cX7_player 70 = .ok (.dup, 1) := by decide +kernel
theorem dX7_player_71 : decode cX7_player 71 = .ok (.ldc 108, 2) := by decide +kernel
theorem dX7_player_73 : decode cX7_player 73 = .ok (.invokespecial 110, 3) := by decide +kernel
theorem dX7_player_76 : decode cX7_player 76 = .ok (.athrow, 1) := by decide +kernel
theorem dX7_player_77 : decode cX7_player 77 = .ok (.aload_n 0, 1) := by decide +kernel
theorem dX7_player_78 : decode cX7_player 78 = .ok (.getfield 11, 3) := by decide +kernel
theorem dX7_player_81 : decode cX7_player 81 = .ok (.aload_n 0, 1) := by decide +kernel
theorem dX7_player_82 : decode cX7_player 82 = .ok (.getfield 44, 3) := by decide +kernel
theorem dX7_player_85 : decode cX7_player 85 = .ok (.aaload, 1) := by decide +kernel
theorem dX7_player_86 : decode cX7_player 86 = .ok (.astore 5, 2) := by decide +kernel
theorem dX7_player_88 : decode cX7_player 88 = .ok (.aload 5, 2) := by decide +kernel
theorem dX7_player_90 : decode cX7_player 90 = .ok (.iload_n 1, 1) := by decide +kernel
theorem dX7_player_91 : decode cX7_player 91 = .ok (.putfield 111, 3) := by decide +kernel
theorem dX7_player_94 : decode cX7_player 94 = .ok (.aload 5, 2) := by decide +kernel
theorem dX7_player_96 : decode cX7_player 96 = .ok (.iload_n 2, 1) := by decide +kernel
theorem dX7_player_97 : decode cX7_player 97 = .ok (.putfield 114, 3) := by decide +kernel
theorem dX7_player_100 : decode cX7_player 100 = .ok (.aload 5, 2) := by decide +kernel
theorem dX7_player_102 : decode cX7_player 102 = .ok (.iload_n 3, 1) := by decide +kernel
theorem dX7_player_103 : decode cX7_player 103 = .ok (.putfield 117, 3) := by decide +kernel
theorem dX7_player_106 : decode cX7_player 106 = .ok (.aload 5, 2) := by decide +kernel
theorem dX7_player_108 : decode cX7_player 108 = .ok (.iload 4, 2) := by decide +kernel
theorem dX7_player_110 : decode cX7_player 110 = .ok (.putfield 120, 3) := by decide +kernel
theorem dX7_player_113 : decode cX7_player 113 = .ok (.aload_n 0, 1) := by decide +kernel
theorem dX7_player_114 : decode cX7_player 114 = .ok (.dup, 1) := by decide +kernel
theorem dX7_player_115 : decode cX7_player 115 = .ok (.getfield 44, 3) := by decide +kernel
theorem dX7_player_118 : decode cX7_player 118 = .ok (.iconst 1, 1) := by decide +kernel
theorem dX7_player_119 : decode cX7_player 119 = .ok (.iadd, 1) := by decide +kernel
theorem dX7_player_120 : decode cX7_player 120 = .ok (.putfield 44, 3) := by decide +kernel
theorem dX7_player_123 : decode cX7_player 123 = .ok (.aload_n 0, 1) := by decide +kernel
theorem dX7_player_124 : decode cX7_player 124 = .ok (.getfield 44, 3) := by decide +kernel
theorem dX7_player_127 : decode cX7_player 127 = .ok (.iconst 1, 1) := by decide +kernel
theorem dX7_player_128 : decode cX7_player 128 = .ok (.isub, 1) := by decide +kernel
theorem dX7_player_129 : decode cX7_player 129 = .ok (.ireturn, 1) := by decide +kernel
set_option maxRecDepth 20000 in
theorem ggX7_learn_X7_checkPlayer : GoodIn wsX7_learn wsX7_checkPlayer := goodIn_ca (goodIn_r _ [9, 10, 11, 12, 24, 25, 26, 27, 28, 29, 30, 31, 32, 33, 34, 35, 36, 37, 38] rfl (by decide +kernel)) (goodIn_sub (fun _ h => List.mem_cons_of_mem _ (List.mem_append_right _ h)) (by decide +kernel))
set_option maxRecDepth 20000 in
theorem gX7_learn_X7_checkPlayer : GoodIn wsX7_learn (wsV RX7 123 RX7 yX7_checkPlayer wsX7_checkPlayer) := goodIn_app (goodIn_of _ (by decide +kernel)) ggX7_learn_X7_checkPlayer
set_option maxRecDepth 20000 in
theorem ggX7_learn_X7_isSetOfSongs : GoodIn wsX7_learn wsX7_isSetOfSongs := goodIn_r _ [15, 16] rfl (by decide +kernel)
set_option maxRecDepth 20000 in
theorem gX7_learn_X7_isSetOfSongs : GoodIn wsX7_learn (va_wsS RX7 98 yX7_isSetOfSongs wsX7_isSetOfSongs) := goodIn_app (goodIn_of _ (by decide +kernel)) ggX7_learn_X7_isSetOfSongs
set_option maxRecDepth 20000 in
theorem ggX7_learn_J6_bitCount_0f7a4 : GoodIn wsX7_learn wsJ6_bitCount_0f7a4 := goodIn_r _ [20, 21, 22, 23] rfl (by decide +kernel)
set_option maxRecDepth 20000 in
theorem gX7_learn_J6_bitCount_0f7a4 : GoodIn wsX7_learn (va_wsS RX7 128 yJ6_bitCount_0f7a4 wsJ6_bitCount_0f7a4) := goodIn_app (goodIn_of _ (by decide +kernel)) ggX7_learn_J6_bitCount_0f7a4
theorem dX7_learn_0 : decode cX7_learn 0 = .ok (.aload_n 0, 1) := by decide +kernel
theorem dX7_learn_1 : decode cX7_learn 1 = .ok (.iload_n 1, 1) := by decide +kernel
theorem dX7_learn_2 : decode cX7_learn 2 = .ok (.invokevirtual 123, 3) := by decide +kernel
theorem dX7_learn_5 : decode cX7_learn 5 = .ok (.iload_n 2, 1) := by decide +kernel
theorem dX7_learn_6 : decode cX7_learn 6 = .ok (.invokestatic 98, 3) := by decide +kernel
theorem dX7_learn_9 : decode cX7_learn 9 = .ok (.ifCond .ne 13, 3) := by decide +kernel
theorem dX7_learn_12 : decode cX7_learn 12 = .ok (.new 101, 3) := by decide +kernel
theorem dX7_learn_15 : decode cX7_learn 15 = .ok (.dup, 1) := by decide +kernel
theorem dX7_learn_16 : decode cX7_learn 16 = .ok (.ldc 126, 2) := by decide +kernel
theorem dX7_learn_18 : decode cX7_learn 18 = .ok (.invokespecial 105, 3) := by decide +kernel
theorem dX7_learn_21 : decode cX7_learn 21 = .ok (.athrow, 1) := by decide +kernel
theorem dX7_learn_22 : decode cX7_learn 22 = .ok (.aload_n 0, 1) := by decide +kernel
theorem dX7_learn_23 : decode cX7_learn 23 = .ok (.getfield 11, 3) := by decide +kernel
theorem dX7_learn_26 : decode cX7_learn 26 = .ok (.iload_n 1, 1) := by decide +kernel
theorem dX7_learn_27 : decode cX7_learn 27 = .ok (.aaload, 1) := by decide +kernel
theorem dX7_learn_28 : decode cX7_learn 28 = .ok (.dup, 1) := by decide +kernel
theorem dX7_learn_29 : decode cX7_learn 29 = .ok (.getfield 114, 3) := by decide +kernel
theorem dX7_learn_32 : decode cX7_learn 32 = .ok (.iload_n 2, 1) := by decide +kernel
theorem dX7_learn_33 : decode cX7_learn 33 = .ok (.ior, 1) := by decide +kernel
theorem dX7_learn_34 : decode cX7_learn 34 = .ok (.putfield 114, 3) := by decide +kernel
theorem dX7_learn_37 : decode cX7_learn 37 = .ok (.aload_n 0, 1) := by decide +kernel
theorem dX7_learn_38 : decode cX7_learn 38 = .ok (.getfield 11, 3) := by decide +kernel
theorem dX7_learn_41 : decode cX7_learn 41 = .ok (.iload_n 1, 1) := by decide +kernel
theorem dX7_learn_42 : decode cX7_learn 42 = .ok (.aaload, 1) := by decide +kernel
theorem dX7_learn_43 : decode cX7_learn 43 = .ok (.getfield 114, 3) := by decide +kernel
theorem dX7_learn_46 : decode cX7_learn 46 = .ok (.invokestatic 128, 3) := by decide +kernel
theorem dX7_learn_49 : decode cX7_learn 49 = .ok (.ireturn, 1) := by decide +kernel
set_option maxRecDepth 20000 in
theorem ggX7_song_X7_checkSong : GoodIn wsX7_song wsX7_checkSong := goodIn_ca (goodIn_r _ [10, 11, 12] rfl (by decide +kernel)) (goodIn_sub (fun _ h => List.mem_cons_of_mem _ (List.mem_append_right _ h)) (by decide +kernel))
set_option maxRecDepth 20000 in
theorem gX7_song_X7_checkSong : GoodIn wsX7_song (va_wsS RX7 134 yX7_checkSong wsX7_checkSong) := goodIn_app (goodIn_of _ (by decide +kernel)) ggX7_song_X7_checkSong
theorem dX7_song_0 : decode cX7_song 0 = .ok (.iload_n 1, 1) := by decide +kernel
theorem dX7_song_1 : decode cX7_song 1 = .ok (.invokestatic 134, 3) := by decide +kernel
theorem dX7_song_4 : decode cX7_song 4 = .ok (.iload_n 2, 1) := by decide +kernel
theorem dX7_song_5 : decode cX7_song 5 = .ok (.ifCond .lt 32, 3) := by decide +kernel
theorem dX7_song_8 : decode cX7_song 8 = .ok (.iload_n 2, 1) := by decide +kernel
theorem dX7_song_9 : decode cX7_song 9 = .ok (.bipush 12, 2) := by decide +kernel
theorem dX7_song_11 : decode cX7_song 11 = .ok (.if_icmp .ge 26, 3) := by decide +kernel
theorem dX7_song_14 : decode cX7_song 14 = .ok (.iload_n 3, 1) := by decide +kernel
theorem dX7_song_15 : decode cX7_song 15 = .ok (.ifCond .lt 22, 3) := by decide +kernel
theorem dX7_song_18 : decode cX7_song 18 = .ok (.iload_n 3, 1) := by decide +kernel
theorem dX7_song_19 : decode cX7_song 19 = .ok (.bipush 10, 2) := by decide +kernel
theorem dX7_song_21 : decode cX7_song 21 = .ok (.if_icmp .ge 16, 3) := by decide +kernel
theorem dX7_song_24 : decode cX7_song 24 = .ok (.iload 4, 2) := by decide +kernel
theorem dX7_song_26 : decode cX7_song 26 = .ok (.iconst 2, 1) := by decide +kernel
theorem dX7_song_27 : decode cX7_song 27 = .ok (.if_icmp .lt 10, 3) := by decide +kernel
theorem dX7_song_30 : decode cX7_song 30 = .ok (.iload 4, 2) := by decide +kernel
theorem dX7_song_32 : decode cX7_song 32 = .ok (.bipush 9, 2) := by decide +kernel
theorem dX7_song_34 : decode cX7_song 34 = .ok (.if_icmp .le 13, 3) := by decide +kernel
theorem dX7_song_37 : decode cX7_song 37 = .ok (.new 101, 3) := by decide +kernel
theorem dX7_song_40 : decode cX7_song 40 = .ok (.dup, 1) := by decide +kernel
theorem dX7_song_41 : decode cX7_song 41 = .ok (.ldc 137, 2) := by decide +kernel
theorem dX7_song_43 : decode cX7_song 43 = .ok (.invokespecial 105, 3) := by decide +kernel
theorem dX7_song_46 : decode cX7_song 46 = .ok (.athrow, 1) := by decide +kernel
theorem dX7_song_47 : decode cX7_song 47 = .ok (.aload_n 0, 1) := by decide +kernel
theorem dX7_song_48 : decode cX7_song 48 = .ok (.getfield 17, 3) := by decide +kernel
theorem dX7_song_51 : decode cX7_song 51 = .ok (.iload_n 1, 1) := by decide +kernel
theorem dX7_song_52 : decode cX7_song 52 = .ok (.aaload, 1) := by decide +kernel
theorem dX7_song_53 : decode cX7_song 53 = .ok (.astore 5, 2) := by decide +kernel
theorem dX7_song_55 : decode cX7_song 55 = .ok (.aload 5, 2) := by decide +kernel
theorem dX7_song_57 : decode cX7_song 57 = .ok (.getfield 139, 3) := by decide +kernel
theorem dX7_song_60 : decode cX7_song 60 = .ok (.istore 6, 2) := by decide +kernel
theorem dX7_song_62 : decode cX7_song 62 = .ok (.aload 5, 2) := by decide +kernel
theorem dX7_song_64 : decode cX7_song 64 = .ok (.iload_n 2, 1) := by decide +kernel
theorem dX7_song_65 : decode cX7_song 65 = .ok (.putfield 142, 3) := by decide +kernel
theorem dX7_song_68 : decode cX7_song 68 = .ok (.aload 5, 2) := by decide +kernel
theorem dX7_song_70 : decode cX7_song 70 = .ok (.iload_n 3, 1) := by decide +kernel
theorem dX7_song_71 : decode cX7_song 71 = .ok (.putfield 145, 3) := by decide +kernel
theorem dX7_song_74 : decode cX7_song 74 = .ok (.aload 5, 2) := by decide +kernel
theorem dX7_song_76 : decode cX7_song 76 = .ok (.iload 4, 2) := by decide +kernel
theorem dX7_song_78 : decode cX7_song 78 = .ok (.putfield 139, 3) := by decide +kernel
theorem dX7_song_81 : decode cX7_song 81 = .ok (.iload 6, 2) := by decide +kernel
theorem dX7_song_83 : decode cX7_song 83 = .ok (.ireturn, 1) := by decide +kernel
set_option maxRecDepth 20000 in
theorem ggX7_feud_X7_checkPlayer : GoodIn wsX7_feud wsX7_checkPlayer := goodIn_ca (goodIn_r _ [9, 10, 11, 12, 16, 17, 18, 19, 20, 21, 22, 23, 24, 25, 26, 27, 28, 29, 30] rfl (by decide +kernel)) (goodIn_sub (fun _ h => List.mem_cons_of_mem _ (List.mem_append_right _ h)) (by decide +kernel))
set_option maxRecDepth 20000 in
theorem gX7_feud_X7_checkPlayer : GoodIn wsX7_feud (wsV RX7 123 RX7 yX7_checkPlayer wsX7_checkPlayer) := goodIn_app (goodIn_of _ (by decide +kernel)) ggX7_feud_X7_checkPlayer
set_option maxRecDepth 20000 in
theorem ggX7_feud_X7_has : GoodIn wsX7_feud wsX7_has := goodIn_r _ [15] rfl (by decide +kernel)
set_option maxRecDepth 20000 in
theorem gX7_feud_X7_has : GoodIn wsX7_feud (va_wsS RX7 153 yX7_has wsX7_has) := goodIn_app (goodIn_of _ (by decide +kernel)) ggX7_feud_X7_has
theorem dX7_feud_0 : decode cX7_feud 0 = .ok (.aload_n 0, 1) := by decide +kernel
theorem dX7_feud_1 : decode cX7_feud 1 = .ok (.iload_n 1, 1) := by decide +kernel
theorem dX7_feud_2 : decode cX7_feud 2 = .ok (.invokevirtual 123, 3) := by decide +kernel
theorem dX7_feud_5 : decode cX7_feud 5 = .ok (.aload_n 0, 1) := by decide +kernel
theorem dX7_feud_6 : decode cX7_feud 6 = .ok (.iload_n 2, 1) := by decide +kernel
theorem dX7_feud_7 : decode cX7_feud 7 = .ok (.invokevirtual 123, 3) := by decide +kernel
theorem dX7_feud_10 : decode cX7_feud 10 = .ok (.iload_n 1, 1) := by decide +kernel
theorem dX7_feud_11 : decode cX7_feud 11 = .ok (.iload_n 2, 1) := by decide +kernel
theorem dX7_feud_12 : decode cX7_feud 12 = .ok (.if_icmp .ne 13, 3) := by decide +kernel
theorem dX7_feud_15 : decode cX7_feud 15 = .ok (.new 101, 3) := by decide +kernel
theorem dX7_feud_18 : decode cX7_feud 18 = .ok (.dup, 1) := by decide +kernel
theorem dX7_feud_19 : decode cX7_feud 19 = .ok (.ldc 148, 2) := by decide +kernel
theorem dX7_feud_21 : decode cX7_feud 21 = .ok (.invokespecial 105, 3) := by decide +kernel
theorem dX7_feud_24 : decode cX7_feud 24 = .ok (.athrow, 1) := by decide +kernel
theorem dX7_feud_25 : decode cX7_feud 25 = .ok (.aload_n 0, 1) := by decide +kernel
theorem dX7_feud_26 : decode cX7_feud 26 = .ok (.getfield 11, 3) := by decide +kernel
theorem dX7_feud_29 : decode cX7_feud 29 = .ok (.iload_n 1, 1) := by decide +kernel
theorem dX7_feud_30 : decode cX7_feud 30 = .ok (.aaload, 1) := by decide +kernel
theorem dX7_feud_31 : decode cX7_feud 31 = .ok (.getfield 150, 3) := by decide +kernel
theorem dX7_feud_34 : decode cX7_feud 34 = .ok (.iload_n 2, 1) := by decide +kernel
theorem dX7_feud_35 : decode cX7_feud 35 = .ok (.invokestatic 153, 3) := by decide +kernel
theorem dX7_feud_38 : decode cX7_feud 38 = .ok (.istore 4, 2) := by decide +kernel
theorem dX7_feud_40 : decode cX7_feud 40 = .ok (.iload 4, 2) := by decide +kernel
theorem dX7_feud_42 : decode cX7_feud 42 = .ok (.iload_n 3, 1) := by decide +kernel
theorem dX7_feud_43 : decode cX7_feud 43 = .ok (.if_icmp .eq 37, 3) := by decide +kernel
theorem dX7_feud_46 : decode cX7_feud 46 = .ok (.aload_n 0, 1) := by decide +kernel
theorem dX7_feud_47 : decode cX7_feud 47 = .ok (.getfield 11, 3) := by decide +kernel
theorem dX7_feud_50 : decode cX7_feud 50 = .ok (.iload_n 1, 1) := by decide +kernel
theorem dX7_feud_51 : decode cX7_feud 51 = .ok (.aaload, 1) := by decide +kernel
theorem dX7_feud_52 : decode cX7_feud 52 = .ok (.dup, 1) := by decide +kernel
theorem dX7_feud_53 : decode cX7_feud 53 = .ok (.getfield 150, 3) := by decide +kernel
theorem dX7_feud_56 : decode cX7_feud 56 = .ok (.iconst 1, 1) := by decide +kernel
theorem dX7_feud_57 : decode cX7_feud 57 = .ok (.iload_n 2, 1) := by decide +kernel
theorem dX7_feud_58 : decode cX7_feud 58 = .ok (.ishl, 1) := by decide +kernel
theorem dX7_feud_59 : decode cX7_feud 59 = .ok (.ixor, 1) := by decide +kernel
theorem dX7_feud_60 : decode cX7_feud 60 = .ok (.putfield 150, 3) := by decide +kernel
theorem dX7_feud_63 : decode cX7_feud 63 = .ok (.aload_n 0, 1) := by decide +kernel
theorem dX7_feud_64 : decode cX7_feud 64 = .ok (.getfield 11, 3) := by decide +kernel
theorem dX7_feud_67 : decode cX7_feud 67 = .ok (.iload_n 2, 1) := by decide +kernel
theorem dX7_feud_68 : decode cX7_feud 68 = .ok (.aaload, 1) := by decide +kernel
theorem dX7_feud_69 : decode cX7_feud 69 = .ok (.dup, 1) := by decide +kernel
theorem dX7_feud_70 : decode cX7_feud 70 = .ok (.getfield 150, 3) := by decide +kernel
theorem dX7_feud_73 : decode cX7_feud 73 = .ok (.iconst 1, 1) := by decide +kernel
theorem dX7_feud_74 : decode cX7_feud 74 = .ok (.iload_n 1, 1) := by decide +kernel
theorem dX7_feud_75 : decode cX7_feud 75 = .ok (.ishl, 1) := by decide +kernel
theorem dX7_feud_76 : decode cX7_feud 76 = .ok (.ixor, 1) := by decide +kernel
theorem dX7_feud_77 : decode cX7_feud 77 = .ok (.putfield 150, 3) := by decide +kernel
theorem dX7_feud_80 : decode cX7_feud 80 = .ok (.iload 4, 2) := by decide +kernel
theorem dX7_feud_82 : decode cX7_feud 82 = .ok (.ireturn, 1) := by decide +kernel
set_option maxRecDepth 20000 in
theorem ggX7_road_X7_checkTown : GoodIn wsX7_road wsX7_checkTown := goodIn_ca (goodIn_r _ [7, 8, 9, 10, 11, 6, 12] rfl (by decide +kernel)) (goodIn_sub (fun _ h => List.mem_cons_of_mem _ (List.mem_append_right _ h)) (by decide +kernel))
set_option maxRecDepth 20000 in
theorem gX7_road_X7_checkTown : GoodIn wsX7_road (va_wsS RX7 157 yX7_checkTown wsX7_checkTown) := goodIn_app (goodIn_of _ (by decide +kernel)) ggX7_road_X7_checkTown
set_option maxRecDepth 20000 in
theorem ggX7_road_X4_lay : GoodIn wsX7_road wsX4_lay := goodIn_r _ [17, 18, 19, 20, 21, 22, 16, 23, 24, 25, 26, 27, 47, 48] rfl (by decide +kernel)
set_option maxRecDepth 20000 in
theorem gX7_road_X4_lay : GoodIn wsX7_road (wsV RX7 162 RX4 yX4_lay wsX4_lay) := goodIn_app (goodIn_of _ (by decide +kernel)) ggX7_road_X4_lay
set_option maxRecDepth 20000 in
theorem ggX7_road_X4_between : GoodIn wsX7_road wsX4_between := goodIn_r _ [31, 19, 47, 48] rfl (by decide +kernel)
set_option maxRecDepth 20000 in
theorem gX7_road_X4_between : GoodIn wsX7_road (wsV RX7 166 RX4 yX4_between wsX4_between) := goodIn_app (goodIn_of _ (by decide +kernel)) ggX7_road_X4_between
theorem dX7_road_0 : decode cX7_road 0 = .ok (.iload_n 1, 1) := by decide +kernel
theorem dX7_road_1 : decode cX7_road 1 = .ok (.invokestatic 157, 3) := by decide +kernel
theorem dX7_road_4 : decode cX7_road 4 = .ok (.iload_n 2, 1) := by decide +kernel
theorem dX7_road_5 : decode cX7_road 5 = .ok (.invokestatic 157, 3) := by decide +kernel
theorem dX7_road_8 : decode cX7_road 8 = .ok (.iload_n 1, 1) := by decide +kernel
theorem dX7_road_9 : decode cX7_road 9 = .ok (.iload_n 2, 1) := by decide +kernel
theorem dX7_road_10 : decode cX7_road 10 = .ok (.if_icmp .eq 13, 3) := by decide +kernel
theorem dX7_road_13 : decode cX7_road 13 = .ok (.iload_n 3, 1) := by decide +kernel
theorem dX7_road_14 : decode cX7_road 14 = .ok (.ifCond .lt 9, 3) := by decide +kernel
theorem dX7_road_17 : decode cX7_road 17 = .ok (.iload_n 3, 1) := by decide +kernel
theorem dX7_road_18 : decode cX7_road 18 = .ok (.bipush 9, 2) := by decide +kernel
theorem dX7_road_20 : decode cX7_road 20 = .ok (.if_icmp .le 13, 3) := by decide +kernel
theorem dX7_road_23 : decode cX7_road 23 = .ok (.new 101, 3) := by decide +kernel
theorem dX7_road_26 : decode cX7_road 26 = .ok (.dup, 1) := by decide +kernel
theorem dX7_road_27 : decode cX7_road 27 = .ok (.ldc 160, 2) := by decide +kernel
theorem dX7_road_29 : decode cX7_road 29 = .ok (.invokespecial 105, 3) := by decide +kernel
theorem dX7_road_32 : decode cX7_road 32 = .ok (.athrow, 1) := by decide +kernel
theorem dX7_road_33 : decode cX7_road 33 = .ok (.aload_n 0, 1) := by decide +kernel
theorem dX7_road_34 : decode cX7_road 34 = .ok (.getfield 36, 3) := by decide +kernel
theorem dX7_road_37 : decode cX7_road 37 = .ok (.iload_n 1, 1) := by decide +kernel
theorem dX7_road_38 : decode cX7_road 38 = .ok (.iload_n 2, 1) := by decide +kernel
theorem dX7_road_39 : decode cX7_road 39 = .ok (.iload_n 3, 1) := by decide +kernel
theorem dX7_road_40 : decode cX7_road 40 = .ok (.invokevirtual 162, 3) := by decide +kernel
theorem dX7_road_43 : decode cX7_road 43 = .ok (.aload_n 0, 1) := by decide +kernel
theorem dX7_road_44 : decode cX7_road 44 = .ok (.getfield 36, 3) := by decide +kernel
theorem dX7_road_47 : decode cX7_road 47 = .ok (.iload_n 1, 1) := by decide +kernel
theorem dX7_road_48 : decode cX7_road 48 = .ok (.iload_n 2, 1) := by decide +kernel
theorem dX7_road_49 : decode cX7_road 49 = .ok (.invokevirtual 166, 3) := by decide +kernel
theorem dX7_road_52 : decode cX7_road 52 = .ok (.ireturn, 1) := by decide +kernel
set_option maxRecDepth 20000 in
theorem ggX7_band_X7_sizeOf : GoodIn wsX7_band wsX7_sizeOf := goodIn_r _ [10] rfl (by decide +kernel)
set_option maxRecDepth 20000 in
theorem gX7_band_X7_sizeOf : GoodIn wsX7_band (va_wsS RX7 170 yX7_sizeOf wsX7_sizeOf) := goodIn_app (goodIn_of _ (by decide +kernel)) ggX7_band_X7_sizeOf
set_option maxRecDepth 20000 in
theorem ggX7_band_X0_take : GoodIn wsX7_band wsX0_take := goodIn_r _ [15, 16, 17, 18, 34, 35, 36] rfl (by decide +kernel)
set_option maxRecDepth 20000 in
theorem gX7_band_X0_take : GoodIn wsX7_band (wsV RX7 177 RX0 yX0_take wsX0_take) := goodIn_app (goodIn_of _ (by decide +kernel)) ggX7_band_X0_take
theorem dX7_band_0 : decode cX7_band 0 = .ok (.iload_n 1, 1) := by decide +kernel
theorem dX7_band_1 : decode cX7_band 1 = .ok (.iconst 1, 1) := by decide +kernel
theorem dX7_band_2 : decode cX7_band 2 = .ok (.if_icmp .lt 18, 3) := by decide +kernel
theorem dX7_band_5 : decode cX7_band 5 = .ok (.iload_n 1, 1) := by decide +kernel
theorem dX7_band_6 : decode cX7_band 6 = .ok (.sipush 728, 3) := by decide +kernel
theorem dX7_band_9 : decode cX7_band 9 = .ok (.if_icmp .gt 11, 3) := by decide +kernel
theorem dX7_band_12 : decode cX7_band 12 = .ok (.iload_n 1, 1) := by decide +kernel
theorem dX7_band_13 : decode cX7_band 13 = .ok (.invokestatic 170, 3) := by decide +kernel
theorem dX7_band_16 : decode cX7_band 16 = .ok (.iconst 5, 1) := by decide +kernel
theorem dX7_band_17 : decode cX7_band 17 = .ok (.if_icmp .le 13, 3) := by decide +kernel
theorem dX7_band_20 : decode cX7_band 20 = .ok (.new 101, 3) := by decide +kernel
theorem dX7_band_23 : decode cX7_band 23 = .ok (.dup, 1) := by decide +kernel
theorem dX7_band_24 : decode cX7_band 24 = .ok (.ldc 173, 2) := by decide +kernel
theorem dX7_band_26 : decode cX7_band 26 = .ok (.invokespecial 105, 3) := by decide +kernel
theorem dX7_band_29 : decode cX7_band 29 = .ok (.athrow, 1) := by decide +kernel
theorem dX7_band_30 : decode cX7_band 30 = .ok (.aload_n 0, 1) := by decide +kernel
theorem dX7_band_31 : decode cX7_band 31 = .ok (.getfield 48, 3) := by decide +kernel
theorem dX7_band_34 : decode cX7_band 34 = .ok (.bipush 6, 2) := by decide +kernel
theorem dX7_band_36 : decode cX7_band 36 = .ok (.if_icmp .lt 13, 3) := by decide +kernel
theorem dX7_band_39 : decode cX7_band 39 = .ok (.new 106, 3) := by decide +kernel
theorem dX7_band_42 : decode cX7_band 42 = .ok (.dup, 1) := by decide +kernel
theorem dX7_band_43 : decode cX7_band 43 = .ok (.ldc 175, 2) := by decide +kernel
theorem dX7_band_45 : decode cX7_band 45 = .ok (.invokespecial 110, 3) := by decide +kernel
theorem dX7_band_48 : decode cX7_band 48 = .ok (.athrow, 1) := by decide +kernel
theorem dX7_band_49 : decode cX7_band 49 = .ok (.aload_n 0, 1) := by decide +kernel
theorem dX7_band_50 : decode cX7_band 50 = .ok (.getfield 23, 3) := by decide +kernel
theorem dX7_band_53 : decode cX7_band 53 = .ok (.aload_n 0, 1) := by decide +kernel
theorem dX7_band_54 : decode cX7_band 54 = .ok (.getfield 48, 3) := by decide +kernel
theorem dX7_band_57 : decode cX7_band 57 = .ok (.aaload, 1) := by decide +kernel
theorem dX7_band_58 : decode cX7_band 58 = .ok (.iload_n 1, 1) := by decide +kernel
theorem dX7_band_59 : decode cX7_band 59 = .ok (.invokevirtual 177, 3) := by decide +kernel
theorem dX7_band_62 : decode cX7_band 62 = .ok (.aload_n 0, 1) := by decide +kernel
theorem dX7_band_63 : decode cX7_band 63 = .ok (.dup, 1) := by decide +kernel
theorem dX7_band_64 : decode cX7_band 64 = .ok (.getfield 48, 3) := by decide +kernel
theorem dX7_band_67 : decode cX7_band 67 = .ok (.iconst 1, 1) := by decide +kernel
theorem dX7_band_68 : decode cX7_band 68 = .ok (.iadd, 1) := by decide +kernel
theorem dX7_band_69 : decode cX7_band 69 = .ok (.putfield 48, 3) := by decide +kernel
theorem dX7_band_72 : decode cX7_band 72 = .ok (.aload_n 0, 1) := by decide +kernel
theorem dX7_band_73 : decode cX7_band 73 = .ok (.getfield 48, 3) := by decide +kernel
theorem dX7_band_76 : decode cX7_band 76 = .ok (.iconst 1, 1) := by decide +kernel
theorem dX7_band_77 : decode cX7_band 77 = .ok (.isub, 1) := by decide +kernel
theorem dX7_band_78 : decode cX7_band 78 = .ok (.ireturn, 1) := by decide +kernel
set_option maxRecDepth 20000 in
theorem ggX7_ask_X7_checkBand : GoodIn wsX7_ask wsX7_checkBand := goodIn_ca (goodIn_r _ [19, 20, 21, 22, 41, 42, 43, 44, 45, 46, 47, 48, 49, 50, 51, 52, 53, 54, 55] rfl (by decide +kernel)) (goodIn_sub (fun _ h => List.mem_cons_of_mem _ (List.mem_append_right _ h)) (by decide +kernel))
set_option maxRecDepth 20000 in
theorem gX7_ask_X7_checkBand : GoodIn wsX7_ask (wsV RX7 180 RX7 yX7_checkBand wsX7_checkBand) := goodIn_app (goodIn_of _ (by decide +kernel)) ggX7_ask_X7_checkBand
set_option maxRecDepth 20000 in
theorem ggX7_ask_X7_checkTown : GoodIn wsX7_ask wsX7_checkTown := goodIn_ca (goodIn_r _ [25, 20, 21, 26, 27, 18, 28] rfl (by decide +kernel)) (goodIn_sub (fun _ h => List.mem_cons_of_mem _ (List.mem_append_right _ h)) (by decide +kernel))
set_option maxRecDepth 20000 in
theorem gX7_ask_X7_checkTown : GoodIn wsX7_ask (va_wsS RX7 157 yX7_checkTown wsX7_checkTown) := goodIn_app (goodIn_of _ (by decide +kernel)) ggX7_ask_X7_checkTown
set_option maxRecDepth 20000 in
theorem ggX7_ask_X7_areHours : GoodIn wsX7_ask wsX7_areHours := goodIn_r _ [31] rfl (by decide +kernel)
set_option maxRecDepth 20000 in
theorem gX7_ask_X7_areHours : GoodIn wsX7_ask (va_wsS RX7 183 yX7_areHours wsX7_areHours) := goodIn_app (goodIn_of _ (by decide +kernel)) ggX7_ask_X7_areHours
set_option maxRecDepth 20000 in
theorem ggX7_ask_X7_isSetOfSongs : GoodIn wsX7_ask wsX7_isSetOfSongs := goodIn_r _ [34, 35] rfl (by decide +kernel)
set_option maxRecDepth 20000 in
theorem gX7_ask_X7_isSetOfSongs : GoodIn wsX7_ask (va_wsS RX7 98 yX7_isSetOfSongs wsX7_isSetOfSongs) := goodIn_app (goodIn_of _ (by decide +kernel)) ggX7_ask_X7_isSetOfSongs
set_option maxRecDepth 20000 in
theorem ggX7_ask_X7_isTaken : GoodIn wsX7_ask wsX7_isTaken := goodIn_r _ [39, 6, 7, 40, 8, 9, 41, 42, 43, 44, 45, 46, 47, 48, 49, 50, 51, 52, 53, 54, 55, 56, 57, 58, 59, 60, 61, 62, 63, 64, 65, 66, 67] rfl (by decide +kernel)
set_option maxRecDepth 20000 in
theorem gX7_ask_X7_isTaken : GoodIn wsX7_ask (wsV RX7 188 RX7 yX7_isTaken wsX7_isTaken) := goodIn_app (goodIn_of _ (by decide +kernel)) ggX7_ask_X7_isTaken
theorem dX7_ask_0 : decode cX7_ask 0 = .ok (.aload_n 0, 1) := by decide +kernel
theorem dX7_ask_1 : decode cX7_ask 1 = .ok (.iload_n 1, 1) := by decide +kernel
theorem dX7_ask_2 : decode cX7_ask 2 = .ok (.invokevirtual 180, 3) := by decide +kernel
theorem dX7_ask_5 : decode cX7_ask 5 = .ok (.iload_n 3, 1) := by decide +kernel
theorem dX7_ask_6 : decode cX7_ask 6 = .ok (.invokestatic 157, 3) := by decide +kernel
theorem dX7_ask_9 : decode cX7_ask 9 = .ok (.iload_n 2, 1) := by decide +kernel
theorem dX7_ask_10 : decode cX7_ask 10 = .ok (.aload_n 0, 1) := by decide +kernel
theorem dX7_ask_11 : decode cX7_ask 11 = .ok (.getfield 54, 3) := by decide +kernel
theorem dX7_ask_14 : decode cX7_ask 14 = .ok (.if_icmp .lt 28, 3) := by decide +kernel
theorem dX7_ask_17 : decode cX7_ask 17 = .ok (.iload_n 2, 1) := by decide +kernel
theorem dX7_ask_18 : decode cX7_ask 18 = .ok (.sipush 365, 3) := by decide +kernel
theorem dX7_ask_21 : decode cX7_ask 21 = .ok (.if_icmp .gt 21, 3) := by decide +kernel
theorem dX7_ask_24 : decode cX7_ask 24 = .ok (.iload 4, 2) := by decide +kernel
theorem dX7_ask_26 : decode cX7_ask 26 = .ok (.iload 5, 2) := by decide +kernel
theorem dX7_ask_28 : decode cX7_ask 28 = .ok (.invokestatic 183, 3) := by decide +kernel
theorem dX7_ask_31 : decode cX7_ask 31 = .ok (.ifCond .eq 11, 3) := by decide +kernel
theorem dX7_ask_34 : decode cX7_ask 34 = .ok (.iload 6, 2) := by decide +kernel
theorem dX7_ask_36 : decode cX7_ask 36 = .ok (.invokestatic 98, 3) := by decide +kernel
theorem dX7_ask_39 : decode cX7_ask 39 = .ok (.ifCond .ne 13, 3) := by decide +kernel
theorem dX7_ask_42 : decode cX7_ask 42 = .ok (.new 101, 3) := by decide +kernel
theorem dX7_ask_45 : decode cX7_ask 45 = .ok (.dup, 1) := by decide +kernel
theorem dX7_ask_46 : decode cX7_ask 46 = .ok (.ldc 186, 2) := by decide +kernel
theorem dX7_ask_48 : decode cX7_ask 48 = .ok (.invokespecial 105, 3) := by decide +kernel
theorem dX7_ask_51 : decode cX7_ask 51 = .ok (.athrow, 1) := by decide +kernel
theorem dX7_ask_52 : decode cX7_ask 52 = .ok (.aload_n 0, 1) := by decide +kernel
theorem dX7_ask_53 : decode cX7_ask 53 = .ok (.getfield 51, 3) := by decide +kernel
theorem dX7_ask_56 : decode cX7_ask 56 = .ok (.bipush 14, 2) := by decide +kernel
theorem dX7_ask_58 : decode cX7_ask 58 = .ok (.if_icmp .ge 12, 3) := by decide +kernel
theorem dX7_ask_61 : decode cX7_ask 61 = .ok (.aload_n 0, 1) := by decide +kernel
theorem dX7_ask_62 : decode cX7_ask 62 = .ok (.iload_n 1, 1) := by decide +kernel
theorem dX7_ask_63 : decode cX7_ask 63 = .ok (.iload_n 2, 1) := by decide +kernel
theorem dX7_ask_64 : decode cX7_ask 64 = .ok (.invokevirtual 188, 3) := by decide +kernel
theorem dX7_ask_67 : decode cX7_ask 67 = .ok (.ifCond .eq 13, 3) := by decide +kernel
theorem dX7_ask_70 : decode cX7_ask 70 = .ok (.new 106, 3) := by decide +kernel
theorem dX7_ask_73 : decode cX7_ask 73 = .ok (.dup, 1) := by decide +kernel
theorem dX7_ask_74 : decode cX7_ask 74 = .ok (.ldc 191, 2) := by decide +kernel
theorem dX7_ask_76 : decode cX7_ask 76 = .ok (.invokespecial 110, 3) := by decide +kernel
theorem dX7_ask_79 : decode cX7_ask 79 = .ok (.athrow, 1) := by decide +kernel
theorem dX7_ask_80 : decode cX7_ask 80 = .ok (.aload_n 0, 1) := by decide +kernel
theorem dX7_ask_81 : decode cX7_ask 81 = .ok (.getfield 29, 3) := by decide +kernel
theorem dX7_ask_84 : decode cX7_ask 84 = .ok (.aload_n 0, 1) := by decide +kernel
theorem dX7_ask_85 : decode cX7_ask 85 = .ok (.getfield 51, 3) := by decide +kernel
theorem dX7_ask_88 : decode cX7_ask 88 = .ok (.aaload, 1) := by decide +kernel
theorem dX7_ask_89 : decode cX7_ask 89 = .ok (.astore 7, 2) := by decide +kernel
theorem dX7_ask_91 : decode cX7_ask 91 = .ok (.aload 7, 2) := by decide +kernel
theorem dX7_ask_93 : decode cX7_ask 93 = .ok (.iload_n 1, 1) := by decide +kernel
theorem dX7_ask_94 : decode cX7_ask 94 = .ok (.putfield 193, 3) := by decide +kernel
theorem dX7_ask_97 : decode cX7_ask 97 = .ok (.aload 7, 2) := by decide +kernel
theorem dX7_ask_99 : decode cX7_ask 99 = .ok (.iload_n 2, 1) := by decide +kernel
theorem dX7_ask_100 : decode cX7_ask 100 = .ok (.putfield 196, 3) := by decide +kernel
theorem dX7_ask_103 : decode cX7_ask 103 = .ok (.aload 7, 2) := by decide +kernel
theorem dX7_ask_105 : decode cX7_ask 105 = .ok (.iload_n 3, 1) := by decide +kernel
theorem dX7_ask_106 : decode cX7_ask 106 = .ok (.putfield 199, 3) := by decide +kernel
theorem dX7_ask_109 : decode cX7_ask 109 = .ok (.aload 7, 2) := by decide +kernel
theorem dX7_ask_111 : decode cX7_ask 111 = .ok (.iload 4, 2) := by decide +kernel
theorem dX7_ask_113 : decode cX7_ask 113 = .ok (.putfield 202, 3) := by decide +kernel
theorem dX7_ask_116 : decode cX7_ask 116 = .ok (.aload 7, 2) := by decide +kernel
theorem dX7_ask_118 : decode cX7_ask 118 = .ok (.iload 5, 2) := by decide +kernel
theorem dX7_ask_120 : decode cX7_ask 120 = .ok (.putfield 205, 3) := by decide +kernel
theorem dX7_ask_123 : decode cX7_ask 123 = .ok (.aload 7, 2) := by decide +kernel
theorem dX7_ask_125 : decode cX7_ask 125 = .ok (.iload 6, 2) := by decide +kernel
theorem dX7_ask_127 : decode cX7_ask 127 = .ok (.putfield 208, 3) := by decide +kernel
theorem dX7_ask_130 : decode cX7_ask 130 = .ok (.aload 7, 2) := by decide +kernel
theorem dX7_ask_132 : decode cX7_ask 132 = .ok (.aload_n 0, 1) := by decide +kernel
theorem dX7_ask_133 : decode cX7_ask 133 = .ok (.getfield 54, 3) := by decide +kernel
theorem dX7_ask_136 : decode cX7_ask 136 = .ok (.putfield 211, 3) := by decide +kernel
theorem dX7_ask_139 : decode cX7_ask 139 = .ok (.aload_n 0, 1) := by decide +kernel
theorem dX7_ask_140 : decode cX7_ask 140 = .ok (.dup, 1) := by decide +kernel
theorem dX7_ask_141 : decode cX7_ask 141 = .ok (.getfield 51, 3) := by decide +kernel
theorem dX7_ask_144 : decode cX7_ask 144 = .ok (.iconst 1, 1) := by decide +kernel
theorem dX7_ask_145 : decode cX7_ask 145 = .ok (.iadd, 1) := by decide +kernel
theorem dX7_ask_146 : decode cX7_ask 146 = .ok (.putfield 51, 3) := by decide +kernel
theorem dX7_ask_149 : decode cX7_ask 149 = .ok (.aload_n 0, 1) := by decide +kernel
theorem dX7_ask_150 : decode cX7_ask 150 = .ok (.getfield 51, 3) := by decide +kernel
theorem dX7_ask_153 : decode cX7_ask 153 = .ok (.iconst 1, 1) := by decide +kernel
theorem dX7_ask_154 : decode cX7_ask 154 = .ok (.isub, 1) := by decide +kernel
theorem dX7_ask_155 : decode cX7_ask 155 = .ok (.ireturn, 1) := by decide +kernel
set_option maxRecDepth 20000 in
theorem ggX7_fix_X7_checkWedding : GoodIn wsX7_fix wsX7_checkWedding := goodIn_ca (goodIn_r _ [15, 16, 17, 18, 151, 152, 153, 154, 155, 156, 157, 158, 159, 160, 161, 162, 163, 164, 165] rfl (by decide +kernel)) (goodIn_sub (fun _ h => List.mem_cons_of_mem _ (List.mem_append_right _ h)) (by decide +kernel))
set_option maxRecDepth 20000 in
theorem gX7_fix_X7_checkWedding : GoodIn wsX7_fix (wsV RX7 214 RX7 yX7_checkWedding wsX7_checkWedding) := goodIn_app (goodIn_of _ (by decide +kernel)) ggX7_fix_X7_checkWedding
set_option maxRecDepth 20000 in
theorem ggX7_fix_X7_isFirst : GoodIn wsX7_fix wsX7_isFirst := goodIn_r _ [22, 23, 24, 25, 14, 26, 5, 6, 27, 28, 29, 30, 31, 32, 151, 152, 153, 154, 155, 156, 157, 158, 159, 160, 161, 162, 163, 164, 165, 172, 173, 174, 175, 176, 177, 178, 179, 180, 181, 182, 183] rfl (by decide +kernel)
set_option maxRecDepth 20000 in
theorem gX7_fix_X7_isFirst : GoodIn wsX7_fix (wsV RX7 217 RX7 yX7_isFirst wsX7_isFirst) := goodIn_app (goodIn_of _ (by decide +kernel)) ggX7_fix_X7_isFirst
set_option maxRecDepth 20000 in
theorem ggX7_fix_X7_surveyNow : GoodIn wsX7_fix wsX7_surveyNow := goodIn_r _ [36, 37, 38, 39, 14, 40, 18, 41, 5, 6, 8, 42, 43, 44, 45, 46, 47, 48, 49, 50, 51, 32, 52, 53, 54, 55, 56, 57, 58, 59, 60, 61, 62, 63, 64, 65, 66, 67, 68, 69, 70, 71, 72, 73, 74, 75, 76, 77, 78, 79, 80, 81, 82, 31, 83, 3, 84, 85, 4, 86, 87, 88, 89, 90, 91, 92, 93, 94, 95, 96, 97, 98, 99, 100, 101, 102, 103, 104, 105, 106, 107, 108, 109, 110, 111, 112, 113, 114, 115, 116, 117, 118, 119, 120, 121, 122, 123, 124, 125, 126, 127, 128, 129, 130, 131, 132, 133, 134, 135, 136, 137, 151, 152, 153, 154, 155, 156, 157, 158, 159, 160, 161, 162, 163, 164, 165, 172, 173, 174, 175, 176, 177, 178, 179, 180, 181, 182, 183, 184, 185, 186, 187, 188, 189, 190, 191, 192, 193, 194, 195, 196, 166, 167, 168, 169, 170, 171] rfl (by decide +kernel)
set_option maxRecDepth 20000 in
theorem gX7_fix_X7_surveyNow : GoodIn wsX7_fix (wsV RX7 222 RX7 yX7_surveyNow wsX7_surveyNow) := goodIn_app (goodIn_of _ (by decide +kernel)) ggX7_fix_X7_surveyNow
set_option maxRecDepth 20000 in
theorem ggX7_fix_X7_loseQueueOf : GoodIn wsX7_fix wsX7_loseQueueOf := goodIn_r _ [141, 18, 5, 6, 27, 28, 29, 14, 30, 31, 32, 151, 152, 153, 154, 155, 156, 157, 158, 159, 160, 161, 162, 163, 164, 165, 172, 173, 174, 175, 176, 177, 178, 179, 180, 181, 182, 183] rfl (by decide +kernel)
set_option maxRecDepth 20000 in
theorem gX7_fix_X7_loseQueueOf : GoodIn wsX7_fix (wsV RX7 230 RX7 yX7_loseQueueOf wsX7_loseQueueOf) := goodIn_app (goodIn_of _ (by decide +kernel)) ggX7_fix_X7_loseQueueOf
set_option maxRecDepth 20000 in
theorem ggX7_fix_X7_priceOf : GoodIn wsX7_fix wsX7_priceOf := goodIn_r _ [144] rfl (by decide +kernel)
set_option maxRecDepth 20000 in
theorem gX7_fix_X7_priceOf : GoodIn wsX7_fix (va_wsS RX7 244 yX7_priceOf wsX7_priceOf) := goodIn_app (goodIn_of _ (by decide +kernel)) ggX7_fix_X7_priceOf
set_option maxRecDepth 20000 in
theorem ggX7_fix_X7_getPaid : GoodIn wsX7_fix wsX7_getPaid := goodIn_r _ [148, 149, 150, 172, 173, 174, 175, 176, 177, 178, 179, 180, 181, 182, 183, 151, 152, 153, 154, 155, 156, 157, 158, 159, 160, 161, 162, 163, 164, 165] rfl (by decide +kernel)
set_option maxRecDepth 20000 in
theorem gX7_fix_X7_getPaid : GoodIn wsX7_fix (wsV RX7 250 RX7 yX7_getPaid wsX7_getPaid) := goodIn_app (goodIn_of _ (by decide +kernel)) ggX7_fix_X7_getPaid
theorem dX7_fix_0 : decode cX7_fix 0 = .ok (.aload_n 0, 1) := by decide +kernel
theorem dX7_fix_1 : decode cX7_fix 1 = .ok (.iload_n 1, 1) := by decide +kernel
theorem dX7_fix_2 : decode cX7_fix 2 = .ok (.invokevirtual 214, 3) := by decide +kernel
theorem dX7_fix_5 : decode cX7_fix 5 = .ok (.aload_n 0, 1) := by decide +kernel
theorem dX7_fix_6 : decode cX7_fix 6 = .ok (.iload_n 1, 1) := by decide +kernel
theorem dX7_fix_7 : decode cX7_fix 7 = .ok (.invokevirtual 217, 3) := by decide +kernel
theorem dX7_fix_10 : decode cX7_fix 10 = .ok (.ifCond .ne 13, 3) := by decide +kernel
theorem dX7_fix_13 : decode cX7_fix 13 = .ok (.new 106, 3) := by decide +kernel
theorem dX7_fix_16 : decode cX7_fix 16 = .ok (.dup, 1) := by decide +kernel
theorem dX7_fix_17 : decode cX7_fix 17 = .ok (.ldc 220, 2) := by decide +kernel
theorem dX7_fix_19 : decode cX7_fix 19 = .ok (.invokespecial 110, 3) := by decide +kernel
theorem dX7_fix_22 : decode cX7_fix 22 = .ok (.athrow, 1) := by decide +kernel
theorem dX7_fix_23 : decode cX7_fix 23 = .ok (.aload_n 0, 1) := by decide +kernel
theorem dX7_fix_24 : decode cX7_fix 24 = .ok (.iload_n 1, 1) := by decide +kernel
theorem dX7_fix_25 : decode cX7_fix 25 = .ok (.invokevirtual 222, 3) := by decide +kernel
theorem dX7_fix_28 : decode cX7_fix 28 = .ok (.aload_n 0, 1) := by decide +kernel
theorem dX7_fix_29 : decode cX7_fix 29 = .ok (.getfield 70, 3) := by decide +kernel
theorem dX7_fix_32 : decode cX7_fix 32 = .ok (.getfield 225, 3) := by decide +kernel
theorem dX7_fix_35 : decode cX7_fix 35 = .ok (.ifCond .ne 13, 3) := by decide +kernel
theorem dX7_fix_38 : decode cX7_fix 38 = .ok (.new 106, 3) := by decide +kernel
theorem dX7_fix_41 : decode cX7_fix 41 = .ok (.dup, 1) := by decide +kernel
theorem dX7_fix_42 : decode cX7_fix 42 = .ok (.ldc 228, 2) := by decide +kernel
theorem dX7_fix_44 : decode cX7_fix 44 = .ok (.invokespecial 110, 3) := by decide +kernel
theorem dX7_fix_47 : decode cX7_fix 47 = .ok (.athrow, 1) := by decide +kernel
theorem dX7_fix_48 : decode cX7_fix 48 = .ok (.aload_n 0, 1) := by decide +kernel
theorem dX7_fix_49 : decode cX7_fix 49 = .ok (.iload_n 1, 1) := by decide +kernel
theorem dX7_fix_50 : decode cX7_fix 50 = .ok (.invokevirtual 230, 3) := by decide +kernel
theorem dX7_fix_53 : decode cX7_fix 53 = .ok (.aload_n 0, 1) := by decide +kernel
theorem dX7_fix_54 : decode cX7_fix 54 = .ok (.getfield 29, 3) := by decide +kernel
theorem dX7_fix_57 : decode cX7_fix 57 = .ok (.iload_n 1, 1) := by decide +kernel
theorem dX7_fix_58 : decode cX7_fix 58 = .ok (.aaload, 1) := by decide +kernel
theorem dX7_fix_59 : decode cX7_fix 59 = .ok (.astore_n 2, 1) := by decide +kernel
theorem dX7_fix_60 : decode cX7_fix 60 = .ok (.aload_n 2, 1) := by decide +kernel
theorem dX7_fix_61 : decode cX7_fix 61 = .ok (.iconst 1, 1) := by decide +kernel
theorem dX7_fix_62 : decode cX7_fix 62 = .ok (.putfield 233, 3) := by decide +kernel
theorem dX7_fix_65 : decode cX7_fix 65 = .ok (.aload_n 2, 1) := by decide +kernel
theorem dX7_fix_66 : decode cX7_fix 66 = .ok (.aload_n 0, 1) := by decide +kernel
theorem dX7_fix_67 : decode cX7_fix 67 = .ok (.getfield 70, 3) := by decide +kernel
theorem dX7_fix_70 : decode cX7_fix 70 = .ok (.getfield 236, 3) := by decide +kernel
theorem dX7_fix_73 : decode cX7_fix 73 = .ok (.putfield 239, 3) := by decide +kernel
theorem dX7_fix_76 : decode cX7_fix 76 = .ok (.aload_n 2, 1) := by decide +kernel
theorem dX7_fix_77 : decode cX7_fix 77 = .ok (.aload_n 0, 1) := by decide +kernel
theorem dX7_fix_78 : decode cX7_fix 78 = .ok (.getfield 70, 3) := by decide +kernel
theorem dX7_fix_81 : decode cX7_fix 81 = .ok (.getfield 241, 3) := by decide +kernel
theorem dX7_fix_84 : decode cX7_fix 84 = .ok (.invokestatic 244, 3) := by decide +kernel
theorem dX7_fix_87 : decode cX7_fix 87 = .ok (.putfield 247, 3) := by decide +kernel
theorem dX7_fix_90 : decode cX7_fix 90 = .ok (.aload_n 0, 1) := by decide +kernel
theorem dX7_fix_91 : decode cX7_fix 91 = .ok (.aload_n 2, 1) := by decide +kernel
theorem dX7_fix_92 : decode cX7_fix 92 = .ok (.aload_n 2, 1) := by decide +kernel
theorem dX7_fix_93 : decode cX7_fix 93 = .ok (.getfield 247, 3) := by decide +kernel
theorem dX7_fix_96 : decode cX7_fix 96 = .ok (.iconst 5, 1) := by decide +kernel
theorem dX7_fix_97 : decode cX7_fix 97 = .ok (.idiv, 1) := by decide +kernel
theorem dX7_fix_98 : decode cX7_fix 98 = .ok (.invokevirtual 250, 3) := by decide +kernel
theorem dX7_fix_101 : decode cX7_fix 101 = .ok (.aload_n 2, 1) := by decide +kernel
theorem dX7_fix_102 : decode cX7_fix 102 = .ok (.getfield 247, 3) := by decide +kernel
theorem dX7_fix_105 : decode cX7_fix 105 = .ok (.ireturn, 1) := by decide +kernel
set_option maxRecDepth 20000 in
theorem ggX7_cancel_X7_checkWedding : GoodIn wsX7_cancel wsX7_checkWedding := goodIn_ca (goodIn_r _ [14, 15, 16, 17, 30, 31, 32, 33, 34, 35, 36, 37, 38, 39, 40, 41, 42, 43, 44] rfl (by decide +kernel)) (goodIn_sub (fun _ h => List.mem_cons_of_mem _ (List.mem_append_right _ h)) (by decide +kernel))
set_option maxRecDepth 20000 in
theorem gX7_cancel_X7_checkWedding : GoodIn wsX7_cancel (wsV RX7 214 RX7 yX7_checkWedding wsX7_checkWedding) := goodIn_app (goodIn_of _ (by decide +kernel)) ggX7_cancel_X7_checkWedding
set_option maxRecDepth 20000 in
theorem ggX7_cancel_X7_owedFor : GoodIn wsX7_cancel wsX7_owedFor := goodIn_r _ [21, 22, 23, 24, 45, 46, 47, 48, 49, 50, 51, 52, 53, 54, 55, 56, 30, 31, 32, 33, 34, 35, 36, 37, 38, 39, 40, 41, 42, 43, 44] rfl (by decide +kernel)
set_option maxRecDepth 20000 in
theorem gX7_cancel_X7_owedFor : GoodIn wsX7_cancel (wsV RX7 256 RX7 yX7_owedFor wsX7_owedFor) := goodIn_app (goodIn_of _ (by decide +kernel)) ggX7_cancel_X7_owedFor
set_option maxRecDepth 20000 in
theorem ggX7_cancel_X7_getPaid : GoodIn wsX7_cancel wsX7_getPaid := goodIn_r _ [28, 5, 29, 45, 46, 47, 48, 49, 50, 51, 52, 53, 54, 55, 56, 30, 31, 32, 33, 34, 35, 36, 37, 38, 39, 40, 41, 42, 43, 44] rfl (by decide +kernel)
set_option maxRecDepth 20000 in
theorem gX7_cancel_X7_getPaid : GoodIn wsX7_cancel (wsV RX7 250 RX7 yX7_getPaid wsX7_getPaid) := goodIn_app (goodIn_of _ (by decide +kernel)) ggX7_cancel_X7_getPaid
theorem dX7_cancel_0 : decode cX7_cancel 0 = .ok (.aload_n 0, 1) := by decide +kernel
theorem dX7_cancel_1 : decode cX7_cancel 1 = .ok (.iload_n 1, 1) := by decide +kernel
theorem dX7_cancel_2 : decode cX7_cancel 2 = .ok (.invokevirtual 214, 3) := by decide +kernel
theorem dX7_cancel_5 : decode cX7_cancel 5 = .ok (.aload_n 0, 1) := by decide +kernel
theorem dX7_cancel_6 : decode cX7_cancel 6 = .ok (.getfield 29, 3) := by decide +kernel
theorem dX7_cancel_9 : decode cX7_cancel 9 = .ok (.iload_n 1, 1) := by decide +kernel
theorem dX7_cancel_10 : decode cX7_cancel 10 = .ok (.aaload, 1) := by decide +kernel
theorem dX7_cancel_11 : decode cX7_cancel 11 = .ok (.astore_n 2, 1) := by decide +kernel
theorem dX7_cancel_12 : decode cX7_cancel 12 = .ok (.aload_n 2, 1) := by decide +kernel
theorem dX7_cancel_13 : decode cX7_cancel 13 = .ok (.getfield 233, 3) := by decide +kernel
theorem dX7_cancel_16 : decode cX7_cancel 16 = .ok (.ifCond .eq 21, 3) := by decide +kernel
theorem dX7_cancel_19 : decode cX7_cancel 19 = .ok (.aload_n 2, 1) := by decide +kernel
theorem dX7_cancel_20 : decode cX7_cancel 20 = .ok (.getfield 233, 3) := by decide +kernel
theorem dX7_cancel_23 : decode cX7_cancel 23 = .ok (.iconst 1, 1) := by decide +kernel
theorem dX7_cancel_24 : decode cX7_cancel 24 = .ok (.if_icmp .eq 13, 3) := by decide +kernel
theorem dX7_cancel_27 : decode cX7_cancel 27 = .ok (.new 106, 3) := by decide +kernel
theorem dX7_cancel_30 : decode cX7_cancel 30 = .ok (.dup, 1) := by decide +kernel
theorem dX7_cancel_31 : decode cX7_cancel 31 = .ok (.ldc 254, 2) := by decide +kernel
theorem dX7_cancel_33 : decode cX7_cancel 33 = .ok (.invokespecial 110, 3) := by decide +kernel
theorem dX7_cancel_36 : decode cX7_cancel 36 = .ok (.athrow, 1) := by decide +kernel
theorem dX7_cancel_37 : decode cX7_cancel 37 = .ok (.iconst 0, 1) := by decide +kernel
theorem dX7_cancel_38 : decode cX7_cancel 38 = .ok (.istore_n 3, 1) := by decide +kernel
theorem dX7_cancel_39 : decode cX7_cancel 39 = .ok (.aload_n 2, 1) := by decide +kernel
theorem dX7_cancel_40 : decode cX7_cancel 40 = .ok (.getfield 233, 3) := by decide +kernel
theorem dX7_cancel_43 : decode cX7_cancel 43 = .ok (.iconst 1, 1) := by decide +kernel
theorem dX7_cancel_44 : decode cX7_cancel 44 = .ok (.if_icmp .ne 24, 3) := by decide +kernel
theorem dX7_cancel_47 : decode cX7_cancel 47 = .ok (.aload_n 0, 1) := by decide +kernel
theorem dX7_cancel_48 : decode cX7_cancel 48 = .ok (.aload_n 2, 1) := by decide +kernel
theorem dX7_cancel_49 : decode cX7_cancel 49 = .ok (.invokevirtual 256, 3) := by decide +kernel
theorem dX7_cancel_52 : decode cX7_cancel 52 = .ok (.istore_n 3, 1) := by decide +kernel
theorem dX7_cancel_53 : decode cX7_cancel 53 = .ok (.aload_n 0, 1) := by decide +kernel
theorem dX7_cancel_54 : decode cX7_cancel 54 = .ok (.aload_n 2, 1) := by decide +kernel
theorem dX7_cancel_55 : decode cX7_cancel 55 = .ok (.iconst 0, 1) := by decide +kernel
theorem dX7_cancel_56 : decode cX7_cancel 56 = .ok (.iload_n 3, 1) := by decide +kernel
theorem dX7_cancel_57 : decode cX7_cancel 57 = .ok (.aload_n 2, 1) := by decide +kernel
theorem dX7_cancel_58 : decode cX7_cancel 58 = .ok (.getfield 260, 3) := by decide +kernel
theorem dX7_cancel_61 : decode cX7_cancel 61 = .ok (.isub, 1) := by decide +kernel
theorem dX7_cancel_62 : decode cX7_cancel 62 = .ok (.invokestatic 263, 3) := by decide +kernel
theorem dX7_cancel_65 : decode cX7_cancel 65 = .ok (.invokevirtual 250, 3) := by decide +kernel
theorem dX7_cancel_68 : decode cX7_cancel 68 = .ok (.aload_n 2, 1) := by decide +kernel
theorem dX7_cancel_69 : decode cX7_cancel 69 = .ok (.iconst 3, 1) := by decide +kernel
theorem dX7_cancel_70 : decode cX7_cancel 70 = .ok (.putfield 233, 3) := by decide +kernel
theorem dX7_cancel_73 : decode cX7_cancel 73 = .ok (.iload_n 3, 1) := by decide +kernel
theorem dX7_cancel_74 : decode cX7_cancel 74 = .ok (.ireturn, 1) := by decide +kernel
set_option maxRecDepth 20000 in
theorem ggX7_ill_X7_checkPlayer : GoodIn wsX7_ill wsX7_checkPlayer := goodIn_ca (goodIn_r _ [10, 11, 12, 13, 147, 148, 149, 150, 151, 152, 153, 154, 155, 156, 157, 158, 159, 160, 161] rfl (by decide +kernel)) (goodIn_sub (fun _ h => List.mem_cons_of_mem _ (List.mem_append_left _ (List.mem_append_right _ h))) (by decide +kernel))
set_option maxRecDepth 20000 in
theorem gX7_ill_X7_checkPlayer : GoodIn wsX7_ill (wsV RX7 123 RX7 yX7_checkPlayer wsX7_checkPlayer) := goodIn_app (goodIn_of _ (by decide +kernel)) ggX7_ill_X7_checkPlayer
set_option maxRecDepth 20000 in
theorem ggX7_ill_X7_checkDayToCome : GoodIn wsX7_ill wsX7_checkDayToCome := goodIn_ca (goodIn_r _ [17, 18, 19, 20, 147, 148, 149, 150, 151, 152, 153, 154, 155, 156, 157, 158, 159, 160, 161] rfl (by decide +kernel)) (goodIn_sub (fun _ h => List.mem_cons_of_mem _ (List.mem_append_right _ h)) (by decide +kernel))
set_option maxRecDepth 20000 in
theorem gX7_ill_X7_checkDayToCome : GoodIn wsX7_ill (wsV RX7 268 RX7 yX7_checkDayToCome wsX7_checkDayToCome) := goodIn_app (goodIn_of _ (by decide +kernel)) ggX7_ill_X7_checkDayToCome
set_option maxRecDepth 20000 in
theorem ggX7_ill_X7_stageWithout : GoodIn wsX7_ill wsX7_stageWithout := goodIn_r _ [24, 2, 3, 4, 5, 25, 26, 27, 28, 29, 30, 9, 31, 32, 33, 34, 35, 36, 37, 38, 39, 40, 13, 41, 42, 43, 44, 1, 45, 46, 47, 48, 49, 50, 51, 52, 53, 54, 55, 56, 57, 58, 59, 60, 61, 62, 63, 64, 65, 66, 67, 68, 69, 70, 71, 72, 73, 74, 75, 76, 77, 78, 79, 80, 81, 82, 83, 84, 85, 86, 87, 88, 89, 90, 91, 92, 93, 94, 95, 96, 97, 98, 99, 100, 101, 102, 103, 104, 105, 106, 107, 108, 109, 110, 111, 112, 113, 114, 115, 116, 117, 118, 119, 120, 121, 122, 123, 124, 125, 126, 127, 128, 147, 148, 149, 150, 151, 152, 153, 154, 155, 156, 157, 158, 159, 160, 161, 162, 163, 164, 165, 166, 167, 168, 169, 170, 171, 172, 173, 174, 175, 176, 177, 178, 179, 180, 181, 182, 183, 184, 185, 186, 187, 188, 189, 190, 191, 192] rfl (by decide +kernel)
set_option maxRecDepth 20000 in
theorem gX7_ill_X7_stageWithout : GoodIn wsX7_ill (wsV RX7 271 RX7 yX7_stageWithout wsX7_stageWithout) := goodIn_app (goodIn_of _ (by decide +kernel)) ggX7_ill_X7_stageWithout
set_option maxRecDepth 20000 in
theorem ggX7_ill_X6_isFixedWith : GoodIn wsX7_ill wsX6_isFixedWith := goodIn_r _ [133, 134, 135, 35, 9, 36, 162, 163, 164, 165, 166, 167, 168, 169, 170, 171, 172, 173] rfl (by decide +kernel)
set_option maxRecDepth 20000 in
theorem gX7_ill_X6_isFixedWith : GoodIn wsX7_ill (wsV RX7 274 RX6 yX6_isFixedWith wsX6_isFixedWith) := goodIn_app (goodIn_of _ (by decide +kernel)) ggX7_ill_X6_isFixedWith
set_option maxRecDepth 20000 in
theorem ggX7_ill_X7_putOnStage : GoodIn wsX7_ill wsX7_putOnStage := goodIn_r _ [139, 33, 32, 140, 141, 142, 143, 9, 144, 145, 146, 162, 163, 164, 165, 166, 167, 168, 169, 170, 171, 172, 173, 147, 148, 149, 150, 151, 152, 153, 154, 155, 156, 157, 158, 159, 160, 161] rfl (by decide +kernel)
set_option maxRecDepth 20000 in
theorem gX7_ill_X7_putOnStage : GoodIn wsX7_ill (wsV RX7 277 RX7 yX7_putOnStage wsX7_putOnStage) := goodIn_app (goodIn_of _ (by decide +kernel)) ggX7_ill_X7_putOnStage
theorem dX7_ill_0 : decode cX7_ill 0 = .ok (.aload_n 0, 1) := by decide +kernel
theorem dX7_ill_1 : decode cX7_ill 1 = .ok (.iload_n 1, 1) := by decide +kernel
theorem dX7_ill_2 : decode cX7_ill 2 = .ok (.invokevirtual 123, 3) := by decide +kernel
theorem dX7_ill_5 : decode cX7_ill 5 = .ok (.aload_n 0, 1) := by decide +kernel
theorem dX7_ill_6 : decode cX7_ill 6 = .ok (.iload_n 2, 1) := by decide +kernel
theorem dX7_ill_7 : decode cX7_ill 7 = .ok (.invokevirtual 268, 3) := by decide +kernel
theorem dX7_ill_10 : decode cX7_ill 10 = .ok (.aload_n 0, 1) := by decide +kernel
theorem dX7_ill_11 : decode cX7_ill 11 = .ok (.iload_n 1, 1) := by decide +kernel
theorem dX7_ill_12 : decode cX7_ill 12 = .ok (.iload_n 2, 1) := by decide +kernel
theorem dX7_ill_13 : decode cX7_ill 13 = .ok (.invokevirtual 271, 3) := by decide +kernel
theorem dX7_ill_16 : decode cX7_ill 16 = .ok (.istore_n 3, 1) := by decide +kernel
theorem dX7_ill_17 : decode cX7_ill 17 = .ok (.aload_n 0, 1) := by decide +kernel
theorem dX7_ill_18 : decode cX7_ill 18 = .ok (.getfield 40, 3) := by decide +kernel
theorem dX7_ill_21 : decode cX7_ill 21 = .ok (.iload_n 2, 1) := by decide +kernel
theorem dX7_ill_22 : decode cX7_ill 22 = .ok (.dup2, 1) := by decide +kernel
theorem dX7_ill_23 : decode cX7_ill 23 = .ok (.iaload, 1) := by decide +kernel
theorem dX7_ill_24 : decode cX7_ill 24 = .ok (.iconst 1, 1) := by decide +kernel
theorem dX7_ill_25 : decode cX7_ill 25 = .ok (.iload_n 1, 1) := by decide +kernel
theorem dX7_ill_26 : decode cX7_ill 26 = .ok (.ishl, 1) := by decide +kernel
theorem dX7_ill_27 : decode cX7_ill 27 = .ok (.ior, 1) := by decide +kernel
theorem dX7_ill_28 : decode cX7_ill 28 = .ok (.iastore, 1) := by decide +kernel
theorem dX7_ill_29 : decode cX7_ill 29 = .ok (.iconst 0, 1) := by decide +kernel
theorem dX7_ill_30 : decode cX7_ill 30 = .ok (.istore 4, 2) := by decide +kernel
theorem dX7_ill_32 : decode cX7_ill 32 = .ok (.iload 4, 2) := by decide +kernel
theorem dX7_ill_34 : decode cX7_ill 34 = .ok (.aload_n 0, 1) := by decide +kernel
theorem dX7_ill_35 : decode cX7_ill 35 = .ok (.getfield 51, 3) := by decide +kernel
theorem dX7_ill_38 : decode cX7_ill 38 = .ok (.if_icmp .ge 49, 3) := by decide +kernel
theorem dX7_ill_41 : decode cX7_ill 41 = .ok (.aload_n 0, 1) := by decide +kernel
theorem dX7_ill_42 : decode cX7_ill 42 = .ok (.getfield 29, 3) := by decide +kernel
theorem dX7_ill_45 : decode cX7_ill 45 = .ok (.iload 4, 2) := by decide +kernel
theorem dX7_ill_47 : decode cX7_ill 47 = .ok (.aaload, 1) := by decide +kernel
theorem dX7_ill_48 : decode cX7_ill 48 = .ok (.astore 5, 2) := by decide +kernel
theorem dX7_ill_50 : decode cX7_ill 50 = .ok (.aload 5, 2) := by decide +kernel
theorem dX7_ill_52 : decode cX7_ill 52 = .ok (.getfield 196, 3) := by decide +kernel
theorem dX7_ill_55 : decode cX7_ill 55 = .ok (.iload_n 2, 1) := by decide +kernel
theorem dX7_ill_56 : decode cX7_ill 56 = .ok (.if_icmp .ne 25, 3) := by decide +kernel
theorem dX7_ill_59 : decode cX7_ill 59 = .ok (.aload 5, 2) := by decide +kernel
theorem dX7_ill_61 : decode cX7_ill 61 = .ok (.iload_n 1, 1) := by decide +kernel
theorem dX7_ill_62 : decode cX7_ill 62 = .ok (.invokevirtual 274, 3) := by decide +kernel
theorem dX7_ill_65 : decode cX7_ill 65 = .ok (.ifCond .eq 16, 3) := by decide +kernel
theorem dX7_ill_68 : decode cX7_ill 68 = .ok (.aload_n 0, 1) := by decide +kernel
theorem dX7_ill_69 : decode cX7_ill 69 = .ok (.aload 5, 2) := by decide +kernel
theorem dX7_ill_71 : decode cX7_ill 71 = .ok (.aload_n 0, 1) := by decide +kernel
theorem dX7_ill_72 : decode cX7_ill 72 = .ok (.getfield 60, 3) := by decide +kernel
theorem dX7_ill_75 : decode cX7_ill 75 = .ok (.iload 4, 2) := by decide +kernel
theorem dX7_ill_77 : decode cX7_ill 77 = .ok (.iaload, 1) := by decide +kernel
theorem dX7_ill_78 : decode cX7_ill 78 = .ok (.invokevirtual 277, 3) := by decide +kernel
theorem dX7_ill_81 : decode cX7_ill 81 = .ok (.iinc 4 1, 3) := by decide +kernel
theorem dX7_ill_84 : decode cX7_ill 84 = .ok (.goto (-52), 3) := by decide +kernel
theorem dX7_ill_87 : decode cX7_ill 87 = .ok (.iload_n 3, 1) := by decide +kernel
theorem dX7_ill_88 : decode cX7_ill 88 = .ok (.ireturn, 1) := by decide +kernel
set_option maxRecDepth 20000 in
theorem ggX7_late_X7_checkWedding : GoodIn wsX7_late wsX7_checkWedding := goodIn_ca (goodIn_r _ [12, 13, 14, 15, 28, 29, 30, 31, 32, 33, 34, 35, 36, 37, 38, 39, 40, 41, 42] rfl (by decide +kernel)) (goodIn_sub (fun _ h => List.mem_cons_of_mem _ (List.mem_append_right _ h)) (by decide +kernel))
set_option maxRecDepth 20000 in
theorem gX7_late_X7_checkWedding : GoodIn wsX7_late (wsV RX7 214 RX7 yX7_checkWedding wsX7_checkWedding) := goodIn_app (goodIn_of _ (by decide +kernel)) ggX7_late_X7_checkWedding
set_option maxRecDepth 20000 in
theorem ggX7_late_X6_quarters : GoodIn wsX7_late wsX6_quarters := goodIn_r _ [20, 21, 22, 23, 24, 25, 26, 27, 43, 44, 45, 46, 47, 48, 49, 50, 51, 52, 53, 54] rfl (by decide +kernel)
set_option maxRecDepth 20000 in
theorem gX7_late_X6_quarters : GoodIn wsX7_late (wsV RX7 287 RX6 yX6_quarters wsX6_quarters) := goodIn_app (goodIn_of _ (by decide +kernel)) ggX7_late_X6_quarters
theorem dX7_late_0 : decode cX7_late 0 = .ok (.aload_n 0, 1) := by decide +kernel
theorem dX7_late_1 : decode cX7_late 1 = .ok (.iload_n 1, 1) := by decide +kernel
theorem dX7_late_2 : decode cX7_late 2 = .ok (.invokevirtual 214, 3) := by decide +kernel
theorem dX7_late_5 : decode cX7_late 5 = .ok (.iload_n 2, 1) := by decide +kernel
theorem dX7_late_6 : decode cX7_late 6 = .ok (.ifCond .lt 10, 3) := by decide +kernel
theorem dX7_late_9 : decode cX7_late 9 = .ok (.iload_n 2, 1) := by decide +kernel
theorem dX7_late_10 : decode cX7_late 10 = .ok (.sipush 240, 3) := by decide +kernel
theorem dX7_late_13 : decode cX7_late 13 = .ok (.if_icmp .le 14, 3) := by decide +kernel
theorem dX7_late_16 : decode cX7_late 16 = .ok (.new 101, 3) := by decide +kernel
theorem dX7_late_19 : decode cX7_late 19 = .ok (.dup, 1) := by decide +kernel
theorem dX7_late_20 : decode cX7_late 20 = .ok (.ldc_w 280, 3) := by decide +kernel
theorem dX7_late_23 : decode cX7_late 23 = .ok (.invokespecial 105, 3) := by decide +kernel
theorem dX7_late_26 : decode cX7_late 26 = .ok (.athrow, 1) := by decide +kernel
theorem dX7_late_27 : decode cX7_late 27 = .ok (.aload_n 0, 1) := by decide +kernel
theorem dX7_late_28 : decode cX7_late 28 = .ok (.getfield 29, 3) := by decide +kernel
theorem dX7_late_31 : decode cX7_late 31 = .ok (.iload_n 1, 1) := by decide +kernel
theorem dX7_late_32 : decode cX7_late 32 = .ok (.aaload, 1) := by decide +kernel
theorem dX7_late_33 : decode cX7_late 33 = .ok (.getfield 233, 3) := by decide +kernel
theorem dX7_late_36 : decode cX7_late 36 = .ok (.iconst 1, 1) := by decide +kernel
theorem dX7_late_37 : decode cX7_late 37 = .ok (.if_icmp .eq 14, 3) := by decide +kernel
theorem dX7_late_40 : decode cX7_late 40 = .ok (.new 106, 3) := by decide +kernel
theorem dX7_late_43 : decode cX7_late 43 = .ok (.dup, 1) := by decide +kernel
theorem dX7_late_44 : decode cX7_late 44 = .ok (.ldc_w 282, 3) := by decide +kernel
theorem dX7_late_47 : decode cX7_late 47 = .ok (.invokespecial 110, 3) := by decide +kernel
theorem dX7_late_50 : decode cX7_late 50 = .ok (.athrow, 1) := by decide +kernel
theorem dX7_late_51 : decode cX7_late 51 = .ok (.aload_n 0, 1) := by decide +kernel
theorem dX7_late_52 : decode cX7_late 52 = .ok (.getfield 29, 3) := by decide +kernel
theorem dX7_late_55 : decode cX7_late 55 = .ok (.iload_n 1, 1) := by decide +kernel
theorem dX7_late_56 : decode cX7_late 56 = .ok (.aaload, 1) := by decide +kernel
theorem dX7_late_57 : decode cX7_late 57 = .ok (.iload_n 2, 1) := by decide +kernel
theorem dX7_late_58 : decode cX7_late 58 = .ok (.putfield 284, 3) := by decide +kernel
theorem dX7_late_61 : decode cX7_late 61 = .ok (.aload_n 0, 1) := by decide +kernel
theorem dX7_late_62 : decode cX7_late 62 = .ok (.getfield 29, 3) := by decide +kernel
theorem dX7_late_65 : decode cX7_late 65 = .ok (.iload_n 1, 1) := by decide +kernel
theorem dX7_late_66 : decode cX7_late 66 = .ok (.aaload, 1) := by decide +kernel
theorem dX7_late_67 : decode cX7_late 67 = .ok (.invokevirtual 287, 3) := by decide +kernel
theorem dX7_late_70 : decode cX7_late 70 = .ok (.ireturn, 1) := by decide +kernel
set_option maxRecDepth 20000 in
theorem ggX7_pass_X7_endToday : GoodIn wsX7_pass wsX7_endToday := goodIn_r _ [10, 11, 12, 13, 5, 14, 15, 16, 17, 9, 18, 19, 20, 21, 22, 23, 24, 25, 26, 27, 28, 29, 30, 31, 32, 33, 34, 35, 36, 37, 38, 39, 40, 41, 42, 43, 44, 45, 46, 47, 48, 49, 50, 51, 52, 53, 54, 55, 56, 57, 58, 59, 60, 61, 62, 63, 64, 65, 66, 67, 68, 69, 70, 71, 72, 73, 74, 75, 76, 77, 78, 79, 80, 81, 82, 83, 84, 85, 86, 87, 88, 89, 90, 91, 92, 93, 94, 95, 96, 97, 98, 99, 100, 101, 102, 103, 104, 105, 106, 107, 108, 109, 110, 111, 112, 113, 114, 115, 116, 117, 118, 119, 120, 121, 122, 123, 124, 130, 131, 132, 133, 134, 135, 136, 137, 138, 139, 140, 141, 142, 143, 144, 145, 146, 147, 148, 149, 150, 151, 152, 153, 154, 155, 156, 157, 158, 159, 160, 161, 162, 163, 164, 165, 166, 167, 168, 169, 170, 171, 172, 173, 174, 175, 176, 177] rfl (by decide +kernel)
set_option maxRecDepth 20000 in
theorem gX7_pass_X7_endToday : GoodIn wsX7_pass (wsV RX7 295 RX7 yX7_endToday wsX7_endToday) := goodIn_app (goodIn_of _ (by decide +kernel)) ggX7_pass_X7_endToday
set_option maxRecDepth 20000 in
theorem ggX7_pass_X7_loseThoseWhoWaited : GoodIn wsX7_pass wsX7_loseThoseWhoWaited := goodIn_r _ [128, 11, 12, 14, 129, 5, 130, 131, 132, 133, 134, 135, 136, 137, 138, 139, 140, 141, 142, 143, 144, 145, 146, 147, 148, 149, 150, 151, 152, 153, 154, 155, 156] rfl (by decide +kernel)
set_option maxRecDepth 20000 in
theorem gX7_pass_X7_loseThoseWhoWaited : GoodIn wsX7_pass (wsV RX7 298 RX7 yX7_loseThoseWhoWaited wsX7_loseThoseWhoWaited) := goodIn_app (goodIn_of _ (by decide +kernel)) ggX7_pass_X7_loseThoseWhoWaited
theorem dX7_pass_0 : decode cX7_pass 0 = .ok (.iload_n 1, 1) := by decide +kernel
theorem dX7_pass_1 : decode cX7_pass 1 = .ok (.iconst 1, 1) := by decide +kernel
theorem dX7_pass_2 : decode cX7_pass 2 = .ok (.if_icmp .lt 9, 3) := by decide +kernel
theorem dX7_pass_5 : decode cX7_pass 5 = .ok (.iload_n 1, 1) := by decide +kernel
theorem dX7_pass_6 : decode cX7_pass 6 = .ok (.bipush 60, 2) := by decide +kernel
theorem dX7_pass_8 : decode cX7_pass 8 = .ok (.if_icmp .le 14, 3) := by decide +kernel
theorem dX7_pass_11 : decode cX7_pass 11 = .ok (.new 101, 3) := by decide +kernel
theorem dX7_pass_14 : decode cX7_pass 14 = .ok (.dup, 1) := by decide +kernel
theorem dX7_pass_15 : decode cX7_pass 15 = .ok (.ldc_w 291, 3) := by decide +kernel
theorem dX7_pass_18 : decode cX7_pass 18 = .ok (.invokespecial 105, 3) := by decide +kernel
theorem dX7_pass_21 : decode cX7_pass 21 = .ok (.athrow, 1) := by decide +kernel
theorem dX7_pass_22 : decode cX7_pass 22 = .ok (.aload_n 0, 1) := by decide +kernel
theorem dX7_pass_23 : decode cX7_pass 23 = .ok (.getfield 54, 3) := by decide +kernel
theorem dX7_pass_26 : decode cX7_pass 26 = .ok (.iload_n 1, 1) := by decide +kernel
theorem dX7_pass_27 : decode cX7_pass 27 = .ok (.iadd, 1) := by decide +kernel
theorem dX7_pass_28 : decode cX7_pass 28 = .ok (.sipush 365, 3) := by decide +kernel
theorem dX7_pass_31 : decode cX7_pass 31 = .ok (.if_icmp .le 14, 3) := by decide +kernel
theorem dX7_pass_34 : decode cX7_pass 34 = .ok (.new 106, 3) := by decide +kernel
theorem dX7_pass_37 : decode cX7_pass 37 = .ok (.dup, 1) := by decide +kernel
theorem dX7_pass_38 : decode cX7_pass 38 = .ok (.ldc_w 293, 3) := by decide +kernel
theorem dX7_pass_41 : decode cX7_pass 41 = .ok (.invokespecial 110, 3) := by decide +kernel
theorem dX7_pass_44 : decode cX7_pass 44 = .ok (.athrow, 1) := by decide +kernel
theorem dX7_pass_45 : decode cX7_pass 45 = .ok (.iconst 0, 1) := by decide +kernel
theorem dX7_pass_46 : decode cX7_pass 46 = .ok (.istore_n 2, 1) := by decide +kernel
theorem dX7_pass_47 : decode cX7_pass 47 = .ok (.iload_n 2, 1) := by decide +kernel
theorem dX7_pass_48 : decode cX7_pass 48 = .ok (.iload_n 1, 1) := by decide +kernel
theorem dX7_pass_49 : decode cX7_pass 49 = .ok (.if_icmp .ge 27, 3) := by decide +kernel
theorem dX7_pass_52 : decode cX7_pass 52 = .ok (.aload_n 0, 1) := by decide +kernel
theorem dX7_pass_53 : decode cX7_pass 53 = .ok (.invokevirtual 295, 3) := by decide +kernel
theorem dX7_pass_56 : decode cX7_pass 56 = .ok (.aload_n 0, 1) := by decide +kernel
theorem dX7_pass_57 : decode cX7_pass 57 = .ok (.dup, 1) := by decide +kernel
theorem dX7_pass_58 : decode cX7_pass 58 = .ok (.getfield 54, 3) := by decide +kernel
theorem dX7_pass_61 : decode cX7_pass 61 = .ok (.iconst 1, 1) := by decide +kernel
theorem dX7_pass_62 : decode cX7_pass 62 = .ok (.iadd, 1) := by decide +kernel
theorem dX7_pass_63 : decode cX7_pass 63 = .ok (.putfield 54, 3) := by decide +kernel
theorem dX7_pass_66 : decode cX7_pass 66 = .ok (.aload_n 0, 1) := by decide +kernel
theorem dX7_pass_67 : decode cX7_pass 67 = .ok (.invokevirtual 298, 3) := by decide +kernel
theorem dX7_pass_70 : decode cX7_pass 70 = .ok (.iinc 2 1, 3) := by decide +kernel
theorem dX7_pass_73 : decode cX7_pass 73 = .ok (.goto (-26), 3) := by decide +kernel
theorem dX7_pass_76 : decode cX7_pass 76 = .ok (.aload_n 0, 1) := by decide +kernel
theorem dX7_pass_77 : decode cX7_pass 77 = .ok (.getfield 54, 3) := by decide +kernel
theorem dX7_pass_80 : decode cX7_pass 80 = .ok (.ireturn, 1) := by decide +kernel
set_option maxRecDepth 20000 in
theorem ggX7_ofPlayer_X7_checkPlayer : GoodIn wsX7_ofPlayer wsX7_checkPlayer := goodIn_ca (goodIn_r _ [16, 17, 18, 19, 35, 36, 37, 38, 39, 40, 41, 42, 43, 44, 45, 46, 47, 48, 49] rfl (by decide +kernel)) (goodIn_sub (fun _ h => List.mem_cons_of_mem _ (List.mem_append_right _ h)) (by decide +kernel))
set_option maxRecDepth 20000 in
theorem gX7_ofPlayer_X7_checkPlayer : GoodIn wsX7_ofPlayer (wsV RX7 123 RX7 yX7_checkPlayer wsX7_checkPlayer) := goodIn_app (goodIn_of _ (by decide +kernel)) ggX7_ofPlayer_X7_checkPlayer
set_option maxRecDepth 20000 in
theorem ggX7_ofPlayer_X7_countFixedWith : GoodIn wsX7_ofPlayer wsX7_countFixedWith := goodIn_r _ [23, 24, 25, 26, 27, 28, 29, 30, 31, 32, 33, 15, 34, 35, 36, 37, 38, 39, 40, 41, 42, 43, 44, 45, 46, 47, 48, 49, 58, 59, 60, 61, 62, 63, 64, 65, 66, 67, 68, 69] rfl (by decide +kernel)
set_option maxRecDepth 20000 in
theorem gX7_ofPlayer_X7_countFixedWith : GoodIn wsX7_ofPlayer (wsV RX7 304 RX7 yX7_countFixedWith wsX7_countFixedWith) := goodIn_app (goodIn_of _ (by decide +kernel)) ggX7_ofPlayer_X7_countFixedWith
theorem dX7_ofPlayer_0 : decode cX7_ofPlayer 0 = .ok (.aload_n 0, 1) := by decide +kernel
theorem dX7_ofPlayer_1 : decode cX7_ofPlayer 1 = .ok (.iload_n 1, 1) := by decide +kernel
theorem dX7_ofPlayer_2 : decode cX7_ofPlayer 2 = .ok (.invokevirtual 123, 3) := by decide +kernel
theorem dX7_ofPlayer_5 : decode cX7_ofPlayer 5 = .ok (.aload_n 0, 1) := by decide +kernel
theorem dX7_ofPlayer_6 : decode cX7_ofPlayer 6 = .ok (.getfield 11, 3) := by decide +kernel
theorem dX7_ofPlayer_9 : decode cX7_ofPlayer 9 = .ok (.iload_n 1, 1) := by decide +kernel
theorem dX7_ofPlayer_10 : decode cX7_ofPlayer 10 = .ok (.aaload, 1) := by decide +kernel
theorem dX7_ofPlayer_11 : decode cX7_ofPlayer 11 = .ok (.astore_n 3, 1) := by decide +kernel
theorem dX7_ofPlayer_12 : decode cX7_ofPlayer 12 = .ok (.iload_n 2, 1) := by decide +kernel
theorem dX7_ofPlayer_13 : decode cX7_ofPlayer 13 = .ok (.tableswitch 97 0 8 #[51, 56, 61, 66, 71, 76, 81, 87, 92], 51) := by decide +kernel
theorem dX7_ofPlayer_64 : decode cX7_ofPlayer 64 = .ok (.aload_n 3, 1) := by decide +kernel
theorem dX7_ofPlayer_65 : decode cX7_ofPlayer 65 = .ok (.getfield 111, 3) := by decide +kernel
theorem dX7_ofPlayer_68 : decode cX7_ofPlayer 68 = .ok (.ireturn, 1) := by decide +kernel
theorem dX7_ofPlayer_69 : decode cX7_ofPlayer 69 = .ok (.aload_n 3, 1) := by decide +kernel
theorem dX7_ofPlayer_70 : decode cX7_ofPlayer 70 = .ok (.getfield 114, 3) := by decide +kernel
theorem dX7_ofPlayer_73 : decode cX7_ofPlayer 73 = .ok (.ireturn, 1) := by decide +kernel
theorem dX7_ofPlayer_74 : decode cX7_ofPlayer 74 = .ok (.aload_n 3, 1) := by decide +kernel
theorem dX7_ofPlayer_75 : decode cX7_ofPlayer 75 = .ok (.getfield 117, 3) := by decide +kernel
theorem dX7_ofPlayer_78 : decode cX7_ofPlayer 78 = .ok (.ireturn, 1) := by decide +kernel
theorem dX7_ofPlayer_79 : decode cX7_ofPlayer 79 = .ok (.aload_n 3, 1) := by decide +kernel
theorem dX7_ofPlayer_80 : decode cX7_ofPlayer 80 = .ok (.getfield 120, 3) := by decide +kernel
theorem dX7_ofPlayer_83 : decode cX7_ofPlayer 83 = .ok (.ireturn, 1) := by decide +kernel
theorem dX7_ofPlayer_84 : decode cX7_ofPlayer 84 = .ok (.aload_n 3, 1) := by decide +kernel
theorem dX7_ofPlayer_85 : decode cX7_ofPlayer 85 = .ok (.getfield 150, 3) := by decide +kernel
theorem dX7_ofPlayer_88 : decode cX7_ofPlayer 88 = .ok (.ireturn, 1) := by decide +kernel
theorem dX7_ofPlayer_89 : decode cX7_ofPlayer 89 = .ok (.aload_n 3, 1) := by decide +kernel
theorem dX7_ofPlayer_90 : decode cX7_ofPlayer 90 = .ok (.getfield 301, 3) := by decide +kernel
theorem dX7_ofPlayer_93 : decode cX7_ofPlayer 93 = .ok (.ireturn, 1) := by decide +kernel
theorem dX7_ofPlayer_94 : decode cX7_ofPlayer 94 = .ok (.aload_n 0, 1) := by decide +kernel
theorem dX7_ofPlayer_95 : decode cX7_ofPlayer 95 = .ok (.iload_n 1, 1) := by decide +kernel
theorem dX7_ofPlayer_96 : decode cX7_ofPlayer 96 = .ok (.invokevirtual 304, 3) := by decide +kernel
theorem dX7_ofPlayer_99 : decode cX7_ofPlayer 99 = .ok (.ireturn, 1) := by decide +kernel
theorem dX7_ofPlayer_100 : decode cX7_ofPlayer 100 = .ok (.aload_n 3, 1) := by decide +kernel
theorem dX7_ofPlayer_101 : decode cX7_ofPlayer 101 = .ok (.getfield 307, 3) := by decide +kernel
theorem dX7_ofPlayer_104 : decode cX7_ofPlayer 104 = .ok (.ireturn, 1) := by decide +kernel
theorem dX7_ofPlayer_105 : decode cX7_ofPlayer 105 = .ok (.aload_n 3, 1) := by decide +kernel
theorem dX7_ofPlayer_106 : decode cX7_ofPlayer 106 = .ok (.getfield 310, 3) := by decide +kernel
theorem dX7_ofPlayer_109 : decode cX7_ofPlayer 109 = .ok (.ireturn, 1) := by decide +kernel
theorem dX7_ofPlayer_110 : decode cX7_ofPlayer 110 = .ok (.new 101, 3) := by decide +kernel
theorem dX7_ofPlayer_113 : decode cX7_ofPlayer 113 = .ok (.dup, 1) := by decide +kernel
theorem dX7_ofPlayer_114 : decode cX7_ofPlayer 114 = .ok (.ldc_w 313, 3) := by decide +kernel
theorem dX7_ofPlayer_117 : decode cX7_ofPlayer 117 = .ok (.invokespecial 105, 3) := by decide +kernel
theorem dX7_ofPlayer_120 : decode cX7_ofPlayer 120 = .ok (.athrow, 1) := by decide +kernel
set_option maxRecDepth 20000 in
theorem ggX7_ofSong_X7_checkSong : GoodIn wsX7_ofSong wsX7_checkSong := goodIn_ca (goodIn_r _ [11, 12, 13] rfl (by decide +kernel)) (goodIn_sub (fun _ h => List.mem_cons_of_mem _ (List.mem_append_right _ h)) (by decide +kernel))
set_option maxRecDepth 20000 in
theorem gX7_ofSong_X7_checkSong : GoodIn wsX7_ofSong (va_wsS RX7 134 yX7_checkSong wsX7_checkSong) := goodIn_app (goodIn_of _ (by decide +kernel)) ggX7_ofSong_X7_checkSong
set_option maxRecDepth 20000 in
theorem ggX7_ofSong_X7_shareOf : GoodIn wsX7_ofSong wsX7_shareOf := goodIn_r _ [17, 3, 6, 7, 28, 29, 30, 31, 32, 33, 34, 35, 36, 37, 38, 39, 40, 41, 42, 43, 44, 45, 46] rfl (by decide +kernel)
set_option maxRecDepth 20000 in
theorem gX7_ofSong_X7_shareOf : GoodIn wsX7_ofSong (wsV RX7 316 RX7 yX7_shareOf wsX7_shareOf) := goodIn_app (goodIn_of _ (by decide +kernel)) ggX7_ofSong_X7_shareOf
set_option maxRecDepth 20000 in
theorem ggX7_ofSong_X7_countKnowing : GoodIn wsX7_ofSong wsX7_countKnowing := goodIn_r _ [21, 22, 23, 24, 25, 26, 10, 27, 28, 29, 30, 31, 32, 33, 34, 35, 36, 37, 38, 39, 40, 41, 42, 47, 48, 49, 50, 51, 52, 53, 54] rfl (by decide +kernel)
set_option maxRecDepth 20000 in
theorem gX7_ofSong_X7_countKnowing : GoodIn wsX7_ofSong (wsV RX7 320 RX7 yX7_countKnowing wsX7_countKnowing) := goodIn_app (goodIn_of _ (by decide +kernel)) ggX7_ofSong_X7_countKnowing
theorem dX7_ofSong_0 : decode cX7_ofSong 0 = .ok (.iload_n 1, 1) := by decide +kernel
theorem dX7_ofSong_1 : decode cX7_ofSong 1 = .ok (.invokestatic 134, 3) := by decide +kernel
theorem dX7_ofSong_4 : decode cX7_ofSong 4 = .ok (.aload_n 0, 1) := by decide +kernel
theorem dX7_ofSong_5 : decode cX7_ofSong 5 = .ok (.getfield 17, 3) := by decide +kernel
theorem dX7_ofSong_8 : decode cX7_ofSong 8 = .ok (.iload_n 1, 1) := by decide +kernel
theorem dX7_ofSong_9 : decode cX7_ofSong 9 = .ok (.aaload, 1) := by decide +kernel
theorem dX7_ofSong_10 : decode cX7_ofSong 10 = .ok (.astore_n 3, 1) := by decide +kernel
theorem dX7_ofSong_11 : decode cX7_ofSong 11 = .ok (.iload_n 2, 1) := by decide +kernel
theorem dX7_ofSong_12 : decode cX7_ofSong 12 = .ok (.tableswitch 72 0 5 #[40, 45, 50, 55, 60, 66], 40) := by decide +kernel
theorem dX7_ofSong_52 : decode cX7_ofSong 52 = .ok (.aload_n 3, 1) := by decide +kernel
theorem dX7_ofSong_53 : decode cX7_ofSong 53 = .ok (.getfield 142, 3) := by decide +kernel
theorem dX7_ofSong_56 : decode cX7_ofSong 56 = .ok (.ireturn, 1) := by decide +kernel
theorem dX7_ofSong_57 : decode cX7_ofSong 57 = .ok (.aload_n 3, 1) := by decide +kernel
theorem dX7_ofSong_58 : decode cX7_ofSong 58 = .ok (.getfield 145, 3) := by decide +kernel
theorem dX7_ofSong_61 : decode cX7_ofSong 61 = .ok (.ireturn, 1) := by decide +kernel
theorem dX7_ofSong_62 : decode cX7_ofSong 62 = .ok (.aload_n 3, 1) := by decide +kernel
theorem dX7_ofSong_63 : decode cX7_ofSong 63 = .ok (.getfield 139, 3) := by decide +kernel
theorem dX7_ofSong_66 : decode cX7_ofSong 66 = .ok (.ireturn, 1) := by decide +kernel
theorem dX7_ofSong_67 : decode cX7_ofSong 67 = .ok (.aload_n 3, 1) := by decide +kernel
theorem dX7_ofSong_68 : decode cX7_ofSong 68 = .ok (.getfield 315, 3) := by decide +kernel
theorem dX7_ofSong_71 : decode cX7_ofSong 71 = .ok (.ireturn, 1) := by decide +kernel
theorem dX7_ofSong_72 : decode cX7_ofSong 72 = .ok (.aload_n 0, 1) := by decide +kernel
theorem dX7_ofSong_73 : decode cX7_ofSong 73 = .ok (.aload_n 3, 1) := by decide +kernel
theorem dX7_ofSong_74 : decode cX7_ofSong 74 = .ok (.invokevirtual 316, 3) := by decide +kernel
theorem dX7_ofSong_77 : decode cX7_ofSong 77 = .ok (.ireturn, 1) := by decide +kernel
theorem dX7_ofSong_78 : decode cX7_ofSong 78 = .ok (.aload_n 0, 1) := by decide +kernel
theorem dX7_ofSong_79 : decode cX7_ofSong 79 = .ok (.iload_n 1, 1) := by decide +kernel
theorem dX7_ofSong_80 : decode cX7_ofSong 80 = .ok (.invokevirtual 320, 3) := by decide +kernel
theorem dX7_ofSong_83 : decode cX7_ofSong 83 = .ok (.ireturn, 1) := by decide +kernel
theorem dX7_ofSong_84 : decode cX7_ofSong 84 = .ok (.new 101, 3) := by decide +kernel
theorem dX7_ofSong_87 : decode cX7_ofSong 87 = .ok (.dup, 1) := by decide +kernel
theorem dX7_ofSong_88 : decode cX7_ofSong 88 = .ok (.ldc_w 323, 3) := by decide +kernel
theorem dX7_ofSong_91 : decode cX7_ofSong 91 = .ok (.invokespecial 105, 3) := by decide +kernel
theorem dX7_ofSong_94 : decode cX7_ofSong 94 = .ok (.athrow, 1) := by decide +kernel
set_option maxRecDepth 20000 in
theorem ggX7_ofBand_X7_checkBand : GoodIn wsX7_ofBand wsX7_checkBand := goodIn_ca (goodIn_r _ [10, 11, 12, 13, 22, 23, 24, 25, 26, 27, 28, 29, 30, 31, 32, 33, 34, 35, 36] rfl (by decide +kernel)) (goodIn_sub (fun _ h => List.mem_cons_of_mem _ (List.mem_append_right _ h)) (by decide +kernel))
set_option maxRecDepth 20000 in
theorem gX7_ofBand_X7_checkBand : GoodIn wsX7_ofBand (wsV RX7 180 RX7 yX7_checkBand wsX7_checkBand) := goodIn_app (goodIn_of _ (by decide +kernel)) ggX7_ofBand_X7_checkBand
set_option maxRecDepth 20000 in
theorem ggX7_ofBand_X7_countOfBand : GoodIn wsX7_ofBand wsX7_countOfBand := goodIn_r _ [17, 18, 19, 20, 21, 22, 23, 24, 25, 26, 27, 28, 29, 30, 31, 32, 33, 34, 35, 36, 40, 41, 42, 43, 44, 45, 46, 47, 48, 49, 50, 51] rfl (by decide +kernel)
set_option maxRecDepth 20000 in
theorem gX7_ofBand_X7_countOfBand : GoodIn wsX7_ofBand (wsV RX7 333 RX7 yX7_countOfBand wsX7_countOfBand) := goodIn_app (goodIn_of _ (by decide +kernel)) ggX7_ofBand_X7_countOfBand
theorem dX7_ofBand_0 : decode cX7_ofBand 0 = .ok (.aload_n 0, 1) := by decide +kernel
theorem dX7_ofBand_1 : decode cX7_ofBand 1 = .ok (.iload_n 1, 1) := by decide +kernel
theorem dX7_ofBand_2 : decode cX7_ofBand 2 = .ok (.invokevirtual 180, 3) := by decide +kernel
theorem dX7_ofBand_5 : decode cX7_ofBand 5 = .ok (.iload_n 2, 1) := by decide +kernel
theorem dX7_ofBand_6 : decode cX7_ofBand 6 = .ok (.ifCond .lt 9, 3) := by decide +kernel
theorem dX7_ofBand_9 : decode cX7_ofBand 9 = .ok (.iload_n 2, 1) := by decide +kernel
theorem dX7_ofBand_10 : decode cX7_ofBand 10 = .ok (.bipush 8, 2) := by decide +kernel
theorem dX7_ofBand_12 : decode cX7_ofBand 12 = .ok (.if_icmp .le 14, 3) := by decide +kernel
theorem dX7_ofBand_15 : decode cX7_ofBand 15 = .ok (.new 101, 3) := by decide +kernel
theorem dX7_ofBand_18 : decode cX7_ofBand 18 = .ok (.dup, 1) := by decide +kernel
theorem dX7_ofBand_19 : decode cX7_ofBand 19 = .ok (.ldc_w 325, 3) := by decide +kernel
theorem dX7_ofBand_22 : decode cX7_ofBand 22 = .ok (.invokespecial 105, 3) := by decide +kernel
theorem dX7_ofBand_25 : decode cX7_ofBand 25 = .ok (.athrow, 1) := by decide +kernel
theorem dX7_ofBand_26 : decode cX7_ofBand 26 = .ok (.iload_n 2, 1) := by decide +kernel
theorem dX7_ofBand_27 : decode cX7_ofBand 27 = .ok (.bipush 6, 2) := by decide +kernel
theorem dX7_ofBand_29 : decode cX7_ofBand 29 = .ok (.if_icmp .ge 15, 3) := by decide +kernel
