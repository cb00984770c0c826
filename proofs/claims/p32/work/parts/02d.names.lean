theorem dX7_costAt_0 : decode cX7_costAt 0 = .ok (.aload_n 0, 1) := by decide +kernel
theorem dX7_costAt_1 : decode cX7_costAt 1 = .ok (.getfield 36, 3) := by decide +kernel
theorem dX7_costAt_4 : decode cX7_costAt 4 = .ok (.aload_n 1, 1) := by decide +kernel
theorem dX7_costAt_5 : decode cX7_costAt 5 = .ok (.getfield 117, 3) := by decide +kernel
theorem dX7_costAt_8 : decode cX7_costAt 8 = .ok (.aload_n 2, 1) := by decide +kernel
theorem dX7_costAt_9 : decode cX7_costAt 9 = .ok (.getfield 199, 3) := by decide +kernel
theorem dX7_costAt_12 : decode cX7_costAt 12 = .ok (.invokevirtual 166, 3) := by decide +kernel
theorem dX7_costAt_15 : decode cX7_costAt 15 = .ok (.istore_n 3, 1) := by decide +kernel
theorem dX7_costAt_16 : decode cX7_costAt 16 = .ok (.aload_n 1, 1) := by decide +kernel
theorem dX7_costAt_17 : decode cX7_costAt 17 = .ok (.getfield 120, 3) := by decide +kernel
theorem dX7_costAt_20 : decode cX7_costAt 20 = .ok (.aload_n 2, 1) := by decide +kernel
theorem dX7_costAt_21 : decode cX7_costAt 21 = .ok (.getfield 205, 3) := by decide +kernel
theorem dX7_costAt_24 : decode cX7_costAt 24 = .ok (.imul, 1) := by decide +kernel
theorem dX7_costAt_25 : decode cX7_costAt 25 = .ok (.bipush 10, 2) := by decide +kernel
theorem dX7_costAt_27 : decode cX7_costAt 27 = .ok (.iconst 0, 1) := by decide +kernel
theorem dX7_costAt_28 : decode cX7_costAt 28 = .ok (.iload_n 3, 1) := by decide +kernel
theorem dX7_costAt_29 : decode cX7_costAt 29 = .ok (.invokestatic 263, 3) := by decide +kernel
theorem dX7_costAt_32 : decode cX7_costAt 32 = .ok (.imul, 1) := by decide +kernel
theorem dX7_costAt_33 : decode cX7_costAt 33 = .ok (.iadd, 1) := by decide +kernel
theorem dX7_costAt_34 : decode cX7_costAt 34 = .ok (.ireturn, 1) := by decide +kernel
set_option maxRecDepth 20000 in
theorem ggX7_wageAt_X7_costAt : GoodIn wsX7_wageAt wsX7_costAt := goodIn_r _ [6, 7, 8, 9, 1, 10, 11, 12, 13, 14, 15, 16, 17, 18, 19, 20, 40, 41, 42, 43, 44, 45, 46, 47, 48, 49, 50, 51, 52, 53, 54, 32, 33, 34, 35, 36, 37, 38, 39, 55, 56, 57, 58, 59, 60, 61, 62, 63, 64, 65, 66, 67, 68] (by decide +kernel) (by decide +kernel)
set_option maxRecDepth 20000 in
theorem gX7_wageAt_X7_costAt : GoodIn wsX7_wageAt (wsV RX7 504 RX7 yX7_costAt wsX7_costAt) := goodIn_app (goodIn_of _ (by decide +kernel)) ggX7_wageAt_X7_costAt
set_option maxRecDepth 20000 in
theorem ggX7_wageAt_X6_quarters : GoodIn wsX7_wageAt wsX6_quarters := goodIn_r _ [25, 26, 27, 28, 29, 30, 13, 31, 55, 56, 57, 58, 59, 60, 61, 62, 63, 64, 65, 66] (by decide +kernel) (by decide +kernel)
set_option maxRecDepth 20000 in
theorem gX7_wageAt_X6_quarters : GoodIn wsX7_wageAt (wsV RX7 287 RX6 yX6_quarters wsX6_quarters) := goodIn_app (goodIn_of _ (by decide +kernel)) ggX7_wageAt_X6_quarters
theorem dX7_wageAt_0 : decode cX7_wageAt 0 = .ok (.aload_n 0, 1) := by decide +kernel
theorem dX7_wageAt_1 : decode cX7_wageAt 1 = .ok (.aload_n 1, 1) := by decide +kernel
theorem dX7_wageAt_2 : decode cX7_wageAt 2 = .ok (.aload_n 2, 1) := by decide +kernel
theorem dX7_wageAt_3 : decode cX7_wageAt 3 = .ok (.invokevirtual 504, 3) := by decide +kernel
theorem dX7_wageAt_6 : decode cX7_wageAt 6 = .ok (.aload_n 2, 1) := by decide +kernel
theorem dX7_wageAt_7 : decode cX7_wageAt 7 = .ok (.invokevirtual 287, 3) := by decide +kernel
theorem dX7_wageAt_10 : decode cX7_wageAt 10 = .ok (.aload_n 1, 1) := by decide +kernel
theorem dX7_wageAt_11 : decode cX7_wageAt 11 = .ok (.getfield 120, 3) := by decide +kernel
theorem dX7_wageAt_14 : decode cX7_wageAt 14 = .ok (.imul, 1) := by decide +kernel
theorem dX7_wageAt_15 : decode cX7_wageAt 15 = .ok (.iconst 4, 1) := by decide +kernel
theorem dX7_wageAt_16 : decode cX7_wageAt 16 = .ok (.idiv, 1) := by decide +kernel
theorem dX7_wageAt_17 : decode cX7_wageAt 17 = .ok (.iadd, 1) := by decide +kernel
theorem dX7_wageAt_18 : decode cX7_wageAt 18 = .ok (.ireturn, 1) := by decide +kernel
theorem dX7_stageAsFixed_0 : decode cX7_stageAsFixed 0 = .ok (.iconst 0, 1) := by decide +kernel
theorem dX7_stageAsFixed_1 : decode cX7_stageAsFixed 1 = .ok (.istore_n 1, 1) := by decide +kernel
theorem dX7_stageAsFixed_2 : decode cX7_stageAsFixed 2 = .ok (.iload_n 1, 1) := by decide +kernel
theorem dX7_stageAsFixed_3 : decode cX7_stageAsFixed 3 = .ok (.aload_n 0, 1) := by decide +kernel
theorem dX7_stageAsFixed_4 : decode cX7_stageAsFixed 4 = .ok (.getfield 51, 3) := by decide +kernel
theorem dX7_stageAsFixed_7 : decode cX7_stageAsFixed 7 = .ok (.if_icmp .ge 41, 3) := by decide +kernel
theorem dX7_stageAsFixed_10 : decode cX7_stageAsFixed 10 = .ok (.aload_n 0, 1) := by decide +kernel
theorem dX7_stageAsFixed_11 : decode cX7_stageAsFixed 11 = .ok (.getfield 60, 3) := by decide +kernel
theorem dX7_stageAsFixed_14 : decode cX7_stageAsFixed 14 = .ok (.iload_n 1, 1) := by decide +kernel
theorem dX7_stageAsFixed_15 : decode cX7_stageAsFixed 15 = .ok (.aload_n 0, 1) := by decide +kernel
theorem dX7_stageAsFixed_16 : decode cX7_stageAsFixed 16 = .ok (.getfield 29, 3) := by decide +kernel
theorem dX7_stageAsFixed_19 : decode cX7_stageAsFixed 19 = .ok (.iload_n 1, 1) := by decide +kernel
theorem dX7_stageAsFixed_20 : decode cX7_stageAsFixed 20 = .ok (.aaload, 1) := by decide +kernel
theorem dX7_stageAsFixed_21 : decode cX7_stageAsFixed 21 = .ok (.getfield 233, 3) := by decide +kernel
theorem dX7_stageAsFixed_24 : decode cX7_stageAsFixed 24 = .ok (.iconst 1, 1) := by decide +kernel
theorem dX7_stageAsFixed_25 : decode cX7_stageAsFixed 25 = .ok (.if_icmp .ne 15, 3) := by decide +kernel
theorem dX7_stageAsFixed_28 : decode cX7_stageAsFixed 28 = .ok (.aload_n 0, 1) := by decide +kernel
theorem dX7_stageAsFixed_29 : decode cX7_stageAsFixed 29 = .ok (.getfield 29, 3) := by decide +kernel
theorem dX7_stageAsFixed_32 : decode cX7_stageAsFixed 32 = .ok (.iload_n 1, 1) := by decide +kernel
theorem dX7_stageAsFixed_33 : decode cX7_stageAsFixed 33 = .ok (.aaload, 1) := by decide +kernel
theorem dX7_stageAsFixed_34 : decode cX7_stageAsFixed 34 = .ok (.getfield 239, 3) := by decide +kernel
theorem dX7_stageAsFixed_37 : decode cX7_stageAsFixed 37 = .ok (.goto 4, 3) := by decide +kernel
theorem dX7_stageAsFixed_40 : decode cX7_stageAsFixed 40 = .ok (.iconst 0, 1) := by decide +kernel
theorem dX7_stageAsFixed_41 : decode cX7_stageAsFixed 41 = .ok (.iastore, 1) := by decide +kernel
theorem dX7_stageAsFixed_42 : decode cX7_stageAsFixed 42 = .ok (.iinc 1 1, 3) := by decide +kernel
theorem dX7_stageAsFixed_45 : decode cX7_stageAsFixed 45 = .ok (.goto (-43), 3) := by decide +kernel
theorem dX7_stageAsFixed_48 : decode cX7_stageAsFixed 48 = .ok (.return_, 1) := by decide +kernel
set_option maxRecDepth 20000 in
theorem ggX7_stageWithout_X7_stageAsFixed : GoodIn wsX7_stageWithout wsX7_stageAsFixed := goodIn_r _ [12, 1, 4, 2, 13, 14, 112, 113, 114, 115, 116, 117, 118, 119, 120, 121, 122, 123, 124, 125, 126, 127, 128, 129, 130, 131, 132, 133, 134, 135, 136, 137, 138] (by decide +kernel) (by decide +kernel)
set_option maxRecDepth 20000 in
theorem gX7_stageWithout_X7_stageAsFixed : GoodIn wsX7_stageWithout (wsV RX7 342 RX7 yX7_stageAsFixed wsX7_stageAsFixed) := goodIn_app (goodIn_of _ (by decide +kernel)) ggX7_stageWithout_X7_stageAsFixed
set_option maxRecDepth 20000 in
theorem ggX7_stageWithout_X7_has : GoodIn wsX7_stageWithout wsX7_has := goodIn_r _ [17] (by decide +kernel) (by decide +kernel)
set_option maxRecDepth 20000 in
theorem gX7_stageWithout_X7_has : GoodIn wsX7_stageWithout (va_wsS RX7 153 yX7_has wsX7_has) := goodIn_app (goodIn_of _ (by decide +kernel)) ggX7_stageWithout_X7_has
set_option maxRecDepth 20000 in
theorem ggX7_stageWithout_X7_freeFor : GoodIn wsX7_stageWithout wsX7_freeFor := goodIn_r _ [21, 22, 23, 24, 25, 11, 26, 2, 27, 3, 28, 29, 30, 31, 1, 4, 32, 33, 34, 35, 36, 37, 38, 15, 16, 17, 39, 40, 41, 42, 43, 44, 45, 46, 47, 48, 49, 50, 112, 113, 114, 115, 116, 117, 118, 119, 120, 121, 122, 123, 124, 125, 126, 127, 128, 129, 130, 131, 132, 133, 134, 135, 136, 137, 138, 145, 146, 147, 148, 149, 150, 151, 152, 153, 154] (by decide +kernel) (by decide +kernel)
set_option maxRecDepth 20000 in
theorem gX7_stageWithout_X7_freeFor : GoodIn wsX7_stageWithout (wsV RX7 507 RX7 yX7_freeFor wsX7_freeFor) := goodIn_app (goodIn_of _ (by decide +kernel)) ggX7_stageWithout_X7_freeFor
set_option maxRecDepth 20000 in
theorem ggX7_stageWithout_X7_survey : GoodIn wsX7_stageWithout wsX7_survey := goodIn_r _ [54, 2, 55, 56, 57, 5, 22, 58, 59, 6, 60, 61, 62, 63, 64, 65, 66, 67, 68, 69, 70, 71, 72, 73, 74, 11, 75, 76, 77, 78, 79, 29, 80, 81, 82, 83, 84, 85, 86, 87, 88, 15, 16, 17, 89, 90, 91, 92, 93, 94, 95, 96, 97, 98, 99, 100, 101, 102, 103, 104, 105, 106, 28, 30, 31, 107, 50, 36, 37, 34, 38, 39, 40, 41, 42, 43, 44, 108, 109, 110, 111, 112, 113, 114, 115, 116, 117, 118, 119, 120, 121, 122, 123, 124, 125, 126, 127, 128, 129, 130, 131, 132, 133, 134, 135, 136, 137, 138, 155, 156, 157, 139, 140, 141, 142, 143, 144, 145, 146, 147, 148, 149, 150, 151, 152, 153, 154] (by decide +kernel) (by decide +kernel)
set_option maxRecDepth 20000 in
theorem gX7_stageWithout_X7_survey : GoodIn wsX7_stageWithout (wsV RX7 510 RX7 yX7_survey wsX7_survey) := goodIn_app (goodIn_of _ (by decide +kernel)) ggX7_stageWithout_X7_survey
theorem dX7_stageWithout_0 : decode cX7_stageWithout 0 = .ok (.iconst 0, 1) := by decide +kernel
theorem dX7_stageWithout_1 : decode cX7_stageWithout 1 = .ok (.istore_n 3, 1) := by decide +kernel
theorem dX7_stageWithout_2 : decode cX7_stageWithout 2 = .ok (.aload_n 0, 1) := by decide +kernel
theorem dX7_stageWithout_3 : decode cX7_stageWithout 3 = .ok (.invokevirtual 342, 3) := by decide +kernel
theorem dX7_stageWithout_6 : decode cX7_stageWithout 6 = .ok (.iconst 0, 1) := by decide +kernel
theorem dX7_stageWithout_7 : decode cX7_stageWithout 7 = .ok (.istore 4, 2) := by decide +kernel
theorem dX7_stageWithout_9 : decode cX7_stageWithout 9 = .ok (.iload 4, 2) := by decide +kernel
theorem dX7_stageWithout_11 : decode cX7_stageWithout 11 = .ok (.aload_n 0, 1) := by decide +kernel
theorem dX7_stageWithout_12 : decode cX7_stageWithout 12 = .ok (.getfield 51, 3) := by decide +kernel
theorem dX7_stageWithout_15 : decode cX7_stageWithout 15 = .ok (.if_icmp .ge 108, 3) := by decide +kernel
theorem dX7_stageWithout_18 : decode cX7_stageWithout 18 = .ok (.aload_n 0, 1) := by decide +kernel
theorem dX7_stageWithout_19 : decode cX7_stageWithout 19 = .ok (.getfield 29, 3) := by decide +kernel
theorem dX7_stageWithout_22 : decode cX7_stageWithout 22 = .ok (.iload 4, 2) := by decide +kernel
theorem dX7_stageWithout_24 : decode cX7_stageWithout 24 = .ok (.aaload, 1) := by decide +kernel
theorem dX7_stageWithout_25 : decode cX7_stageWithout 25 = .ok (.getfield 196, 3) := by decide +kernel
theorem dX7_stageWithout_28 : decode cX7_stageWithout 28 = .ok (.iload_n 2, 1) := by decide +kernel
theorem dX7_stageWithout_29 : decode cX7_stageWithout 29 = .ok (.if_icmp .ne 88, 3) := by decide +kernel
theorem dX7_stageWithout_32 : decode cX7_stageWithout 32 = .ok (.aload_n 0, 1) := by decide +kernel
theorem dX7_stageWithout_33 : decode cX7_stageWithout 33 = .ok (.getfield 60, 3) := by decide +kernel
theorem dX7_stageWithout_36 : decode cX7_stageWithout 36 = .ok (.iload 4, 2) := by decide +kernel
theorem dX7_stageWithout_38 : decode cX7_stageWithout 38 = .ok (.iaload, 1) := by decide +kernel
theorem dX7_stageWithout_39 : decode cX7_stageWithout 39 = .ok (.iload_n 1, 1) := by decide +kernel
theorem dX7_stageWithout_40 : decode cX7_stageWithout 40 = .ok (.invokestatic 153, 3) := by decide +kernel
theorem dX7_stageWithout_43 : decode cX7_stageWithout 43 = .ok (.ifCond .eq 74, 3) := by decide +kernel
theorem dX7_stageWithout_46 : decode cX7_stageWithout 46 = .ok (.aload_n 0, 1) := by decide +kernel
theorem dX7_stageWithout_47 : decode cX7_stageWithout 47 = .ok (.iload 4, 2) := by decide +kernel
theorem dX7_stageWithout_49 : decode cX7_stageWithout 49 = .ok (.aload_n 0, 1) := by decide +kernel
theorem dX7_stageWithout_50 : decode cX7_stageWithout 50 = .ok (.iload 4, 2) := by decide +kernel
theorem dX7_stageWithout_52 : decode cX7_stageWithout 52 = .ok (.invokevirtual 507, 3) := by decide +kernel
theorem dX7_stageWithout_55 : decode cX7_stageWithout 55 = .ok (.iconst 1, 1) := by decide +kernel
theorem dX7_stageWithout_56 : decode cX7_stageWithout 56 = .ok (.iload_n 1, 1) := by decide +kernel
theorem dX7_stageWithout_57 : decode cX7_stageWithout 57 = .ok (.ishl, 1) := by decide +kernel
theorem dX7_stageWithout_58 : decode cX7_stageWithout 58 = .ok (.iconst (-1), 1) := by decide +kernel
theorem dX7_stageWithout_59 : decode cX7_stageWithout 59 = .ok (.ixor, 1) := by decide +kernel
theorem dX7_stageWithout_60 : decode cX7_stageWithout 60 = .ok (.iand, 1) := by decide +kernel
theorem dX7_stageWithout_61 : decode cX7_stageWithout 61 = .ok (.aload_n 0, 1) := by decide +kernel
theorem dX7_stageWithout_62 : decode cX7_stageWithout 62 = .ok (.getfield 60, 3) := by decide +kernel
theorem dX7_stageWithout_65 : decode cX7_stageWithout 65 = .ok (.iload 4, 2) := by decide +kernel
theorem dX7_stageWithout_67 : decode cX7_stageWithout 67 = .ok (.iaload, 1) := by decide +kernel
theorem dX7_stageWithout_68 : decode cX7_stageWithout 68 = .ok (.invokevirtual 510, 3) := by decide +kernel
theorem dX7_stageWithout_71 : decode cX7_stageWithout 71 = .ok (.aload_n 0, 1) := by decide +kernel
theorem dX7_stageWithout_72 : decode cX7_stageWithout 72 = .ok (.getfield 60, 3) := by decide +kernel
theorem dX7_stageWithout_75 : decode cX7_stageWithout 75 = .ok (.iload 4, 2) := by decide +kernel
theorem dX7_stageWithout_77 : decode cX7_stageWithout 77 = .ok (.aload_n 0, 1) := by decide +kernel
theorem dX7_stageWithout_78 : decode cX7_stageWithout 78 = .ok (.getfield 70, 3) := by decide +kernel
theorem dX7_stageWithout_81 : decode cX7_stageWithout 81 = .ok (.getfield 225, 3) := by decide +kernel
theorem dX7_stageWithout_84 : decode cX7_stageWithout 84 = .ok (.ifCond .ne 7, 3) := by decide +kernel
theorem dX7_stageWithout_87 : decode cX7_stageWithout 87 = .ok (.iconst 0, 1) := by decide +kernel
theorem dX7_stageWithout_88 : decode cX7_stageWithout 88 = .ok (.goto 10, 3) := by decide +kernel
theorem dX7_stageWithout_91 : decode cX7_stageWithout 91 = .ok (.aload_n 0, 1) := by decide +kernel
theorem dX7_stageWithout_92 : decode cX7_stageWithout 92 = .ok (.getfield 70, 3) := by decide +kernel
theorem dX7_stageWithout_95 : decode cX7_stageWithout 95 = .ok (.getfield 236, 3) := by decide +kernel
theorem dX7_stageWithout_98 : decode cX7_stageWithout 98 = .ok (.iastore, 1) := by decide +kernel
theorem dX7_stageWithout_99 : decode cX7_stageWithout 99 = .ok (.iload_n 3, 1) := by decide +kernel
theorem dX7_stageWithout_100 : decode cX7_stageWithout 100 = .ok (.aload_n 0, 1) := by decide +kernel
theorem dX7_stageWithout_101 : decode cX7_stageWithout 101 = .ok (.getfield 70, 3) := by decide +kernel
theorem dX7_stageWithout_104 : decode cX7_stageWithout 104 = .ok (.getfield 225, 3) := by decide +kernel
theorem dX7_stageWithout_107 : decode cX7_stageWithout 107 = .ok (.ifCond .ne 7, 3) := by decide +kernel
theorem dX7_stageWithout_110 : decode cX7_stageWithout 110 = .ok (.iconst 1, 1) := by decide +kernel
theorem dX7_stageWithout_111 : decode cX7_stageWithout 111 = .ok (.goto 4, 3) := by decide +kernel
theorem dX7_stageWithout_114 : decode cX7_stageWithout 114 = .ok (.iconst 0, 1) := by decide +kernel
theorem dX7_stageWithout_115 : decode cX7_stageWithout 115 = .ok (.iadd, 1) := by decide +kernel
theorem dX7_stageWithout_116 : decode cX7_stageWithout 116 = .ok (.istore_n 3, 1) := by decide +kernel
theorem dX7_stageWithout_117 : decode cX7_stageWithout 117 = .ok (.iinc 4 1, 3) := by decide +kernel
theorem dX7_stageWithout_120 : decode cX7_stageWithout 120 = .ok (.goto (-111), 3) := by decide +kernel
theorem dX7_stageWithout_123 : decode cX7_stageWithout 123 = .ok (.iload_n 3, 1) := by decide +kernel
theorem dX7_stageWithout_124 : decode cX7_stageWithout 124 = .ok (.ireturn, 1) := by decide +kernel
set_option maxRecDepth 20000 in
theorem ggX7_putOnStage_X7_getPaid : GoodIn wsX7_putOnStage wsX7_getPaid := goodIn_r _ [8, 9, 10, 11, 12, 13, 14, 15, 16, 17, 18, 19, 20, 21, 22, 23, 24, 25, 26, 27, 28, 29, 30, 31, 32, 33, 34, 35, 36, 37] (by decide +kernel) (by decide +kernel)
set_option maxRecDepth 20000 in
theorem gX7_putOnStage_X7_getPaid : GoodIn wsX7_putOnStage (wsV RX7 250 RX7 yX7_getPaid wsX7_getPaid) := goodIn_app (goodIn_of _ (by decide +kernel)) ggX7_putOnStage_X7_getPaid
theorem dX7_putOnStage_0 : decode cX7_putOnStage 0 = .ok (.iload_n 2, 1) := by decide +kernel
theorem dX7_putOnStage_1 : decode cX7_putOnStage 1 = .ok (.ifCond .eq 9, 3) := by decide +kernel
theorem dX7_putOnStage_4 : decode cX7_putOnStage 4 = .ok (.aload_n 1, 1) := by decide +kernel
theorem dX7_putOnStage_5 : decode cX7_putOnStage 5 = .ok (.iload_n 2, 1) := by decide +kernel
theorem dX7_putOnStage_6 : decode cX7_putOnStage 6 = .ok (.putfield 239, 3) := by decide +kernel
theorem dX7_putOnStage_9 : decode cX7_putOnStage 9 = .ok (.return_, 1) := by decide +kernel
theorem dX7_putOnStage_10 : decode cX7_putOnStage 10 = .ok (.aload_n 1, 1) := by decide +kernel
theorem dX7_putOnStage_11 : decode cX7_putOnStage 11 = .ok (.iconst 3, 1) := by decide +kernel
theorem dX7_putOnStage_12 : decode cX7_putOnStage 12 = .ok (.putfield 233, 3) := by decide +kernel
theorem dX7_putOnStage_15 : decode cX7_putOnStage 15 = .ok (.aload_n 0, 1) := by decide +kernel
theorem dX7_putOnStage_16 : decode cX7_putOnStage 16 = .ok (.aload_n 1, 1) := by decide +kernel
theorem dX7_putOnStage_17 : decode cX7_putOnStage 17 = .ok (.aload_n 1, 1) := by decide +kernel
theorem dX7_putOnStage_18 : decode cX7_putOnStage 18 = .ok (.getfield 247, 3) := by decide +kernel
theorem dX7_putOnStage_21 : decode cX7_putOnStage 21 = .ok (.iconst 5, 1) := by decide +kernel
theorem dX7_putOnStage_22 : decode cX7_putOnStage 22 = .ok (.idiv, 1) := by decide +kernel
theorem dX7_putOnStage_23 : decode cX7_putOnStage 23 = .ok (.ineg, 1) := by decide +kernel
theorem dX7_putOnStage_24 : decode cX7_putOnStage 24 = .ok (.aload_n 1, 1) := by decide +kernel
theorem dX7_putOnStage_25 : decode cX7_putOnStage 25 = .ok (.getfield 247, 3) := by decide +kernel
theorem dX7_putOnStage_28 : decode cX7_putOnStage 28 = .ok (.bipush 10, 2) := by decide +kernel
theorem dX7_putOnStage_30 : decode cX7_putOnStage 30 = .ok (.idiv, 1) := by decide +kernel
theorem dX7_putOnStage_31 : decode cX7_putOnStage 31 = .ok (.isub, 1) := by decide +kernel
theorem dX7_putOnStage_32 : decode cX7_putOnStage 32 = .ok (.invokevirtual 250, 3) := by decide +kernel
theorem dX7_putOnStage_35 : decode cX7_putOnStage 35 = .ok (.return_, 1) := by decide +kernel
set_option maxRecDepth 20000 in
theorem ggX7_freeFor_X7_isFreeFor : GoodIn wsX7_freeFor wsX7_isFreeFor := goodIn_r _ [6, 7, 8, 9, 10, 11, 12, 13, 14, 15, 16, 17, 18, 19, 20, 21, 22, 23, 24, 5, 25, 26, 27, 28, 29, 30, 31, 32, 33, 34, 35, 36, 37, 38, 39, 40, 41, 42, 43, 44, 45, 46, 47, 48, 49, 50, 51, 52, 53, 54, 55, 56, 57, 58, 59, 60, 61, 62, 63, 64, 65, 66, 67, 68, 69, 70, 71, 72, 73, 74] (by decide +kernel) (by decide +kernel)
set_option maxRecDepth 20000 in
theorem gX7_freeFor_X7_isFreeFor : GoodIn wsX7_freeFor (wsV RX7 345 RX7 yX7_isFreeFor wsX7_isFreeFor) := goodIn_app (goodIn_of _ (by decide +kernel)) ggX7_freeFor_X7_isFreeFor
theorem dX7_freeFor_0 : decode cX7_freeFor 0 = .ok (.iconst 0, 1) := by decide +kernel
theorem dX7_freeFor_1 : decode cX7_freeFor 1 = .ok (.istore_n 2, 1) := by decide +kernel
theorem dX7_freeFor_2 : decode cX7_freeFor 2 = .ok (.iconst 0, 1) := by decide +kernel
theorem dX7_freeFor_3 : decode cX7_freeFor 3 = .ok (.istore_n 3, 1) := by decide +kernel
theorem dX7_freeFor_4 : decode cX7_freeFor 4 = .ok (.iload_n 3, 1) := by decide +kernel
theorem dX7_freeFor_5 : decode cX7_freeFor 5 = .ok (.aload_n 0, 1) := by decide +kernel
theorem dX7_freeFor_6 : decode cX7_freeFor 6 = .ok (.getfield 44, 3) := by decide +kernel
theorem dX7_freeFor_9 : decode cX7_freeFor 9 = .ok (.if_icmp .ge 24, 3) := by decide +kernel
theorem dX7_freeFor_12 : decode cX7_freeFor 12 = .ok (.aload_n 0, 1) := by decide +kernel
theorem dX7_freeFor_13 : decode cX7_freeFor 13 = .ok (.iload_n 3, 1) := by decide +kernel
theorem dX7_freeFor_14 : decode cX7_freeFor 14 = .ok (.iload_n 1, 1) := by decide +kernel
theorem dX7_freeFor_15 : decode cX7_freeFor 15 = .ok (.invokevirtual 345, 3) := by decide +kernel
theorem dX7_freeFor_18 : decode cX7_freeFor 18 = .ok (.ifCond .eq 9, 3) := by decide +kernel
theorem dX7_freeFor_21 : decode cX7_freeFor 21 = .ok (.iload_n 2, 1) := by decide +kernel
theorem dX7_freeFor_22 : decode cX7_freeFor 22 = .ok (.iconst 1, 1) := by decide +kernel
theorem dX7_freeFor_23 : decode cX7_freeFor 23 = .ok (.iload_n 3, 1) := by decide +kernel
theorem dX7_freeFor_24 : decode cX7_freeFor 24 = .ok (.ishl, 1) := by decide +kernel
theorem dX7_freeFor_25 : decode cX7_freeFor 25 = .ok (.ior, 1) := by decide +kernel
theorem dX7_freeFor_26 : decode cX7_freeFor 26 = .ok (.istore_n 2, 1) := by decide +kernel
theorem dX7_freeFor_27 : decode cX7_freeFor 27 = .ok (.iinc 3 1, 3) := by decide +kernel
theorem dX7_freeFor_30 : decode cX7_freeFor 30 = .ok (.goto (-26), 3) := by decide +kernel
theorem dX7_freeFor_33 : decode cX7_freeFor 33 = .ok (.iload_n 2, 1) := by decide +kernel
theorem dX7_freeFor_34 : decode cX7_freeFor 34 = .ok (.ireturn, 1) := by decide +kernel
set_option maxRecDepth 20000 in
theorem ggX7_isFreeFor_X7_has : GoodIn wsX7_isFreeFor wsX7_has := goodIn_r _ [20] (by decide +kernel) (by decide +kernel)
set_option maxRecDepth 20000 in
theorem gX7_isFreeFor_X7_has : GoodIn wsX7_isFreeFor (va_wsS RX7 153 yX7_has wsX7_has) := goodIn_app (goodIn_of _ (by decide +kernel)) ggX7_isFreeFor_X7_has
set_option maxRecDepth 20000 in
theorem ggX7_isFreeFor_X4_between : GoodIn wsX7_isFreeFor wsX4_between := goodIn_r _ [25, 26, 68, 69] (by decide +kernel) (by decide +kernel)
set_option maxRecDepth 20000 in
theorem gX7_isFreeFor_X4_between : GoodIn wsX7_isFreeFor (wsV RX7 166 RX4 yX4_between wsX4_between) := goodIn_app (goodIn_of _ (by decide +kernel)) ggX7_isFreeFor_X4_between
set_option maxRecDepth 20000 in
theorem ggX7_isFreeFor_X7_leaveTime : GoodIn wsX7_isFreeFor wsX7_leaveTime := goodIn_r _ [30, 1, 31, 4, 7, 32, 21, 22, 23, 24, 25, 26, 33, 34, 35, 36, 37, 38, 39, 40, 41, 42, 43, 44, 45, 46, 47, 48, 49, 50, 51, 52, 53, 54, 55, 56, 57, 58, 59, 68, 69] (by decide +kernel) (by decide +kernel)
set_option maxRecDepth 20000 in
theorem gX7_isFreeFor_X7_leaveTime : GoodIn wsX7_isFreeFor (wsV RX7 516 RX7 yX7_leaveTime wsX7_leaveTime) := goodIn_app (goodIn_of _ (by decide +kernel)) ggX7_isFreeFor_X7_leaveTime
theorem dX7_isFreeFor_0 : decode cX7_isFreeFor 0 = .ok (.aload_n 0, 1) := by decide +kernel
theorem dX7_isFreeFor_1 : decode cX7_isFreeFor 1 = .ok (.getfield 29, 3) := by decide +kernel
theorem dX7_isFreeFor_4 : decode cX7_isFreeFor 4 = .ok (.iload_n 2, 1) := by decide +kernel
theorem dX7_isFreeFor_5 : decode cX7_isFreeFor 5 = .ok (.aaload, 1) := by decide +kernel
theorem dX7_isFreeFor_6 : decode cX7_isFreeFor 6 = .ok (.astore_n 3, 1) := by decide +kernel
theorem dX7_isFreeFor_7 : decode cX7_isFreeFor 7 = .ok (.aload_n 0, 1) := by decide +kernel
theorem dX7_isFreeFor_8 : decode cX7_isFreeFor 8 = .ok (.getfield 40, 3) := by decide +kernel
theorem dX7_isFreeFor_11 : decode cX7_isFreeFor 11 = .ok (.aload_n 3, 1) := by decide +kernel
theorem dX7_isFreeFor_12 : decode cX7_isFreeFor 12 = .ok (.getfield 196, 3) := by decide +kernel
theorem dX7_isFreeFor_15 : decode cX7_isFreeFor 15 = .ok (.iaload, 1) := by decide +kernel
theorem dX7_isFreeFor_16 : decode cX7_isFreeFor 16 = .ok (.iload_n 1, 1) := by decide +kernel
theorem dX7_isFreeFor_17 : decode cX7_isFreeFor 17 = .ok (.invokestatic 153, 3) := by decide +kernel
theorem dX7_isFreeFor_20 : decode cX7_isFreeFor 20 = .ok (.ifCond .ne 27, 3) := by decide +kernel
theorem dX7_isFreeFor_23 : decode cX7_isFreeFor 23 = .ok (.aload_n 0, 1) := by decide +kernel
theorem dX7_isFreeFor_24 : decode cX7_isFreeFor 24 = .ok (.getfield 36, 3) := by decide +kernel
theorem dX7_isFreeFor_27 : decode cX7_isFreeFor 27 = .ok (.aload_n 0, 1) := by decide +kernel
theorem dX7_isFreeFor_28 : decode cX7_isFreeFor 28 = .ok (.getfield 11, 3) := by decide +kernel
theorem dX7_isFreeFor_31 : decode cX7_isFreeFor 31 = .ok (.iload_n 1, 1) := by decide +kernel
theorem dX7_isFreeFor_32 : decode cX7_isFreeFor 32 = .ok (.aaload, 1) := by decide +kernel
theorem dX7_isFreeFor_33 : decode cX7_isFreeFor 33 = .ok (.getfield 117, 3) := by decide +kernel
theorem dX7_isFreeFor_36 : decode cX7_isFreeFor 36 = .ok (.aload_n 3, 1) := by decide +kernel
theorem dX7_isFreeFor_37 : decode cX7_isFreeFor 37 = .ok (.getfield 199, 3) := by decide +kernel
theorem dX7_isFreeFor_40 : decode cX7_isFreeFor 40 = .ok (.invokevirtual 166, 3) := by decide +kernel
theorem dX7_isFreeFor_43 : decode cX7_isFreeFor 43 = .ok (.iconst (-1), 1) := by decide +kernel
theorem dX7_isFreeFor_44 : decode cX7_isFreeFor 44 = .ok (.if_icmp .ne 5, 3) := by decide +kernel
theorem dX7_isFreeFor_47 : decode cX7_isFreeFor 47 = .ok (.iconst 0, 1) := by decide +kernel
theorem dX7_isFreeFor_48 : decode cX7_isFreeFor 48 = .ok (.ireturn, 1) := by decide +kernel
theorem dX7_isFreeFor_49 : decode cX7_isFreeFor 49 = .ok (.iconst 0, 1) := by decide +kernel
theorem dX7_isFreeFor_50 : decode cX7_isFreeFor 50 = .ok (.istore 4, 2) := by decide +kernel
theorem dX7_isFreeFor_52 : decode cX7_isFreeFor 52 = .ok (.iload 4, 2) := by decide +kernel
theorem dX7_isFreeFor_54 : decode cX7_isFreeFor 54 = .ok (.aload_n 0, 1) := by decide +kernel
theorem dX7_isFreeFor_55 : decode cX7_isFreeFor 55 = .ok (.getfield 51, 3) := by decide +kernel
theorem dX7_isFreeFor_58 : decode cX7_isFreeFor 58 = .ok (.if_icmp .ge 79, 3) := by decide +kernel
theorem dX7_isFreeFor_61 : decode cX7_isFreeFor 61 = .ok (.iload 4, 2) := by decide +kernel
theorem dX7_isFreeFor_63 : decode cX7_isFreeFor 63 = .ok (.iload_n 2, 1) := by decide +kernel
theorem dX7_isFreeFor_64 : decode cX7_isFreeFor 64 = .ok (.if_icmp .eq 38, 3) := by decide +kernel
theorem dX7_isFreeFor_67 : decode cX7_isFreeFor 67 = .ok (.aload_n 0, 1) := by decide +kernel
theorem dX7_isFreeFor_68 : decode cX7_isFreeFor 68 = .ok (.getfield 29, 3) := by decide +kernel
theorem dX7_isFreeFor_71 : decode cX7_isFreeFor 71 = .ok (.iload 4, 2) := by decide +kernel
theorem dX7_isFreeFor_73 : decode cX7_isFreeFor 73 = .ok (.aaload, 1) := by decide +kernel
theorem dX7_isFreeFor_74 : decode cX7_isFreeFor 74 = .ok (.getfield 196, 3) := by decide +kernel
theorem dX7_isFreeFor_77 : decode cX7_isFreeFor 77 = .ok (.aload_n 3, 1) := by decide +kernel
theorem dX7_isFreeFor_78 : decode cX7_isFreeFor 78 = .ok (.getfield 196, 3) := by decide +kernel
theorem dX7_isFreeFor_81 : decode cX7_isFreeFor 81 = .ok (.if_icmp .ne 21, 3) := by decide +kernel
theorem dX7_isFreeFor_84 : decode cX7_isFreeFor 84 = .ok (.aload_n 0, 1) := by decide +kernel
theorem dX7_isFreeFor_85 : decode cX7_isFreeFor 85 = .ok (.getfield 60, 3) := by decide +kernel
theorem dX7_isFreeFor_88 : decode cX7_isFreeFor 88 = .ok (.iload 4, 2) := by decide +kernel
theorem dX7_isFreeFor_90 : decode cX7_isFreeFor 90 = .ok (.iaload, 1) := by decide +kernel
theorem dX7_isFreeFor_91 : decode cX7_isFreeFor 91 = .ok (.iload_n 1, 1) := by decide +kernel
theorem dX7_isFreeFor_92 : decode cX7_isFreeFor 92 = .ok (.invokestatic 153, 3) := by decide +kernel
theorem dX7_isFreeFor_95 : decode cX7_isFreeFor 95 = .ok (.ifCond .eq 7, 3) := by decide +kernel
theorem dX7_isFreeFor_98 : decode cX7_isFreeFor 98 = .ok (.iconst 1, 1) := by decide +kernel
theorem dX7_isFreeFor_99 : decode cX7_isFreeFor 99 = .ok (.goto 4, 3) := by decide +kernel
theorem dX7_isFreeFor_102 : decode cX7_isFreeFor 102 = .ok (.iconst 0, 1) := by decide +kernel
theorem dX7_isFreeFor_103 : decode cX7_isFreeFor 103 = .ok (.istore 5, 2) := by decide +kernel
theorem dX7_isFreeFor_105 : decode cX7_isFreeFor 105 = .ok (.iload 5, 2) := by decide +kernel
theorem dX7_isFreeFor_107 : decode cX7_isFreeFor 107 = .ok (.ifCond .eq 24, 3) := by decide +kernel
theorem dX7_isFreeFor_110 : decode cX7_isFreeFor 110 = .ok (.aload_n 0, 1) := by decide +kernel
theorem dX7_isFreeFor_111 : decode cX7_isFreeFor 111 = .ok (.iload 4, 2) := by decide +kernel
theorem dX7_isFreeFor_113 : decode cX7_isFreeFor 113 = .ok (.iload_n 2, 1) := by decide +kernel
theorem dX7_isFreeFor_114 : decode cX7_isFreeFor 114 = .ok (.invokestatic 513, 3) := by decide +kernel
theorem dX7_isFreeFor_117 : decode cX7_isFreeFor 117 = .ok (.iload 4, 2) := by decide +kernel
theorem dX7_isFreeFor_119 : decode cX7_isFreeFor 119 = .ok (.iload_n 2, 1) := by decide +kernel
theorem dX7_isFreeFor_120 : decode cX7_isFreeFor 120 = .ok (.invokestatic 263, 3) := by decide +kernel
theorem dX7_isFreeFor_123 : decode cX7_isFreeFor 123 = .ok (.invokevirtual 516, 3) := by decide +kernel
theorem dX7_isFreeFor_126 : decode cX7_isFreeFor 126 = .ok (.ifCond .ne 5, 3) := by decide +kernel
theorem dX7_isFreeFor_129 : decode cX7_isFreeFor 129 = .ok (.iconst 0, 1) := by decide +kernel
theorem dX7_isFreeFor_130 : decode cX7_isFreeFor 130 = .ok (.ireturn, 1) := by decide +kernel
theorem dX7_isFreeFor_131 : decode cX7_isFreeFor 131 = .ok (.iinc 4 1, 3) := by decide +kernel
theorem dX7_isFreeFor_134 : decode cX7_isFreeFor 134 = .ok (.goto (-82), 3) := by decide +kernel
theorem dX7_isFreeFor_137 : decode cX7_isFreeFor 137 = .ok (.iconst 1, 1) := by decide +kernel
theorem dX7_isFreeFor_138 : decode cX7_isFreeFor 138 = .ok (.ireturn, 1) := by decide +kernel
set_option maxRecDepth 20000 in
theorem ggX7_leaveTime_X4_between : GoodIn wsX7_leaveTime wsX4_between := goodIn_r _ [10, 11, 39, 40] (by decide +kernel) (by decide +kernel)
set_option maxRecDepth 20000 in
theorem gX7_leaveTime_X4_between : GoodIn wsX7_leaveTime (wsV RX7 166 RX4 yX4_between wsX4_between) := goodIn_app (goodIn_of _ (by decide +kernel)) ggX7_leaveTime_X4_between
theorem dX7_leaveTime_0 : decode cX7_leaveTime 0 = .ok (.aload_n 0, 1) := by decide +kernel
theorem dX7_leaveTime_1 : decode cX7_leaveTime 1 = .ok (.getfield 29, 3) := by decide +kernel
theorem dX7_leaveTime_4 : decode cX7_leaveTime 4 = .ok (.iload_n 2, 1) := by decide +kernel
theorem dX7_leaveTime_5 : decode cX7_leaveTime 5 = .ok (.aaload, 1) := by decide +kernel
theorem dX7_leaveTime_6 : decode cX7_leaveTime 6 = .ok (.getfield 202, 3) := by decide +kernel
theorem dX7_leaveTime_9 : decode cX7_leaveTime 9 = .ok (.aload_n 0, 1) := by decide +kernel
theorem dX7_leaveTime_10 : decode cX7_leaveTime 10 = .ok (.getfield 29, 3) := by decide +kernel
theorem dX7_leaveTime_13 : decode cX7_leaveTime 13 = .ok (.iload_n 1, 1) := by decide +kernel
theorem dX7_leaveTime_14 : decode cX7_leaveTime 14 = .ok (.aaload, 1) := by decide +kernel
theorem dX7_leaveTime_15 : decode cX7_leaveTime 15 = .ok (.getfield 202, 3) := by decide +kernel
theorem dX7_leaveTime_18 : decode cX7_leaveTime 18 = .ok (.if_icmp .ge 7, 3) := by decide +kernel
theorem dX7_leaveTime_21 : decode cX7_leaveTime 21 = .ok (.iconst 1, 1) := by decide +kernel
theorem dX7_leaveTime_22 : decode cX7_leaveTime 22 = .ok (.goto 4, 3) := by decide +kernel
theorem dX7_leaveTime_25 : decode cX7_leaveTime 25 = .ok (.iconst 0, 1) := by decide +kernel
theorem dX7_leaveTime_26 : decode cX7_leaveTime 26 = .ok (.istore_n 3, 1) := by decide +kernel
theorem dX7_leaveTime_27 : decode cX7_leaveTime 27 = .ok (.aload_n 0, 1) := by decide +kernel
theorem dX7_leaveTime_28 : decode cX7_leaveTime 28 = .ok (.getfield 29, 3) := by decide +kernel
theorem dX7_leaveTime_31 : decode cX7_leaveTime 31 = .ok (.iload_n 3, 1) := by decide +kernel
theorem dX7_leaveTime_32 : decode cX7_leaveTime 32 = .ok (.ifCond .eq 7, 3) := by decide +kernel
theorem dX7_leaveTime_35 : decode cX7_leaveTime 35 = .ok (.iload_n 2, 1) := by decide +kernel
theorem dX7_leaveTime_36 : decode cX7_leaveTime 36 = .ok (.goto 4, 3) := by decide +kernel
theorem dX7_leaveTime_39 : decode cX7_leaveTime 39 = .ok (.iload_n 1, 1) := by decide +kernel
theorem dX7_leaveTime_40 : decode cX7_leaveTime 40 = .ok (.aaload, 1) := by decide +kernel
theorem dX7_leaveTime_41 : decode cX7_leaveTime 41 = .ok (.astore 4, 2) := by decide +kernel
theorem dX7_leaveTime_43 : decode cX7_leaveTime 43 = .ok (.aload_n 0, 1) := by decide +kernel
theorem dX7_leaveTime_44 : decode cX7_leaveTime 44 = .ok (.getfield 29, 3) := by decide +kernel
theorem dX7_leaveTime_47 : decode cX7_leaveTime 47 = .ok (.iload_n 3, 1) := by decide +kernel
theorem dX7_leaveTime_48 : decode cX7_leaveTime 48 = .ok (.ifCond .eq 7, 3) := by decide +kernel
theorem dX7_leaveTime_51 : decode cX7_leaveTime 51 = .ok (.iload_n 1, 1) := by decide +kernel
theorem dX7_leaveTime_52 : decode cX7_leaveTime 52 = .ok (.goto 4, 3) := by decide +kernel
theorem dX7_leaveTime_55 : decode cX7_leaveTime 55 = .ok (.iload_n 2, 1) := by decide +kernel
theorem dX7_leaveTime_56 : decode cX7_leaveTime 56 = .ok (.aaload, 1) := by decide +kernel
theorem dX7_leaveTime_57 : decode cX7_leaveTime 57 = .ok (.astore 5, 2) := by decide +kernel
theorem dX7_leaveTime_59 : decode cX7_leaveTime 59 = .ok (.aload_n 0, 1) := by decide +kernel
theorem dX7_leaveTime_60 : decode cX7_leaveTime 60 = .ok (.getfield 36, 3) := by decide +kernel
theorem dX7_leaveTime_63 : decode cX7_leaveTime 63 = .ok (.aload 4, 2) := by decide +kernel
theorem dX7_leaveTime_65 : decode cX7_leaveTime 65 = .ok (.getfield 199, 3) := by decide +kernel
theorem dX7_leaveTime_68 : decode cX7_leaveTime 68 = .ok (.aload 5, 2) := by decide +kernel
theorem dX7_leaveTime_70 : decode cX7_leaveTime 70 = .ok (.getfield 199, 3) := by decide +kernel
theorem dX7_leaveTime_73 : decode cX7_leaveTime 73 = .ok (.invokevirtual 166, 3) := by decide +kernel
theorem dX7_leaveTime_76 : decode cX7_leaveTime 76 = .ok (.istore 6, 2) := by decide +kernel
theorem dX7_leaveTime_78 : decode cX7_leaveTime 78 = .ok (.iload 6, 2) := by decide +kernel
theorem dX7_leaveTime_80 : decode cX7_leaveTime 80 = .ok (.iconst (-1), 1) := by decide +kernel
theorem dX7_leaveTime_81 : decode cX7_leaveTime 81 = .ok (.if_icmp .eq 29, 3) := by decide +kernel
theorem dX7_leaveTime_84 : decode cX7_leaveTime 84 = .ok (.aload 4, 2) := by decide +kernel
theorem dX7_leaveTime_86 : decode cX7_leaveTime 86 = .ok (.getfield 202, 3) := by decide +kernel
theorem dX7_leaveTime_89 : decode cX7_leaveTime 89 = .ok (.aload 4, 2) := by decide +kernel
theorem dX7_leaveTime_91 : decode cX7_leaveTime 91 = .ok (.getfield 205, 3) := by decide +kernel
theorem dX7_leaveTime_94 : decode cX7_leaveTime 94 = .ok (.iadd, 1) := by decide +kernel
theorem dX7_leaveTime_95 : decode cX7_leaveTime 95 = .ok (.iload 6, 2) := by decide +kernel
theorem dX7_leaveTime_97 : decode cX7_leaveTime 97 = .ok (.iadd, 1) := by decide +kernel
theorem dX7_leaveTime_98 : decode cX7_leaveTime 98 = .ok (.aload 5, 2) := by decide +kernel
theorem dX7_leaveTime_100 : decode cX7_leaveTime 100 = .ok (.getfield 202, 3) := by decide +kernel
theorem dX7_leaveTime_103 : decode cX7_leaveTime 103 = .ok (.if_icmp .gt 7, 3) := by decide +kernel
theorem dX7_leaveTime_106 : decode cX7_leaveTime 106 = .ok (.iconst 1, 1) := by decide +kernel
theorem dX7_leaveTime_107 : decode cX7_leaveTime 107 = .ok (.goto 4, 3) := by decide +kernel
theorem dX7_leaveTime_110 : decode cX7_leaveTime 110 = .ok (.iconst 0, 1) := by decide +kernel
theorem dX7_leaveTime_111 : decode cX7_leaveTime 111 = .ok (.ireturn, 1) := by decide +kernel
set_option maxRecDepth 20000 in
theorem ggX7_surveyNow_X7_stageAsFixed : GoodIn wsX7_surveyNow wsX7_stageAsFixed := goodIn_r _ [5, 6, 7, 8, 9, 10, 111, 112, 113, 114, 115, 116, 117, 118, 119, 120, 121, 122, 123, 124, 125, 126, 127, 128, 129, 130, 131, 132, 133, 134, 135, 136, 137] (by decide +kernel) (by decide +kernel)
set_option maxRecDepth 20000 in
theorem gX7_surveyNow_X7_stageAsFixed : GoodIn wsX7_surveyNow (wsV RX7 342 RX7 yX7_stageAsFixed wsX7_stageAsFixed) := goodIn_app (goodIn_of _ (by decide +kernel)) ggX7_surveyNow_X7_stageAsFixed
set_option maxRecDepth 20000 in
theorem ggX7_surveyNow_X7_freeFor : GoodIn wsX7_surveyNow wsX7_freeFor := goodIn_r _ [14, 15, 16, 17, 18, 4, 19, 8, 20, 21, 22, 23, 24, 25, 6, 7, 26, 27, 28, 29, 30, 31, 32, 33, 34, 35, 36, 37, 38, 39, 40, 41, 42, 43, 44, 45, 46, 47, 111, 112, 113, 114, 115, 116, 117, 118, 119, 120, 121, 122, 123, 124, 125, 126, 127, 128, 129, 130, 131, 132, 133, 134, 135, 136, 137, 138, 139, 140, 141, 142, 143, 144, 145, 146, 147] (by decide +kernel) (by decide +kernel)
set_option maxRecDepth 20000 in
theorem gX7_surveyNow_X7_freeFor : GoodIn wsX7_surveyNow (wsV RX7 507 RX7 yX7_freeFor wsX7_freeFor) := goodIn_app (goodIn_of _ (by decide +kernel)) ggX7_surveyNow_X7_freeFor
set_option maxRecDepth 20000 in
theorem ggX7_surveyNow_X7_survey : GoodIn wsX7_surveyNow wsX7_survey := goodIn_r _ [51, 8, 52, 53, 54, 55, 15, 56, 57, 58, 59, 60, 61, 62, 63, 64, 65, 66, 67, 68, 69, 70, 71, 72, 73, 4, 74, 75, 76, 77, 78, 23, 79, 80, 81, 82, 83, 84, 85, 86, 87, 33, 34, 35, 88, 89, 90, 91, 92, 93, 94, 95, 96, 97, 98, 99, 100, 101, 102, 103, 104, 105, 22, 24, 25, 106, 47, 30, 31, 28, 32, 36, 37, 38, 39, 40, 41, 107, 108, 109, 110, 111, 112, 113, 114, 115, 116, 117, 118, 119, 120, 121, 122, 123, 124, 125, 126, 127, 128, 129, 130, 131, 132, 133, 134, 135, 136, 137, 148, 149, 150, 151, 152, 153, 154, 155, 156, 138, 139, 140, 141, 142, 143, 144, 145, 146, 147] (by decide +kernel) (by decide +kernel)
set_option maxRecDepth 20000 in
theorem gX7_surveyNow_X7_survey : GoodIn wsX7_surveyNow (wsV RX7 510 RX7 yX7_survey wsX7_survey) := goodIn_app (goodIn_of _ (by decide +kernel)) ggX7_surveyNow_X7_survey
theorem dX7_surveyNow_0 : decode cX7_surveyNow 0 = .ok (.aload_n 0, 1) := by decide +kernel
theorem dX7_surveyNow_1 : decode cX7_surveyNow 1 = .ok (.invokevirtual 342, 3) := by decide +kernel
theorem dX7_surveyNow_4 : decode cX7_surveyNow 4 = .ok (.aload_n 0, 1) := by decide +kernel
theorem dX7_surveyNow_5 : decode cX7_surveyNow 5 = .ok (.iload_n 1, 1) := by decide +kernel
theorem dX7_surveyNow_6 : decode cX7_surveyNow 6 = .ok (.aload_n 0, 1) := by decide +kernel
theorem dX7_surveyNow_7 : decode cX7_surveyNow 7 = .ok (.iload_n 1, 1) := by decide +kernel
theorem dX7_surveyNow_8 : decode cX7_surveyNow 8 = .ok (.invokevirtual 507, 3) := by decide +kernel
theorem dX7_surveyNow_11 : decode cX7_surveyNow 11 = .ok (.iconst 0, 1) := by decide +kernel
theorem dX7_surveyNow_12 : decode cX7_surveyNow 12 = .ok (.invokevirtual 510, 3) := by decide +kernel
theorem dX7_surveyNow_15 : decode cX7_surveyNow 15 = .ok (.return_, 1) := by decide +kernel
set_option maxRecDepth 20000 in
theorem ggX7_survey_X2_clear : GoodIn wsX7_survey wsX2_clear := goodIn_r _ [15, 16, 17, 18, 19, 20, 21, 111, 112, 113, 114, 115, 116] (by decide +kernel) (by decide +kernel)
set_option maxRecDepth 20000 in
theorem gX7_survey_X2_clear : GoodIn wsX7_survey (wsV RX7 519 RX2 yX2_clear wsX2_clear) := goodIn_app (goodIn_of _ (by decide +kernel)) ggX7_survey_X2_clear
set_option maxRecDepth 20000 in
theorem ggX7_survey_X7_seatAll : GoodIn wsX7_survey wsX7_seatAll := goodIn_r _ [26, 7, 6, 27, 28, 29, 25, 30, 4, 31, 32, 33, 34, 35, 36, 37, 38, 39, 40, 41, 42, 43, 81, 82, 83, 84, 85, 86, 87, 88, 89, 90, 91, 92, 93, 94, 95, 108, 109, 110, 117, 118, 119, 120, 121, 122, 123, 124] (by decide +kernel) (by decide +kernel)
set_option maxRecDepth 20000 in
theorem gX7_survey_X7_seatAll : GoodIn wsX7_survey (wsV RX7 522 RX7 yX7_seatAll wsX7_seatAll) := goodIn_app (goodIn_of _ (by decide +kernel)) ggX7_survey_X7_seatAll
set_option maxRecDepth 20000 in
theorem ggX7_survey_J6_bitCount_0f7a4 : GoodIn wsX7_survey wsJ6_bitCount_0f7a4 := goodIn_r _ [37, 38, 39, 40] (by decide +kernel) (by decide +kernel)
set_option maxRecDepth 20000 in
theorem gX7_survey_J6_bitCount_0f7a4 : GoodIn wsX7_survey (va_wsS RX7 128 yJ6_bitCount_0f7a4 wsJ6_bitCount_0f7a4) := goodIn_app (goodIn_of _ (by decide +kernel)) ggX7_survey_J6_bitCount_0f7a4
set_option maxRecDepth 20000 in
theorem ggX7_survey_X7_playableFor : GoodIn wsX7_survey wsX7_playableFor := goodIn_r _ [47, 6, 31, 48, 41, 42, 25, 43, 34, 35, 36, 37, 38, 39, 40, 81, 82, 83, 84, 85, 86, 87, 88, 89, 90, 91, 92, 93, 94, 95, 117, 118, 119, 120, 121, 122, 123, 124] (by decide +kernel) (by decide +kernel)
set_option maxRecDepth 20000 in
theorem gX7_survey_X7_playableFor : GoodIn wsX7_survey (wsV RX7 355 RX7 yX7_playableFor wsX7_playableFor) := goodIn_app (goodIn_of _ (by decide +kernel)) ggX7_survey_X7_playableFor
set_option maxRecDepth 20000 in
theorem ggX7_survey_X7_hasFeud : GoodIn wsX7_survey wsX7_hasFeud := goodIn_r _ [52, 6, 31, 53, 41, 42, 25, 43, 81, 82, 83, 84, 85, 86, 87, 88, 89, 90, 91, 92, 93, 94, 95, 117, 118, 119, 120, 121, 122, 123, 124] (by decide +kernel) (by decide +kernel)
set_option maxRecDepth 20000 in
theorem gX7_survey_X7_hasFeud : GoodIn wsX7_survey (wsV RX7 526 RX7 yX7_hasFeud wsX7_hasFeud) := goodIn_app (goodIn_of _ (by decide +kernel)) ggX7_survey_X7_hasFeud
set_option maxRecDepth 20000 in
theorem ggX7_survey_X7_costOfAll : GoodIn wsX7_survey wsX7_costOfAll := goodIn_r _ [57, 6, 31, 41, 42, 25, 43, 58, 59, 60, 61, 62, 63, 64, 65, 66, 67, 68, 69, 70, 71, 72, 73, 74, 75, 76, 81, 82, 83, 84, 85, 86, 87, 88, 89, 90, 91, 92, 93, 94, 95, 117, 118, 119, 120, 121, 122, 123, 124, 96, 97, 98, 99, 100, 101, 102, 103, 104, 105, 106, 107, 125, 126] (by decide +kernel) (by decide +kernel)
set_option maxRecDepth 20000 in
theorem gX7_survey_X7_costOfAll : GoodIn wsX7_survey (wsV RX7 529 RX7 yX7_costOfAll wsX7_costOfAll) := goodIn_app (goodIn_of _ (by decide +kernel)) ggX7_survey_X7_costOfAll
set_option maxRecDepth 20000 in
theorem ggX7_survey_X2_add : GoodIn wsX7_survey wsX2_add := goodIn_r _ [80, 19, 18, 17, 16, 20, 111, 112, 113, 114, 115, 116] (by decide +kernel) (by decide +kernel)
set_option maxRecDepth 20000 in
theorem gX7_survey_X2_add : GoodIn wsX7_survey (wsV RX7 533 RX2 yX2_add wsX2_add) := goodIn_app (goodIn_of _ (by decide +kernel)) ggX7_survey_X2_add
theorem dX7_survey_0 : decode cX7_survey 0 = .ok (.aload_n 0, 1) := by decide +kernel
theorem dX7_survey_1 : decode cX7_survey 1 = .ok (.getfield 29, 3) := by decide +kernel
theorem dX7_survey_4 : decode cX7_survey 4 = .ok (.iload_n 1, 1) := by decide +kernel
theorem dX7_survey_5 : decode cX7_survey 5 = .ok (.aaload, 1) := by decide +kernel
theorem dX7_survey_6 : decode cX7_survey 6 = .ok (.astore 4, 2) := by decide +kernel
theorem dX7_survey_8 : decode cX7_survey 8 = .ok (.aload_n 0, 1) := by decide +kernel
theorem dX7_survey_9 : decode cX7_survey 9 = .ok (.getfield 23, 3) := by decide +kernel
theorem dX7_survey_12 : decode cX7_survey 12 = .ok (.aload 4, 2) := by decide +kernel
theorem dX7_survey_14 : decode cX7_survey 14 = .ok (.getfield 193, 3) := by decide +kernel
theorem dX7_survey_17 : decode cX7_survey 17 = .ok (.aaload, 1) := by decide +kernel
theorem dX7_survey_18 : decode cX7_survey 18 = .ok (.getfield 330, 3) := by decide +kernel
theorem dX7_survey_21 : decode cX7_survey 21 = .ok (.istore 5, 2) := by decide +kernel
theorem dX7_survey_23 : decode cX7_survey 23 = .ok (.iconst 0, 1) := by decide +kernel
theorem dX7_survey_24 : decode cX7_survey 24 = .ok (.istore 6, 2) := by decide +kernel
theorem dX7_survey_26 : decode cX7_survey 26 = .ok (.iconst 0, 1) := by decide +kernel
theorem dX7_survey_27 : decode cX7_survey 27 = .ok (.istore 7, 2) := by decide +kernel
theorem dX7_survey_29 : decode cX7_survey 29 = .ok (.aload_n 0, 1) := by decide +kernel
theorem dX7_survey_30 : decode cX7_survey 30 = .ok (.getfield 70, 3) := by decide +kernel
theorem dX7_survey_33 : decode cX7_survey 33 = .ok (.invokevirtual 519, 3) := by decide +kernel
theorem dX7_survey_36 : decode cX7_survey 36 = .ok (.aload_n 0, 1) := by decide +kernel
theorem dX7_survey_37 : decode cX7_survey 37 = .ok (.aload_n 0, 1) := by decide +kernel
theorem dX7_survey_38 : decode cX7_survey 38 = .ok (.getfield 23, 3) := by decide +kernel
theorem dX7_survey_41 : decode cX7_survey 41 = .ok (.aload 4, 2) := by decide +kernel
theorem dX7_survey_43 : decode cX7_survey 43 = .ok (.getfield 193, 3) := by decide +kernel
theorem dX7_survey_46 : decode cX7_survey 46 = .ok (.aaload, 1) := by decide +kernel
theorem dX7_survey_47 : decode cX7_survey 47 = .ok (.invokevirtual 522, 3) := by decide +kernel
theorem dX7_survey_50 : decode cX7_survey 50 = .ok (.iconst 1, 1) := by decide +kernel
theorem dX7_survey_51 : decode cX7_survey 51 = .ok (.istore 8, 2) := by decide +kernel
theorem dX7_survey_53 : decode cX7_survey 53 = .ok (.iload 8, 2) := by decide +kernel
theorem dX7_survey_55 : decode cX7_survey 55 = .ok (.iconst 1, 1) := by decide +kernel
theorem dX7_survey_56 : decode cX7_survey 56 = .ok (.aload_n 0, 1) := by decide +kernel
theorem dX7_survey_57 : decode cX7_survey 57 = .ok (.getfield 44, 3) := by decide +kernel
theorem dX7_survey_60 : decode cX7_survey 60 = .ok (.ishl, 1) := by decide +kernel
theorem dX7_survey_61 : decode cX7_survey 61 = .ok (.if_icmp .ge 94, 3) := by decide +kernel
theorem dX7_survey_64 : decode cX7_survey 64 = .ok (.iload 8, 2) := by decide +kernel
theorem dX7_survey_66 : decode cX7_survey 66 = .ok (.iload_n 2, 1) := by decide +kernel
theorem dX7_survey_67 : decode cX7_survey 67 = .ok (.iconst (-1), 1) := by decide +kernel
theorem dX7_survey_68 : decode cX7_survey 68 = .ok (.ixor, 1) := by decide +kernel
theorem dX7_survey_69 : decode cX7_survey 69 = .ok (.iand, 1) := by decide +kernel
theorem dX7_survey_70 : decode cX7_survey 70 = .ok (.ifCond .ne 79, 3) := by decide +kernel
theorem dX7_survey_73 : decode cX7_survey 73 = .ok (.aload_n 0, 1) := by decide +kernel
theorem dX7_survey_74 : decode cX7_survey 74 = .ok (.getfield 63, 3) := by decide +kernel
theorem dX7_survey_77 : decode cX7_survey 77 = .ok (.iload 8, 2) := by decide +kernel
theorem dX7_survey_79 : decode cX7_survey 79 = .ok (.baload, 1) := by decide +kernel
theorem dX7_survey_80 : decode cX7_survey 80 = .ok (.ifCond .eq 69, 3) := by decide +kernel
theorem dX7_survey_83 : decode cX7_survey 83 = .ok (.iload 8, 2) := by decide +kernel
theorem dX7_survey_85 : decode cX7_survey 85 = .ok (.invokestatic 128, 3) := by decide +kernel
theorem dX7_survey_88 : decode cX7_survey 88 = .ok (.iload 5, 2) := by decide +kernel
theorem dX7_survey_90 : decode cX7_survey 90 = .ok (.if_icmp .ne 59, 3) := by decide +kernel
theorem dX7_survey_93 : decode cX7_survey 93 = .ok (.iconst 1, 1) := by decide +kernel
theorem dX7_survey_94 : decode cX7_survey 94 = .ok (.istore 6, 2) := by decide +kernel
theorem dX7_survey_96 : decode cX7_survey 96 = .ok (.aload 4, 2) := by decide +kernel
theorem dX7_survey_98 : decode cX7_survey 98 = .ok (.getfield 208, 3) := by decide +kernel
theorem dX7_survey_101 : decode cX7_survey 101 = .ok (.aload_n 0, 1) := by decide +kernel
theorem dX7_survey_102 : decode cX7_survey 102 = .ok (.iload 8, 2) := by decide +kernel
theorem dX7_survey_104 : decode cX7_survey 104 = .ok (.invokevirtual 355, 3) := by decide +kernel
theorem dX7_survey_107 : decode cX7_survey 107 = .ok (.iconst (-1), 1) := by decide +kernel
theorem dX7_survey_108 : decode cX7_survey 108 = .ok (.ixor, 1) := by decide +kernel
theorem dX7_survey_109 : decode cX7_survey 109 = .ok (.iand, 1) := by decide +kernel
theorem dX7_survey_110 : decode cX7_survey 110 = .ok (.ifCond .ne 39, 3) := by decide +kernel
theorem dX7_survey_113 : decode cX7_survey 113 = .ok (.iconst 1, 1) := by decide +kernel
theorem dX7_survey_114 : decode cX7_survey 114 = .ok (.istore 7, 2) := by decide +kernel
theorem dX7_survey_116 : decode cX7_survey 116 = .ok (.aload_n 0, 1) := by decide +kernel
theorem dX7_survey_117 : decode cX7_survey 117 = .ok (.iload 8, 2) := by decide +kernel
theorem dX7_survey_119 : decode cX7_survey 119 = .ok (.invokevirtual 526, 3) := by decide +kernel
theorem dX7_survey_122 : decode cX7_survey 122 = .ok (.ifCond .ne 27, 3) := by decide +kernel
theorem dX7_survey_125 : decode cX7_survey 125 = .ok (.aload_n 0, 1) := by decide +kernel
theorem dX7_survey_126 : decode cX7_survey 126 = .ok (.getfield 70, 3) := by decide +kernel
theorem dX7_survey_129 : decode cX7_survey 129 = .ok (.iload 8, 2) := by decide +kernel
theorem dX7_survey_131 : decode cX7_survey 131 = .ok (.aload_n 0, 1) := by decide +kernel
theorem dX7_survey_132 : decode cX7_survey 132 = .ok (.iload 8, 2) := by decide +kernel
theorem dX7_survey_134 : decode cX7_survey 134 = .ok (.aload 4, 2) := by decide +kernel
theorem dX7_survey_136 : decode cX7_survey 136 = .ok (.invokevirtual 529, 3) := by decide +kernel
theorem dX7_survey_139 : decode cX7_survey 139 = .ok (.iload 8, 2) := by decide +kernel
theorem dX7_survey_141 : decode cX7_survey 141 = .ok (.iload_n 3, 1) := by decide +kernel
theorem dX7_survey_142 : decode cX7_survey 142 = .ok (.iand, 1) := by decide +kernel
theorem dX7_survey_143 : decode cX7_survey 143 = .ok (.invokestatic 128, 3) := by decide +kernel
theorem dX7_survey_146 : decode cX7_survey 146 = .ok (.invokevirtual 533, 3) := by decide +kernel
theorem dX7_survey_149 : decode cX7_survey 149 = .ok (.iinc 8 1, 3) := by decide +kernel
theorem dX7_survey_152 : decode cX7_survey 152 = .ok (.goto (-99), 3) := by decide +kernel
theorem dX7_survey_155 : decode cX7_survey 155 = .ok (.aload_n 0, 1) := by decide +kernel
theorem dX7_survey_156 : decode cX7_survey 156 = .ok (.getfield 70, 3) := by decide +kernel
theorem dX7_survey_159 : decode cX7_survey 159 = .ok (.getfield 225, 3) := by decide +kernel
theorem dX7_survey_162 : decode cX7_survey 162 = .ok (.ifCond .le 14, 3) := by decide +kernel
theorem dX7_survey_165 : decode cX7_survey 165 = .ok (.aload_n 0, 1) := by decide +kernel
theorem dX7_survey_166 : decode cX7_survey 166 = .ok (.getfield 70, 3) := by decide +kernel
theorem dX7_survey_169 : decode cX7_survey 169 = .ok (.iconst 0, 1) := by decide +kernel
theorem dX7_survey_170 : decode cX7_survey 170 = .ok (.putfield 350, 3) := by decide +kernel
theorem dX7_survey_173 : decode cX7_survey 173 = .ok (.goto 56, 3) := by decide +kernel
theorem dX7_survey_176 : decode cX7_survey 176 = .ok (.iload_n 2, 1) := by decide +kernel
theorem dX7_survey_177 : decode cX7_survey 177 = .ok (.invokestatic 128, 3) := by decide +kernel
theorem dX7_survey_180 : decode cX7_survey 180 = .ok (.iload 5, 2) := by decide +kernel
theorem dX7_survey_182 : decode cX7_survey 182 = .ok (.if_icmp .ge 14, 3) := by decide +kernel
theorem dX7_survey_185 : decode cX7_survey 185 = .ok (.aload_n 0, 1) := by decide +kernel
theorem dX7_survey_186 : decode cX7_survey 186 = .ok (.getfield 70, 3) := by decide +kernel
theorem dX7_survey_189 : decode cX7_survey 189 = .ok (.iconst 1, 1) := by decide +kernel
theorem dX7_survey_190 : decode cX7_survey 190 = .ok (.putfield 350, 3) := by decide +kernel
theorem dX7_survey_193 : decode cX7_survey 193 = .ok (.goto 36, 3) := by decide +kernel
theorem dX7_survey_196 : decode cX7_survey 196 = .ok (.iload 6, 2) := by decide +kernel
theorem dX7_survey_198 : decode cX7_survey 198 = .ok (.ifCond .ne 14, 3) := by decide +kernel
theorem dX7_survey_201 : decode cX7_survey 201 = .ok (.aload_n 0, 1) := by decide +kernel
theorem dX7_survey_202 : decode cX7_survey 202 = .ok (.getfield 70, 3) := by decide +kernel
theorem dX7_survey_205 : decode cX7_survey 205 = .ok (.iconst 2, 1) := by decide +kernel
theorem dX7_survey_206 : decode cX7_survey 206 = .ok (.putfield 350, 3) := by decide +kernel
theorem dX7_survey_209 : decode cX7_survey 209 = .ok (.goto 20, 3) := by decide +kernel
theorem dX7_survey_212 : decode cX7_survey 212 = .ok (.aload_n 0, 1) := by decide +kernel
theorem dX7_survey_213 : decode cX7_survey 213 = .ok (.getfield 70, 3) := by decide +kernel
theorem dX7_survey_216 : decode cX7_survey 216 = .ok (.iload 7, 2) := by decide +kernel
theorem dX7_survey_218 : decode cX7_survey 218 = .ok (.ifCond .eq 7, 3) := by decide +kernel
theorem dX7_survey_221 : decode cX7_survey 221 = .ok (.iconst 3, 1) := by decide +kernel
theorem dX7_survey_222 : decode cX7_survey 222 = .ok (.goto 4, 3) := by decide +kernel
theorem dX7_survey_225 : decode cX7_survey 225 = .ok (.iconst 4, 1) := by decide +kernel
theorem dX7_survey_226 : decode cX7_survey 226 = .ok (.putfield 350, 3) := by decide +kernel
theorem dX7_survey_229 : decode cX7_survey 229 = .ok (.return_, 1) := by decide +kernel
set_option maxRecDepth 20000 in
theorem ggX7_seatAll_X7_canBeSeated : GoodIn wsX7_seatAll wsX7_canBeSeated := goodIn_r _ [7, 8, 2, 9, 10, 11, 1, 12, 13, 14, 15, 16, 17, 18, 19, 20, 6, 21, 37, 38, 39, 22, 23, 24, 25, 26, 27, 28, 29, 30, 31, 32, 33, 34, 35, 36, 40, 41, 42, 43, 44, 45, 46, 47] (by decide +kernel) (by decide +kernel)
set_option maxRecDepth 20000 in
theorem gX7_seatAll_X7_canBeSeated : GoodIn wsX7_seatAll (wsV RX7 536 RX7 yX7_canBeSeated wsX7_canBeSeated) := goodIn_app (goodIn_of _ (by decide +kernel)) ggX7_seatAll_X7_canBeSeated
theorem dX7_seatAll_0 : decode cX7_seatAll 0 = .ok (.aload_n 0, 1) := by decide +kernel
theorem dX7_seatAll_1 : decode cX7_seatAll 1 = .ok (.getfield 63, 3) := by decide +kernel
theorem dX7_seatAll_4 : decode cX7_seatAll 4 = .ok (.iconst 0, 1) := by decide +kernel
theorem dX7_seatAll_5 : decode cX7_seatAll 5 = .ok (.iconst 1, 1) := by decide +kernel
theorem dX7_seatAll_6 : decode cX7_seatAll 6 = .ok (.bastore, 1) := by decide +kernel
theorem dX7_seatAll_7 : decode cX7_seatAll 7 = .ok (.iconst 1, 1) := by decide +kernel
theorem dX7_seatAll_8 : decode cX7_seatAll 8 = .ok (.istore_n 2, 1) := by decide +kernel
theorem dX7_seatAll_9 : decode cX7_seatAll 9 = .ok (.iload_n 2, 1) := by decide +kernel
theorem dX7_seatAll_10 : decode cX7_seatAll 10 = .ok (.iconst 1, 1) := by decide +kernel
theorem dX7_seatAll_11 : decode cX7_seatAll 11 = .ok (.aload_n 0, 1) := by decide +kernel
theorem dX7_seatAll_12 : decode cX7_seatAll 12 = .ok (.getfield 44, 3) := by decide +kernel
theorem dX7_seatAll_15 : decode cX7_seatAll 15 = .ok (.ishl, 1) := by decide +kernel
theorem dX7_seatAll_16 : decode cX7_seatAll 16 = .ok (.if_icmp .ge 21, 3) := by decide +kernel
theorem dX7_seatAll_19 : decode cX7_seatAll 19 = .ok (.aload_n 0, 1) := by decide +kernel
theorem dX7_seatAll_20 : decode cX7_seatAll 20 = .ok (.getfield 63, 3) := by decide +kernel
theorem dX7_seatAll_23 : decode cX7_seatAll 23 = .ok (.iload_n 2, 1) := by decide +kernel
theorem dX7_seatAll_24 : decode cX7_seatAll 24 = .ok (.aload_n 0, 1) := by decide +kernel
theorem dX7_seatAll_25 : decode cX7_seatAll 25 = .ok (.iload_n 2, 1) := by decide +kernel
theorem dX7_seatAll_26 : decode cX7_seatAll 26 = .ok (.aload_n 1, 1) := by decide +kernel
theorem dX7_seatAll_27 : decode cX7_seatAll 27 = .ok (.invokevirtual 536, 3) := by decide +kernel
theorem dX7_seatAll_30 : decode cX7_seatAll 30 = .ok (.bastore, 1) := by decide +kernel
theorem dX7_seatAll_31 : decode cX7_seatAll 31 = .ok (.iinc 2 1, 3) := by decide +kernel
theorem dX7_seatAll_34 : decode cX7_seatAll 34 = .ok (.goto (-25), 3) := by decide +kernel
theorem dX7_seatAll_37 : decode cX7_seatAll 37 = .ok (.return_, 1) := by decide +kernel
set_option maxRecDepth 20000 in
theorem ggX7_canBeSeated_J6_bitCount_0f7a4 : GoodIn wsX7_canBeSeated wsJ6_bitCount_0f7a4 := goodIn_r _ [10, 11, 12, 13] (by decide +kernel) (by decide +kernel)
set_option maxRecDepth 20000 in
theorem gX7_canBeSeated_J6_bitCount_0f7a4 : GoodIn wsX7_canBeSeated (va_wsS RX7 128 yJ6_bitCount_0f7a4 wsJ6_bitCount_0f7a4) := goodIn_app (goodIn_of _ (by decide +kernel)) ggX7_canBeSeated_J6_bitCount_0f7a4
set_option maxRecDepth 20000 in
theorem ggX7_canBeSeated_X7_has : GoodIn wsX7_canBeSeated wsX7_has := goodIn_r _ [17] (by decide +kernel) (by decide +kernel)
set_option maxRecDepth 20000 in
theorem gX7_canBeSeated_X7_has : GoodIn wsX7_canBeSeated (va_wsS RX7 153 yX7_has wsX7_has) := goodIn_app (goodIn_of _ (by decide +kernel)) ggX7_canBeSeated_X7_has
theorem dX7_canBeSeated_0 : decode cX7_canBeSeated 0 = .ok (.iload_n 1, 1) := by decide +kernel
theorem dX7_canBeSeated_1 : decode cX7_canBeSeated 1 = .ok (.invokestatic 128, 3) := by decide +kernel
theorem dX7_canBeSeated_4 : decode cX7_canBeSeated 4 = .ok (.iconst 1, 1) := by decide +kernel
theorem dX7_canBeSeated_5 : decode cX7_canBeSeated 5 = .ok (.isub, 1) := by decide +kernel
theorem dX7_canBeSeated_6 : decode cX7_canBeSeated 6 = .ok (.istore_n 3, 1) := by decide +kernel
theorem dX7_canBeSeated_7 : decode cX7_canBeSeated 7 = .ok (.iload_n 3, 1) := by decide +kernel
theorem dX7_canBeSeated_8 : decode cX7_canBeSeated 8 = .ok (.ifCond .lt 11, 3) := by decide +kernel
theorem dX7_canBeSeated_11 : decode cX7_canBeSeated 11 = .ok (.iload_n 3, 1) := by decide +kernel
theorem dX7_canBeSeated_12 : decode cX7_canBeSeated 12 = .ok (.aload_n 2, 1) := by decide +kernel
theorem dX7_canBeSeated_13 : decode cX7_canBeSeated 13 = .ok (.getfield 330, 3) := by decide +kernel
theorem dX7_canBeSeated_16 : decode cX7_canBeSeated 16 = .ok (.if_icmp .lt 5, 3) := by decide +kernel
theorem dX7_canBeSeated_19 : decode cX7_canBeSeated 19 = .ok (.iconst 0, 1) := by decide +kernel
theorem dX7_canBeSeated_20 : decode cX7_canBeSeated 20 = .ok (.ireturn, 1) := by decide +kernel
theorem dX7_canBeSeated_21 : decode cX7_canBeSeated 21 = .ok (.iconst 0, 1) := by decide +kernel
theorem dX7_canBeSeated_22 : decode cX7_canBeSeated 22 = .ok (.istore 4, 2) := by decide +kernel
theorem dX7_canBeSeated_24 : decode cX7_canBeSeated 24 = .ok (.iload 4, 2) := by decide +kernel
theorem dX7_canBeSeated_26 : decode cX7_canBeSeated 26 = .ok (.aload_n 0, 1) := by decide +kernel
theorem dX7_canBeSeated_27 : decode cX7_canBeSeated 27 = .ok (.getfield 44, 3) := by decide +kernel
theorem dX7_canBeSeated_30 : decode cX7_canBeSeated 30 = .ok (.if_icmp .ge 58, 3) := by decide +kernel
theorem dX7_canBeSeated_33 : decode cX7_canBeSeated 33 = .ok (.iload_n 1, 1) := by decide +kernel
theorem dX7_canBeSeated_34 : decode cX7_canBeSeated 34 = .ok (.iload 4, 2) := by decide +kernel
theorem dX7_canBeSeated_36 : decode cX7_canBeSeated 36 = .ok (.invokestatic 153, 3) := by decide +kernel
theorem dX7_canBeSeated_39 : decode cX7_canBeSeated 39 = .ok (.ifCond .eq 43, 3) := by decide +kernel
theorem dX7_canBeSeated_42 : decode cX7_canBeSeated 42 = .ok (.aload_n 0, 1) := by decide +kernel
theorem dX7_canBeSeated_43 : decode cX7_canBeSeated 43 = .ok (.getfield 11, 3) := by decide +kernel
theorem dX7_canBeSeated_46 : decode cX7_canBeSeated 46 = .ok (.iload 4, 2) := by decide +kernel
theorem dX7_canBeSeated_48 : decode cX7_canBeSeated 48 = .ok (.aaload, 1) := by decide +kernel
theorem dX7_canBeSeated_49 : decode cX7_canBeSeated 49 = .ok (.getfield 111, 3) := by decide +kernel
theorem dX7_canBeSeated_52 : decode cX7_canBeSeated 52 = .ok (.aload_n 2, 1) := by decide +kernel
theorem dX7_canBeSeated_53 : decode cX7_canBeSeated 53 = .ok (.getfield 540, 3) := by decide +kernel
theorem dX7_canBeSeated_56 : decode cX7_canBeSeated 56 = .ok (.iload_n 3, 1) := by decide +kernel
theorem dX7_canBeSeated_57 : decode cX7_canBeSeated 57 = .ok (.iaload, 1) := by decide +kernel
theorem dX7_canBeSeated_58 : decode cX7_canBeSeated 58 = .ok (.invokestatic 153, 3) := by decide +kernel
theorem dX7_canBeSeated_61 : decode cX7_canBeSeated 61 = .ok (.ifCond .eq 21, 3) := by decide +kernel
theorem dX7_canBeSeated_64 : decode cX7_canBeSeated 64 = .ok (.aload_n 0, 1) := by decide +kernel
theorem dX7_canBeSeated_65 : decode cX7_canBeSeated 65 = .ok (.getfield 63, 3) := by decide +kernel
theorem dX7_canBeSeated_68 : decode cX7_canBeSeated 68 = .ok (.iload_n 1, 1) := by decide +kernel
theorem dX7_canBeSeated_69 : decode cX7_canBeSeated 69 = .ok (.iconst 1, 1) := by decide +kernel
theorem dX7_canBeSeated_70 : decode cX7_canBeSeated 70 = .ok (.iload 4, 2) := by decide +kernel
theorem dX7_canBeSeated_72 : decode cX7_canBeSeated 72 = .ok (.ishl, 1) := by decide +kernel
theorem dX7_canBeSeated_73 : decode cX7_canBeSeated 73 = .ok (.iconst (-1), 1) := by decide +kernel
theorem dX7_canBeSeated_74 : decode cX7_canBeSeated 74 = .ok (.ixor, 1) := by decide +kernel
theorem dX7_canBeSeated_75 : decode cX7_canBeSeated 75 = .ok (.iand, 1) := by decide +kernel
theorem dX7_canBeSeated_76 : decode cX7_canBeSeated 76 = .ok (.baload, 1) := by decide +kernel
theorem dX7_canBeSeated_77 : decode cX7_canBeSeated 77 = .ok (.ifCond .eq 5, 3) := by decide +kernel
theorem dX7_canBeSeated_80 : decode cX7_canBeSeated 80 = .ok (.iconst 1, 1) := by decide +kernel
theorem dX7_canBeSeated_81 : decode cX7_canBeSeated 81 = .ok (.ireturn, 1) := by decide +kernel
theorem dX7_canBeSeated_82 : decode cX7_canBeSeated 82 = .ok (.iinc 4 1, 3) := by decide +kernel
theorem dX7_canBeSeated_85 : decode cX7_canBeSeated 85 = .ok (.goto (-61), 3) := by decide +kernel
theorem dX7_canBeSeated_88 : decode cX7_canBeSeated 88 = .ok (.iconst 0, 1) := by decide +kernel
theorem dX7_canBeSeated_89 : decode cX7_canBeSeated 89 = .ok (.ireturn, 1) := by decide +kernel
set_option maxRecDepth 20000 in
theorem ggX7_hasFeud_X7_has : GoodIn wsX7_hasFeud wsX7_has := goodIn_r _ [7] (by decide +kernel) (by decide +kernel)
set_option maxRecDepth 20000 in
theorem gX7_hasFeud_X7_has : GoodIn wsX7_hasFeud (va_wsS RX7 153 yX7_has wsX7_has) := goodIn_app (goodIn_of _ (by decide +kernel)) ggX7_hasFeud_X7_has
theorem dX7_hasFeud_0 : decode cX7_hasFeud 0 = .ok (.iconst 0, 1) := by decide +kernel
theorem dX7_hasFeud_1 : decode cX7_hasFeud 1 = .ok (.istore_n 2, 1) := by decide +kernel
theorem dX7_hasFeud_2 : decode cX7_hasFeud 2 = .ok (.iload_n 2, 1) := by decide +kernel
theorem dX7_hasFeud_3 : decode cX7_hasFeud 3 = .ok (.aload_n 0, 1) := by decide +kernel
theorem dX7_hasFeud_4 : decode cX7_hasFeud 4 = .ok (.getfield 44, 3) := by decide +kernel
theorem dX7_hasFeud_7 : decode cX7_hasFeud 7 = .ok (.if_icmp .ge 33, 3) := by decide +kernel
theorem dX7_hasFeud_10 : decode cX7_hasFeud 10 = .ok (.iload_n 1, 1) := by decide +kernel
theorem dX7_hasFeud_11 : decode cX7_hasFeud 11 = .ok (.iload_n 2, 1) := by decide +kernel
theorem dX7_hasFeud_12 : decode cX7_hasFeud 12 = .ok (.invokestatic 153, 3) := by decide +kernel
theorem dX7_hasFeud_15 : decode cX7_hasFeud 15 = .ok (.ifCond .eq 19, 3) := by decide +kernel
theorem dX7_hasFeud_18 : decode cX7_hasFeud 18 = .ok (.aload_n 0, 1) := by decide +kernel
theorem dX7_hasFeud_19 : decode cX7_hasFeud 19 = .ok (.getfield 11, 3) := by decide +kernel
theorem dX7_hasFeud_22 : decode cX7_hasFeud 22 = .ok (.iload_n 2, 1) := by decide +kernel
theorem dX7_hasFeud_23 : decode cX7_hasFeud 23 = .ok (.aaload, 1) := by decide +kernel
theorem dX7_hasFeud_24 : decode cX7_hasFeud 24 = .ok (.getfield 150, 3) := by decide +kernel
theorem dX7_hasFeud_27 : decode cX7_hasFeud 27 = .ok (.iload_n 1, 1) := by decide +kernel
theorem dX7_hasFeud_28 : decode cX7_hasFeud 28 = .ok (.iand, 1) := by decide +kernel
theorem dX7_hasFeud_29 : decode cX7_hasFeud 29 = .ok (.ifCond .eq 5, 3) := by decide +kernel
theorem dX7_hasFeud_32 : decode cX7_hasFeud 32 = .ok (.iconst 1, 1) := by decide +kernel
theorem dX7_hasFeud_33 : decode cX7_hasFeud 33 = .ok (.ireturn, 1) := by decide +kernel
theorem dX7_hasFeud_34 : decode cX7_hasFeud 34 = .ok (.iinc 2 1, 3) := by decide +kernel
theorem dX7_hasFeud_37 : decode cX7_hasFeud 37 = .ok (.goto (-35), 3) := by decide +kernel
theorem dX7_hasFeud_40 : decode cX7_hasFeud 40 = .ok (.iconst 0, 1) := by decide +kernel
theorem dX7_hasFeud_41 : decode cX7_hasFeud 41 = .ok (.ireturn, 1) := by decide +kernel
set_option maxRecDepth 20000 in
theorem ggX7_costOfAll_X7_has : GoodIn wsX7_costOfAll wsX7_has := goodIn_r _ [6] (by decide +kernel) (by decide +kernel)
set_option maxRecDepth 20000 in
theorem gX7_costOfAll_X7_has : GoodIn wsX7_costOfAll (va_wsS RX7 153 yX7_has wsX7_has) := goodIn_app (goodIn_of _ (by decide +kernel)) ggX7_costOfAll_X7_has
set_option maxRecDepth 20000 in
theorem ggX7_costOfAll_X7_costAt : GoodIn wsX7_costOfAll wsX7_costAt := goodIn_r _ [10, 11, 12, 13, 14, 15, 16, 17, 18, 19, 20, 21, 22, 23, 24, 25, 26, 27, 28, 29, 30, 31, 32, 33, 34, 35, 36, 37, 38, 39, 40, 41, 42, 43, 44, 45, 46, 47, 48, 49, 50, 51, 52, 53, 54, 55, 56, 57, 58, 59, 60, 61, 62] (by decide +kernel) (by decide +kernel)
set_option maxRecDepth 20000 in
theorem gX7_costOfAll_X7_costAt : GoodIn wsX7_costOfAll (wsV RX7 504 RX7 yX7_costAt wsX7_costAt) := goodIn_app (goodIn_of _ (by decide +kernel)) ggX7_costOfAll_X7_costAt
theorem dX7_costOfAll_0 : decode cX7_costOfAll 0 = .ok (.iconst 0, 1) := by decide +kernel
theorem dX7_costOfAll_1 : decode cX7_costOfAll 1 = .ok (.istore_n 3, 1) := by decide +kernel
theorem dX7_costOfAll_2 : decode cX7_costOfAll 2 = .ok (.iconst 0, 1) := by decide +kernel
theorem dX7_costOfAll_3 : decode cX7_costOfAll 3 = .ok (.istore 4, 2) := by decide +kernel
theorem dX7_costOfAll_5 : decode cX7_costOfAll 5 = .ok (.iload 4, 2) := by decide +kernel
theorem dX7_costOfAll_7 : decode cX7_costOfAll 7 = .ok (.aload_n 0, 1) := by decide +kernel
theorem dX7_costOfAll_8 : decode cX7_costOfAll 8 = .ok (.getfield 44, 3) := by decide +kernel
theorem dX7_costOfAll_11 : decode cX7_costOfAll 11 = .ok (.if_icmp .ge 33, 3) := by decide +kernel
theorem dX7_costOfAll_14 : decode cX7_costOfAll 14 = .ok (.iload_n 1, 1) := by decide +kernel
theorem dX7_costOfAll_15 : decode cX7_costOfAll 15 = .ok (.iload 4, 2) := by decide +kernel
theorem dX7_costOfAll_17 : decode cX7_costOfAll 17 = .ok (.invokestatic 153, 3) := by decide +kernel
theorem dX7_costOfAll_20 : decode cX7_costOfAll 20 = .ok (.ifCond .eq 18, 3) := by decide +kernel
theorem dX7_costOfAll_23 : decode cX7_costOfAll 23 = .ok (.iload_n 3, 1) := by decide +kernel
theorem dX7_costOfAll_24 : decode cX7_costOfAll 24 = .ok (.aload_n 0, 1) := by decide +kernel
theorem dX7_costOfAll_25 : decode cX7_costOfAll 25 = .ok (.aload_n 0, 1) := by decide +kernel
theorem dX7_costOfAll_26 : decode cX7_costOfAll 26 = .ok (.getfield 11, 3) := by decide +kernel
theorem dX7_costOfAll_29 : decode cX7_costOfAll 29 = .ok (.iload 4, 2) := by decide +kernel
theorem dX7_costOfAll_31 : decode cX7_costOfAll 31 = .ok (.aaload, 1) := by decide +kernel
theorem dX7_costOfAll_32 : decode cX7_costOfAll 32 = .ok (.aload_n 2, 1) := by decide +kernel
theorem dX7_costOfAll_33 : decode cX7_costOfAll 33 = .ok (.invokevirtual 504, 3) := by decide +kernel
theorem dX7_costOfAll_36 : decode cX7_costOfAll 36 = .ok (.iadd, 1) := by decide +kernel
theorem dX7_costOfAll_37 : decode cX7_costOfAll 37 = .ok (.istore_n 3, 1) := by decide +kernel
theorem dX7_costOfAll_38 : decode cX7_costOfAll 38 = .ok (.iinc 4 1, 3) := by decide +kernel
theorem dX7_costOfAll_41 : decode cX7_costOfAll 41 = .ok (.goto (-36), 3) := by decide +kernel
theorem dX7_costOfAll_44 : decode cX7_costOfAll 44 = .ok (.iload_n 3, 1) := by decide +kernel
theorem dX7_costOfAll_45 : decode cX7_costOfAll 45 = .ok (.ireturn, 1) := by decide +kernel
set_option maxRecDepth 20000 in
theorem ggX7_playableFor_X7_has : GoodIn wsX7_playableFor wsX7_has := goodIn_r _ [7] (by decide +kernel) (by decide +kernel)
set_option maxRecDepth 20000 in
theorem gX7_playableFor_X7_has : GoodIn wsX7_playableFor (va_wsS RX7 153 yX7_has wsX7_has) := goodIn_app (goodIn_of _ (by decide +kernel)) ggX7_playableFor_X7_has
set_option maxRecDepth 20000 in
theorem ggX7_playableFor_J6_bitCount_0f7a4 : GoodIn wsX7_playableFor wsJ6_bitCount_0f7a4 := goodIn_r _ [11, 12, 13, 14] (by decide +kernel) (by decide +kernel)
set_option maxRecDepth 20000 in
theorem gX7_playableFor_J6_bitCount_0f7a4 : GoodIn wsX7_playableFor (va_wsS RX7 128 yJ6_bitCount_0f7a4 wsJ6_bitCount_0f7a4) := goodIn_app (goodIn_of _ (by decide +kernel)) ggX7_playableFor_J6_bitCount_0f7a4
theorem dX7_playableFor_0 : decode cX7_playableFor 0 = .ok (.iconst 0, 1) := by decide +kernel
theorem dX7_playableFor_1 : decode cX7_playableFor 1 = .ok (.istore_n 2, 1) := by decide +kernel
theorem dX7_playableFor_2 : decode cX7_playableFor 2 = .ok (.iconst 0, 1) := by decide +kernel
theorem dX7_playableFor_3 : decode cX7_playableFor 3 = .ok (.istore_n 3, 1) := by decide +kernel
theorem dX7_playableFor_4 : decode cX7_playableFor 4 = .ok (.iconst 0, 1) := by decide +kernel
theorem dX7_playableFor_5 : decode cX7_playableFor 5 = .ok (.istore 4, 2) := by decide +kernel
theorem dX7_playableFor_7 : decode cX7_playableFor 7 = .ok (.iload 4, 2) := by decide +kernel
theorem dX7_playableFor_9 : decode cX7_playableFor 9 = .ok (.aload_n 0, 1) := by decide +kernel
theorem dX7_playableFor_10 : decode cX7_playableFor 10 = .ok (.getfield 44, 3) := by decide +kernel
theorem dX7_playableFor_13 : decode cX7_playableFor 13 = .ok (.if_icmp .ge 46, 3) := by decide +kernel
theorem dX7_playableFor_16 : decode cX7_playableFor 16 = .ok (.iload_n 1, 1) := by decide +kernel
theorem dX7_playableFor_17 : decode cX7_playableFor 17 = .ok (.iload 4, 2) := by decide +kernel
theorem dX7_playableFor_19 : decode cX7_playableFor 19 = .ok (.invokestatic 153, 3) := by decide +kernel
theorem dX7_playableFor_22 : decode cX7_playableFor 22 = .ok (.ifCond .eq 31, 3) := by decide +kernel
theorem dX7_playableFor_25 : decode cX7_playableFor 25 = .ok (.iload_n 3, 1) := by decide +kernel
theorem dX7_playableFor_26 : decode cX7_playableFor 26 = .ok (.iload_n 2, 1) := by decide +kernel
theorem dX7_playableFor_27 : decode cX7_playableFor 27 = .ok (.aload_n 0, 1) := by decide +kernel
theorem dX7_playableFor_28 : decode cX7_playableFor 28 = .ok (.getfield 11, 3) := by decide +kernel
theorem dX7_playableFor_31 : decode cX7_playableFor 31 = .ok (.iload 4, 2) := by decide +kernel
theorem dX7_playableFor_33 : decode cX7_playableFor 33 = .ok (.aaload, 1) := by decide +kernel
theorem dX7_playableFor_34 : decode cX7_playableFor 34 = .ok (.getfield 114, 3) := by decide +kernel
theorem dX7_playableFor_37 : decode cX7_playableFor 37 = .ok (.iand, 1) := by decide +kernel
theorem dX7_playableFor_38 : decode cX7_playableFor 38 = .ok (.ior, 1) := by decide +kernel
theorem dX7_playableFor_39 : decode cX7_playableFor 39 = .ok (.istore_n 3, 1) := by decide +kernel
theorem dX7_playableFor_40 : decode cX7_playableFor 40 = .ok (.iload_n 2, 1) := by decide +kernel
theorem dX7_playableFor_41 : decode cX7_playableFor 41 = .ok (.aload_n 0, 1) := by decide +kernel
theorem dX7_playableFor_42 : decode cX7_playableFor 42 = .ok (.getfield 11, 3) := by decide +kernel
theorem dX7_playableFor_45 : decode cX7_playableFor 45 = .ok (.iload 4, 2) := by decide +kernel
theorem dX7_playableFor_47 : decode cX7_playableFor 47 = .ok (.aaload, 1) := by decide +kernel
theorem dX7_playableFor_48 : decode cX7_playableFor 48 = .ok (.getfield 114, 3) := by decide +kernel
theorem dX7_playableFor_51 : decode cX7_playableFor 51 = .ok (.ior, 1) := by decide +kernel
theorem dX7_playableFor_52 : decode cX7_playableFor 52 = .ok (.istore_n 2, 1) := by decide +kernel
theorem dX7_playableFor_53 : decode cX7_playableFor 53 = .ok (.iinc 4 1, 3) := by decide +kernel
theorem dX7_playableFor_56 : decode cX7_playableFor 56 = .ok (.goto (-49), 3) := by decide +kernel
theorem dX7_playableFor_59 : decode cX7_playableFor 59 = .ok (.iload_n 1, 1) := by decide +kernel
theorem dX7_playableFor_60 : decode cX7_playableFor 60 = .ok (.invokestatic 128, 3) := by decide +kernel
theorem dX7_playableFor_63 : decode cX7_playableFor 63 = .ok (.iconst 1, 1) := by decide +kernel
theorem dX7_playableFor_64 : decode cX7_playableFor 64 = .ok (.if_icmp .ne 7, 3) := by decide +kernel
theorem dX7_playableFor_67 : decode cX7_playableFor 67 = .ok (.iload_n 2, 1) := by decide +kernel
theorem dX7_playableFor_68 : decode cX7_playableFor 68 = .ok (.goto 4, 3) := by decide +kernel
theorem dX7_playableFor_71 : decode cX7_playableFor 71 = .ok (.iload_n 3, 1) := by decide +kernel
theorem dX7_playableFor_72 : decode cX7_playableFor 72 = .ok (.ireturn, 1) := by decide +kernel
set_option maxRecDepth 20000 in
theorem ggX7_countFixedWith_X6_isFixedWith : GoodIn wsX7_countFixedWith wsX6_isFixedWith := goodIn_r _ [7, 8, 9, 10, 11, 12, 28, 29, 30, 31, 32, 33, 34, 35, 36, 37, 38, 39] (by decide +kernel) (by decide +kernel)
set_option maxRecDepth 20000 in
theorem gX7_countFixedWith_X6_isFixedWith : GoodIn wsX7_countFixedWith (wsV RX7 274 RX6 yX6_isFixedWith wsX6_isFixedWith) := goodIn_app (goodIn_of _ (by decide +kernel)) ggX7_countFixedWith_X6_isFixedWith
theorem dX7_countFixedWith_0 : decode cX7_countFixedWith 0 = .ok (.iconst 0, 1) := by decide +kernel
theorem dX7_countFixedWith_1 : decode cX7_countFixedWith 1 = .ok (.istore_n 2, 1) := by decide +kernel
theorem dX7_countFixedWith_2 : decode cX7_countFixedWith 2 = .ok (.iconst 0, 1) := by decide +kernel
theorem dX7_countFixedWith_3 : decode cX7_countFixedWith 3 = .ok (.istore_n 3, 1) := by decide +kernel
theorem dX7_countFixedWith_4 : decode cX7_countFixedWith 4 = .ok (.iload_n 3, 1) := by decide +kernel
theorem dX7_countFixedWith_5 : decode cX7_countFixedWith 5 = .ok (.aload_n 0, 1) := by decide +kernel
theorem dX7_countFixedWith_6 : decode cX7_countFixedWith 6 = .ok (.getfield 51, 3) := by decide +kernel
theorem dX7_countFixedWith_9 : decode cX7_countFixedWith 9 = .ok (.if_icmp .ge 25, 3) := by decide +kernel
theorem dX7_countFixedWith_12 : decode cX7_countFixedWith 12 = .ok (.aload_n 0, 1) := by decide +kernel
theorem dX7_countFixedWith_13 : decode cX7_countFixedWith 13 = .ok (.getfield 29, 3) := by decide +kernel
theorem dX7_countFixedWith_16 : decode cX7_countFixedWith 16 = .ok (.iload_n 3, 1) := by decide +kernel
theorem dX7_countFixedWith_17 : decode cX7_countFixedWith 17 = .ok (.aaload, 1) := by decide +kernel
theorem dX7_countFixedWith_18 : decode cX7_countFixedWith 18 = .ok (.iload_n 1, 1) := by decide +kernel
theorem dX7_countFixedWith_19 : decode cX7_countFixedWith 19 = .ok (.invokevirtual 274, 3) := by decide +kernel
theorem dX7_countFixedWith_22 : decode cX7_countFixedWith 22 = .ok (.ifCond .eq 6, 3) := by decide +kernel
theorem dX7_countFixedWith_25 : decode cX7_countFixedWith 25 = .ok (.iinc 2 1, 3) := by decide +kernel
theorem dX7_countFixedWith_28 : decode cX7_countFixedWith 28 = .ok (.iinc 3 1, 3) := by decide +kernel
theorem dX7_countFixedWith_31 : decode cX7_countFixedWith 31 = .ok (.goto (-27), 3) := by decide +kernel
theorem dX7_countFixedWith_34 : decode cX7_countFixedWith 34 = .ok (.iload_n 2, 1) := by decide +kernel
theorem dX7_countFixedWith_35 : decode cX7_countFixedWith 35 = .ok (.ireturn, 1) := by decide +kernel
set_option maxRecDepth 20000 in
theorem ggX7_countKnowing_X7_has : GoodIn wsX7_countKnowing wsX7_has := goodIn_r _ [7] (by decide +kernel) (by decide +kernel)
set_option maxRecDepth 20000 in
theorem gX7_countKnowing_X7_has : GoodIn wsX7_countKnowing (va_wsS RX7 153 yX7_has wsX7_has) := goodIn_app (goodIn_of _ (by decide +kernel)) ggX7_countKnowing_X7_has
theorem dX7_countKnowing_0 : decode cX7_countKnowing 0 = .ok (.iconst 0, 1) := by decide +kernel
theorem dX7_countKnowing_1 : decode cX7_countKnowing 1 = .ok (.istore_n 2, 1) := by decide +kernel
theorem dX7_countKnowing_2 : decode cX7_countKnowing 2 = .ok (.iconst 0, 1) := by decide +kernel
theorem dX7_countKnowing_3 : decode cX7_countKnowing 3 = .ok (.istore_n 3, 1) := by decide +kernel
theorem dX7_countKnowing_4 : decode cX7_countKnowing 4 = .ok (.iload_n 3, 1) := by decide +kernel
theorem dX7_countKnowing_5 : decode cX7_countKnowing 5 = .ok (.aload_n 0, 1) := by decide +kernel
theorem dX7_countKnowing_6 : decode cX7_countKnowing 6 = .ok (.getfield 44, 3) := by decide +kernel
theorem dX7_countKnowing_9 : decode cX7_countKnowing 9 = .ok (.if_icmp .ge 28, 3) := by decide +kernel
theorem dX7_countKnowing_12 : decode cX7_countKnowing 12 = .ok (.aload_n 0, 1) := by decide +kernel
theorem dX7_countKnowing_13 : decode cX7_countKnowing 13 = .ok (.getfield 11, 3) := by decide +kernel
theorem dX7_countKnowing_16 : decode cX7_countKnowing 16 = .ok (.iload_n 3, 1) := by decide +kernel
theorem dX7_countKnowing_17 : decode cX7_countKnowing 17 = .ok (.aaload, 1) := by decide +kernel
theorem dX7_countKnowing_18 : decode cX7_countKnowing 18 = .ok (.getfield 114, 3) := by decide +kernel
theorem dX7_countKnowing_21 : decode cX7_countKnowing 21 = .ok (.iload_n 1, 1) := by decide +kernel
theorem dX7_countKnowing_22 : decode cX7_countKnowing 22 = .ok (.invokestatic 153, 3) := by decide +kernel
theorem dX7_countKnowing_25 : decode cX7_countKnowing 25 = .ok (.ifCond .eq 6, 3) := by decide +kernel
theorem dX7_countKnowing_28 : decode cX7_countKnowing 28 = .ok (.iinc 2 1, 3) := by decide +kernel
theorem dX7_countKnowing_31 : decode cX7_countKnowing 31 = .ok (.iinc 3 1, 3) := by decide +kernel
theorem dX7_countKnowing_34 : decode cX7_countKnowing 34 = .ok (.goto (-30), 3) := by decide +kernel
theorem dX7_countKnowing_37 : decode cX7_countKnowing 37 = .ok (.iload_n 2, 1) := by decide +kernel
theorem dX7_countKnowing_38 : decode cX7_countKnowing 38 = .ok (.ireturn, 1) := by decide +kernel
theorem dX7_countOfBand_0 : decode cX7_countOfBand 0 = .ok (.iconst 0, 1) := by decide +kernel
theorem dX7_countOfBand_1 : decode cX7_countOfBand 1 = .ok (.istore_n 3, 1) := by decide +kernel
theorem dX7_countOfBand_2 : decode cX7_countOfBand 2 = .ok (.iconst 0, 1) := by decide +kernel
theorem dX7_countOfBand_3 : decode cX7_countOfBand 3 = .ok (.istore 4, 2) := by decide +kernel
theorem dX7_countOfBand_5 : decode cX7_countOfBand 5 = .ok (.iload 4, 2) := by decide +kernel
theorem dX7_countOfBand_7 : decode cX7_countOfBand 7 = .ok (.aload_n 0, 1) := by decide +kernel
theorem dX7_countOfBand_8 : decode cX7_countOfBand 8 = .ok (.getfield 51, 3) := by decide +kernel
theorem dX7_countOfBand_11 : decode cX7_countOfBand 11 = .ok (.if_icmp .ge 44, 3) := by decide +kernel
theorem dX7_countOfBand_14 : decode cX7_countOfBand 14 = .ok (.aload_n 0, 1) := by decide +kernel
theorem dX7_countOfBand_15 : decode cX7_countOfBand 15 = .ok (.getfield 29, 3) := by decide +kernel
theorem dX7_countOfBand_18 : decode cX7_countOfBand 18 = .ok (.iload 4, 2) := by decide +kernel
theorem dX7_countOfBand_20 : decode cX7_countOfBand 20 = .ok (.aaload, 1) := by decide +kernel
theorem dX7_countOfBand_21 : decode cX7_countOfBand 21 = .ok (.getfield 193, 3) := by decide +kernel
theorem dX7_countOfBand_24 : decode cX7_countOfBand 24 = .ok (.iload_n 1, 1) := by decide +kernel
theorem dX7_countOfBand_25 : decode cX7_countOfBand 25 = .ok (.if_icmp .ne 24, 3) := by decide +kernel
theorem dX7_countOfBand_28 : decode cX7_countOfBand 28 = .ok (.iload_n 2, 1) := by decide +kernel
theorem dX7_countOfBand_29 : decode cX7_countOfBand 29 = .ok (.ifCond .eq 17, 3) := by decide +kernel
theorem dX7_countOfBand_32 : decode cX7_countOfBand 32 = .ok (.aload_n 0, 1) := by decide +kernel
theorem dX7_countOfBand_33 : decode cX7_countOfBand 33 = .ok (.getfield 29, 3) := by decide +kernel
theorem dX7_countOfBand_36 : decode cX7_countOfBand 36 = .ok (.iload 4, 2) := by decide +kernel
theorem dX7_countOfBand_38 : decode cX7_countOfBand 38 = .ok (.aaload, 1) := by decide +kernel
theorem dX7_countOfBand_39 : decode cX7_countOfBand 39 = .ok (.getfield 233, 3) := by decide +kernel
theorem dX7_countOfBand_42 : decode cX7_countOfBand 42 = .ok (.iconst 2, 1) := by decide +kernel
theorem dX7_countOfBand_43 : decode cX7_countOfBand 43 = .ok (.if_icmp .ne 6, 3) := by decide +kernel
theorem dX7_countOfBand_46 : decode cX7_countOfBand 46 = .ok (.iinc 3 1, 3) := by decide +kernel
theorem dX7_countOfBand_49 : decode cX7_countOfBand 49 = .ok (.iinc 4 1, 3) := by decide +kernel
theorem dX7_countOfBand_52 : decode cX7_countOfBand 52 = .ok (.goto (-47), 3) := by decide +kernel
theorem dX7_countOfBand_55 : decode cX7_countOfBand 55 = .ok (.iload_n 3, 1) := by decide +kernel
theorem dX7_countOfBand_56 : decode cX7_countOfBand 56 = .ok (.ireturn, 1) := by decide +kernel
theorem dX7_countInState_0 : decode cX7_countInState 0 = .ok (.iconst 0, 1) := by decide +kernel
theorem dX7_countInState_1 : decode cX7_countInState 1 = .ok (.istore_n 2, 1) := by decide +kernel
theorem dX7_countInState_2 : decode cX7_countInState 2 = .ok (.iconst 0, 1) := by decide +kernel
theorem dX7_countInState_3 : decode cX7_countInState 3 = .ok (.istore_n 3, 1) := by decide +kernel
theorem dX7_countInState_4 : decode cX7_countInState 4 = .ok (.iload_n 3, 1) := by decide +kernel
theorem dX7_countInState_5 : decode cX7_countInState 5 = .ok (.aload_n 0, 1) := by decide +kernel
theorem dX7_countInState_6 : decode cX7_countInState 6 = .ok (.getfield 51, 3) := by decide +kernel
theorem dX7_countInState_9 : decode cX7_countInState 9 = .ok (.if_icmp .ge 25, 3) := by decide +kernel
theorem dX7_countInState_12 : decode cX7_countInState 12 = .ok (.aload_n 0, 1) := by decide +kernel
theorem dX7_countInState_13 : decode cX7_countInState 13 = .ok (.getfield 29, 3) := by decide +kernel
theorem dX7_countInState_16 : decode cX7_countInState 16 = .ok (.iload_n 3, 1) := by decide +kernel
theorem dX7_countInState_17 : decode cX7_countInState 17 = .ok (.aaload, 1) := by decide +kernel
theorem dX7_countInState_18 : decode cX7_countInState 18 = .ok (.getfield 233, 3) := by decide +kernel
theorem dX7_countInState_21 : decode cX7_countInState 21 = .ok (.iload_n 1, 1) := by decide +kernel
theorem dX7_countInState_22 : decode cX7_countInState 22 = .ok (.if_icmp .ne 6, 3) := by decide +kernel
theorem dX7_countInState_25 : decode cX7_countInState 25 = .ok (.iinc 2 1, 3) := by decide +kernel
theorem dX7_countInState_28 : decode cX7_countInState 28 = .ok (.iinc 3 1, 3) := by decide +kernel
theorem dX7_countInState_31 : decode cX7_countInState 31 = .ok (.goto (-27), 3) := by decide +kernel
theorem dX7_countInState_34 : decode cX7_countInState 34 = .ok (.iload_n 2, 1) := by decide +kernel
theorem dX7_countInState_35 : decode cX7_countInState 35 = .ok (.ireturn, 1) := by decide +kernel
set_option maxRecDepth 20000 in
theorem ggX7_countFeuds_J6_bitCount_0f7a4 : GoodIn wsX7_countFeuds wsJ6_bitCount_0f7a4 := goodIn_r _ [7, 8, 9, 10] (by decide +kernel) (by decide +kernel)
set_option maxRecDepth 20000 in
theorem gX7_countFeuds_J6_bitCount_0f7a4 : GoodIn wsX7_countFeuds (va_wsS RX7 128 yJ6_bitCount_0f7a4 wsJ6_bitCount_0f7a4) := goodIn_app (goodIn_of _ (by decide +kernel)) ggX7_countFeuds_J6_bitCount_0f7a4
theorem dX7_countFeuds_0 : decode cX7_countFeuds 0 = .ok (.iconst 0, 1) := by decide +kernel
theorem dX7_countFeuds_1 : decode cX7_countFeuds 1 = .ok (.istore_n 1, 1) := by decide +kernel
theorem dX7_countFeuds_2 : decode cX7_countFeuds 2 = .ok (.iconst 0, 1) := by decide +kernel
theorem dX7_countFeuds_3 : decode cX7_countFeuds 3 = .ok (.istore_n 2, 1) := by decide +kernel
theorem dX7_countFeuds_4 : decode cX7_countFeuds 4 = .ok (.iload_n 2, 1) := by decide +kernel
theorem dX7_countFeuds_5 : decode cX7_countFeuds 5 = .ok (.aload_n 0, 1) := by decide +kernel
theorem dX7_countFeuds_6 : decode cX7_countFeuds 6 = .ok (.getfield 44, 3) := by decide +kernel
theorem dX7_countFeuds_9 : decode cX7_countFeuds 9 = .ok (.if_icmp .ge 24, 3) := by decide +kernel
theorem dX7_countFeuds_12 : decode cX7_countFeuds 12 = .ok (.iload_n 1, 1) := by decide +kernel
theorem dX7_countFeuds_13 : decode cX7_countFeuds 13 = .ok (.aload_n 0, 1) := by decide +kernel
theorem dX7_countFeuds_14 : decode cX7_countFeuds 14 = .ok (.getfield 11, 3) := by decide +kernel
theorem dX7_countFeuds_17 : decode cX7_countFeuds 17 = .ok (.iload_n 2, 1) := by decide +kernel
theorem dX7_countFeuds_18 : decode cX7_countFeuds 18 = .ok (.aaload, 1) := by decide +kernel
theorem dX7_countFeuds_19 : decode cX7_countFeuds 19 = .ok (.getfield 150, 3) := by decide +kernel
theorem dX7_countFeuds_22 : decode cX7_countFeuds 22 = .ok (.invokestatic 128, 3) := by decide +kernel
theorem dX7_countFeuds_25 : decode cX7_countFeuds 25 = .ok (.iadd, 1) := by decide +kernel
theorem dX7_countFeuds_26 : decode cX7_countFeuds 26 = .ok (.istore_n 1, 1) := by decide +kernel
theorem dX7_countFeuds_27 : decode cX7_countFeuds 27 = .ok (.iinc 2 1, 3) := by decide +kernel
theorem dX7_countFeuds_30 : decode cX7_countFeuds 30 = .ok (.goto (-26), 3) := by decide +kernel
theorem dX7_countFeuds_33 : decode cX7_countFeuds 33 = .ok (.iload_n 1, 1) := by decide +kernel
theorem dX7_countFeuds_34 : decode cX7_countFeuds 34 = .ok (.iconst 2, 1) := by decide +kernel
theorem dX7_countFeuds_35 : decode cX7_countFeuds 35 = .ok (.idiv, 1) := by decide +kernel
theorem dX7_countFeuds_36 : decode cX7_countFeuds 36 = .ok (.ireturn, 1) := by decide +kernel
set_option maxRecDepth 20000 in
theorem ggX7_countDaysOff_J6_bitCount_0f7a4 : GoodIn wsX7_countDaysOff wsJ6_bitCount_0f7a4 := goodIn_r _ [5, 6, 7, 8] (by decide +kernel) (by decide +kernel)
set_option maxRecDepth 20000 in
theorem gX7_countDaysOff_J6_bitCount_0f7a4 : GoodIn wsX7_countDaysOff (va_wsS RX7 128 yJ6_bitCount_0f7a4 wsJ6_bitCount_0f7a4) := goodIn_app (goodIn_of _ (by decide +kernel)) ggX7_countDaysOff_J6_bitCount_0f7a4
theorem dX7_countDaysOff_0 : decode cX7_countDaysOff 0 = .ok (.iconst 0, 1) := by decide +kernel
theorem dX7_countDaysOff_1 : decode cX7_countDaysOff 1 = .ok (.istore_n 1, 1) := by decide +kernel
theorem dX7_countDaysOff_2 : decode cX7_countDaysOff 2 = .ok (.iconst 0, 1) := by decide +kernel
theorem dX7_countDaysOff_3 : decode cX7_countDaysOff 3 = .ok (.istore_n 2, 1) := by decide +kernel
theorem dX7_countDaysOff_4 : decode cX7_countDaysOff 4 = .ok (.iload_n 2, 1) := by decide +kernel
theorem dX7_countDaysOff_5 : decode cX7_countDaysOff 5 = .ok (.sipush 365, 3) := by decide +kernel
theorem dX7_countDaysOff_8 : decode cX7_countDaysOff 8 = .ok (.if_icmp .gt 21, 3) := by decide +kernel
theorem dX7_countDaysOff_11 : decode cX7_countDaysOff 11 = .ok (.iload_n 1, 1) := by decide +kernel
theorem dX7_countDaysOff_12 : decode cX7_countDaysOff 12 = .ok (.aload_n 0, 1) := by decide +kernel
theorem dX7_countDaysOff_13 : decode cX7_countDaysOff 13 = .ok (.getfield 40, 3) := by decide +kernel
theorem dX7_countDaysOff_16 : decode cX7_countDaysOff 16 = .ok (.iload_n 2, 1) := by decide +kernel
theorem dX7_countDaysOff_17 : decode cX7_countDaysOff 17 = .ok (.iaload, 1) := by decide +kernel
theorem dX7_countDaysOff_18 : decode cX7_countDaysOff 18 = .ok (.invokestatic 128, 3) := by decide +kernel
theorem dX7_countDaysOff_21 : decode cX7_countDaysOff 21 = .ok (.iadd, 1) := by decide +kernel
theorem dX7_countDaysOff_22 : decode cX7_countDaysOff 22 = .ok (.istore_n 1, 1) := by decide +kernel
theorem dX7_countDaysOff_23 : decode cX7_countDaysOff 23 = .ok (.iinc 2 1, 3) := by decide +kernel
theorem dX7_countDaysOff_26 : decode cX7_countDaysOff 26 = .ok (.goto (-22), 3) := by decide +kernel
theorem dX7_countDaysOff_29 : decode cX7_countDaysOff 29 = .ok (.iload_n 1, 1) := by decide +kernel
theorem dX7_countDaysOff_30 : decode cX7_countDaysOff 30 = .ok (.ireturn, 1) := by decide +kernel
theorem dX7_allEarned_0 : decode cX7_allEarned 0 = .ok (.iconst 0, 1) := by decide +kernel
theorem dX7_allEarned_1 : decode cX7_allEarned 1 = .ok (.istore_n 1, 1) := by decide +kernel
theorem dX7_allEarned_2 : decode cX7_allEarned 2 = .ok (.iconst 0, 1) := by decide +kernel
theorem dX7_allEarned_3 : decode cX7_allEarned 3 = .ok (.istore_n 2, 1) := by decide +kernel
theorem dX7_allEarned_4 : decode cX7_allEarned 4 = .ok (.iload_n 2, 1) := by decide +kernel
theorem dX7_allEarned_5 : decode cX7_allEarned 5 = .ok (.aload_n 0, 1) := by decide +kernel
theorem dX7_allEarned_6 : decode cX7_allEarned 6 = .ok (.getfield 44, 3) := by decide +kernel
theorem dX7_allEarned_9 : decode cX7_allEarned 9 = .ok (.if_icmp .ge 21, 3) := by decide +kernel
theorem dX7_allEarned_12 : decode cX7_allEarned 12 = .ok (.iload_n 1, 1) := by decide +kernel
theorem dX7_allEarned_13 : decode cX7_allEarned 13 = .ok (.aload_n 0, 1) := by decide +kernel
theorem dX7_allEarned_14 : decode cX7_allEarned 14 = .ok (.getfield 11, 3) := by decide +kernel
theorem dX7_allEarned_17 : decode cX7_allEarned 17 = .ok (.iload_n 2, 1) := by decide +kernel
theorem dX7_allEarned_18 : decode cX7_allEarned 18 = .ok (.aaload, 1) := by decide +kernel
theorem dX7_allEarned_19 : decode cX7_allEarned 19 = .ok (.getfield 301, 3) := by decide +kernel
theorem dX7_allEarned_22 : decode cX7_allEarned 22 = .ok (.iadd, 1) := by decide +kernel
theorem dX7_allEarned_23 : decode cX7_allEarned 23 = .ok (.istore_n 1, 1) := by decide +kernel
theorem dX7_allEarned_24 : decode cX7_allEarned 24 = .ok (.iinc 2 1, 3) := by decide +kernel
theorem dX7_allEarned_27 : decode cX7_allEarned 27 = .ok (.goto (-23), 3) := by decide +kernel
theorem dX7_allEarned_30 : decode cX7_allEarned 30 = .ok (.iload_n 1, 1) := by decide +kernel
theorem dX7_allEarned_31 : decode cX7_allEarned 31 = .ok (.ireturn, 1) := by decide +kernel
theorem dX7_gapOfHours_0 : decode cX7_gapOfHours 0 = .ok (.iconst 0, 1) := by decide +kernel
theorem dX7_gapOfHours_1 : decode cX7_gapOfHours 1 = .ok (.istore_n 1, 1) := by decide +kernel
theorem dX7_gapOfHours_2 : decode cX7_gapOfHours 2 = .ok (.aload_n 0, 1) := by decide +kernel
theorem dX7_gapOfHours_3 : decode cX7_gapOfHours 3 = .ok (.getfield 44, 3) := by decide +kernel
theorem dX7_gapOfHours_6 : decode cX7_gapOfHours 6 = .ok (.ifCond .ne 7, 3) := by decide +kernel
theorem dX7_gapOfHours_9 : decode cX7_gapOfHours 9 = .ok (.iconst 0, 1) := by decide +kernel
theorem dX7_gapOfHours_10 : decode cX7_gapOfHours 10 = .ok (.goto 12, 3) := by decide +kernel
theorem dX7_gapOfHours_13 : decode cX7_gapOfHours 13 = .ok (.aload_n 0, 1) := by decide +kernel
theorem dX7_gapOfHours_14 : decode cX7_gapOfHours 14 = .ok (.getfield 11, 3) := by decide +kernel
theorem dX7_gapOfHours_17 : decode cX7_gapOfHours 17 = .ok (.iconst 0, 1) := by decide +kernel
theorem dX7_gapOfHours_18 : decode cX7_gapOfHours 18 = .ok (.aaload, 1) := by decide +kernel
theorem dX7_gapOfHours_19 : decode cX7_gapOfHours 19 = .ok (.getfield 310, 3) := by decide +kernel
theorem dX7_gapOfHours_22 : decode cX7_gapOfHours 22 = .ok (.istore_n 2, 1) := by decide +kernel
theorem dX7_gapOfHours_23 : decode cX7_gapOfHours 23 = .ok (.iconst 0, 1) := by decide +kernel
theorem dX7_gapOfHours_24 : decode cX7_gapOfHours 24 = .ok (.istore_n 3, 1) := by decide +kernel
theorem dX7_gapOfHours_25 : decode cX7_gapOfHours 25 = .ok (.iload_n 3, 1) := by decide +kernel
theorem dX7_gapOfHours_26 : decode cX7_gapOfHours 26 = .ok (.aload_n 0, 1) := by decide +kernel
theorem dX7_gapOfHours_27 : decode cX7_gapOfHours 27 = .ok (.getfield 44, 3) := by decide +kernel
theorem dX7_gapOfHours_30 : decode cX7_gapOfHours 30 = .ok (.if_icmp .ge 37, 3) := by decide +kernel
theorem dX7_gapOfHours_33 : decode cX7_gapOfHours 33 = .ok (.iload_n 1, 1) := by decide +kernel
theorem dX7_gapOfHours_34 : decode cX7_gapOfHours 34 = .ok (.aload_n 0, 1) := by decide +kernel
theorem dX7_gapOfHours_35 : decode cX7_gapOfHours 35 = .ok (.getfield 11, 3) := by decide +kernel
theorem dX7_gapOfHours_38 : decode cX7_gapOfHours 38 = .ok (.iload_n 3, 1) := by decide +kernel
theorem dX7_gapOfHours_39 : decode cX7_gapOfHours 39 = .ok (.aaload, 1) := by decide +kernel
theorem dX7_gapOfHours_40 : decode cX7_gapOfHours 40 = .ok (.getfield 310, 3) := by decide +kernel
theorem dX7_gapOfHours_43 : decode cX7_gapOfHours 43 = .ok (.invokestatic 263, 3) := by decide +kernel
theorem dX7_gapOfHours_46 : decode cX7_gapOfHours 46 = .ok (.istore_n 1, 1) := by decide +kernel
theorem dX7_gapOfHours_47 : decode cX7_gapOfHours 47 = .ok (.iload_n 2, 1) := by decide +kernel
theorem dX7_gapOfHours_48 : decode cX7_gapOfHours 48 = .ok (.aload_n 0, 1) := by decide +kernel
theorem dX7_gapOfHours_49 : decode cX7_gapOfHours 49 = .ok (.getfield 11, 3) := by decide +kernel
theorem dX7_gapOfHours_52 : decode cX7_gapOfHours 52 = .ok (.iload_n 3, 1) := by decide +kernel
theorem dX7_gapOfHours_53 : decode cX7_gapOfHours 53 = .ok (.aaload, 1) := by decide +kernel
theorem dX7_gapOfHours_54 : decode cX7_gapOfHours 54 = .ok (.getfield 310, 3) := by decide +kernel
theorem dX7_gapOfHours_57 : decode cX7_gapOfHours 57 = .ok (.invokestatic 513, 3) := by decide +kernel
theorem dX7_gapOfHours_60 : decode cX7_gapOfHours 60 = .ok (.istore_n 2, 1) := by decide +kernel
theorem dX7_gapOfHours_61 : decode cX7_gapOfHours 61 = .ok (.iinc 3 1, 3) := by decide +kernel
theorem dX7_gapOfHours_64 : decode cX7_gapOfHours 64 = .ok (.goto (-39), 3) := by decide +kernel
theorem dX7_gapOfHours_67 : decode cX7_gapOfHours 67 = .ok (.iload_n 1, 1) := by decide +kernel
theorem dX7_gapOfHours_68 : decode cX7_gapOfHours 68 = .ok (.iload_n 2, 1) := by decide +kernel
theorem dX7_gapOfHours_69 : decode cX7_gapOfHours 69 = .ok (.isub, 1) := by decide +kernel
theorem dX7_gapOfHours_70 : decode cX7_gapOfHours 70 = .ok (.ireturn, 1) := by decide +kernel
theorem dX7_shareOf_0 : decode cX7_shareOf 0 = .ok (.iconst 0, 1) := by decide +kernel
theorem dX7_shareOf_1 : decode cX7_shareOf 1 = .ok (.istore_n 2, 1) := by decide +kernel
theorem dX7_shareOf_2 : decode cX7_shareOf 2 = .ok (.iconst 0, 1) := by decide +kernel
theorem dX7_shareOf_3 : decode cX7_shareOf 3 = .ok (.istore_n 3, 1) := by decide +kernel
theorem dX7_shareOf_4 : decode cX7_shareOf 4 = .ok (.iload_n 3, 1) := by decide +kernel
theorem dX7_shareOf_5 : decode cX7_shareOf 5 = .ok (.bipush 16, 2) := by decide +kernel
theorem dX7_shareOf_7 : decode cX7_shareOf 7 = .ok (.if_icmp .ge 31, 3) := by decide +kernel
theorem dX7_shareOf_10 : decode cX7_shareOf 10 = .ok (.iload_n 2, 1) := by decide +kernel
theorem dX7_shareOf_11 : decode cX7_shareOf 11 = .ok (.aload_n 0, 1) := by decide +kernel
theorem dX7_shareOf_12 : decode cX7_shareOf 12 = .ok (.getfield 17, 3) := by decide +kernel
theorem dX7_shareOf_15 : decode cX7_shareOf 15 = .ok (.iload_n 3, 1) := by decide +kernel
theorem dX7_shareOf_16 : decode cX7_shareOf 16 = .ok (.aaload, 1) := by decide +kernel
theorem dX7_shareOf_17 : decode cX7_shareOf 17 = .ok (.getfield 139, 3) := by decide +kernel
theorem dX7_shareOf_20 : decode cX7_shareOf 20 = .ok (.aload_n 0, 1) := by decide +kernel
theorem dX7_shareOf_21 : decode cX7_shareOf 21 = .ok (.getfield 17, 3) := by decide +kernel
theorem dX7_shareOf_24 : decode cX7_shareOf 24 = .ok (.iload_n 3, 1) := by decide +kernel
theorem dX7_shareOf_25 : decode cX7_shareOf 25 = .ok (.aaload, 1) := by decide +kernel
theorem dX7_shareOf_26 : decode cX7_shareOf 26 = .ok (.getfield 315, 3) := by decide +kernel
theorem dX7_shareOf_29 : decode cX7_shareOf 29 = .ok (.imul, 1) := by decide +kernel
theorem dX7_shareOf_30 : decode cX7_shareOf 30 = .ok (.iadd, 1) := by decide +kernel
theorem dX7_shareOf_31 : decode cX7_shareOf 31 = .ok (.istore_n 2, 1) := by decide +kernel
theorem dX7_shareOf_32 : decode cX7_shareOf 32 = .ok (.iinc 3 1, 3) := by decide +kernel
theorem dX7_shareOf_35 : decode cX7_shareOf 35 = .ok (.goto (-31), 3) := by decide +kernel
theorem dX7_shareOf_38 : decode cX7_shareOf 38 = .ok (.iload_n 2, 1) := by decide +kernel
theorem dX7_shareOf_39 : decode cX7_shareOf 39 = .ok (.ifCond .ne 7, 3) := by decide +kernel
theorem dX7_shareOf_42 : decode cX7_shareOf 42 = .ok (.iconst 0, 1) := by decide +kernel
theorem dX7_shareOf_43 : decode cX7_shareOf 43 = .ok (.goto 18, 3) := by decide +kernel
theorem dX7_shareOf_46 : decode cX7_shareOf 46 = .ok (.aload_n 1, 1) := by decide +kernel
theorem dX7_shareOf_47 : decode cX7_shareOf 47 = .ok (.getfield 139, 3) := by decide +kernel
theorem dX7_shareOf_50 : decode cX7_shareOf 50 = .ok (.aload_n 1, 1) := by decide +kernel
theorem dX7_shareOf_51 : decode cX7_shareOf 51 = .ok (.getfield 315, 3) := by decide +kernel
theorem dX7_shareOf_54 : decode cX7_shareOf 54 = .ok (.imul, 1) := by decide +kernel
theorem dX7_shareOf_55 : decode cX7_shareOf 55 = .ok (.sipush 1000, 3) := by decide +kernel
theorem dX7_shareOf_58 : decode cX7_shareOf 58 = .ok (.imul, 1) := by decide +kernel
theorem dX7_shareOf_59 : decode cX7_shareOf 59 = .ok (.iload_n 2, 1) := by decide +kernel
theorem dX7_shareOf_60 : decode cX7_shareOf 60 = .ok (.idiv, 1) := by decide +kernel
theorem dX7_shareOf_61 : decode cX7_shareOf 61 = .ok (.ireturn, 1) := by decide +kernel
set_option maxRecDepth 20000 in
theorem ggX7_areFixedOnesSound_X7_isFixedOneSound : GoodIn wsX7_areFixedOnesSound wsX7_isFixedOneSound := goodIn_r _ [8, 2, 9, 10, 11, 12, 3, 13, 14, 15, 16, 17, 18, 19, 20, 21, 22, 23, 24, 25, 26, 27, 28, 29, 30, 31, 32, 33, 34, 35, 36, 37, 38, 39, 40, 41, 42, 43, 44, 45, 46, 47, 48, 49, 50] (by decide +kernel) (by decide +kernel)
set_option maxRecDepth 20000 in
theorem gX7_areFixedOnesSound_X7_isFixedOneSound : GoodIn wsX7_areFixedOnesSound (wsV RX7 554 RX7 yX7_isFixedOneSound wsX7_isFixedOneSound) := goodIn_app (goodIn_of _ (by decide +kernel)) ggX7_areFixedOnesSound_X7_isFixedOneSound
theorem dX7_areFixedOnesSound_0 : decode cX7_areFixedOnesSound 0 = .ok (.iconst 0, 1) := by decide +kernel
theorem dX7_areFixedOnesSound_1 : decode cX7_areFixedOnesSound 1 = .ok (.istore_n 1, 1) := by decide +kernel
theorem dX7_areFixedOnesSound_2 : decode cX7_areFixedOnesSound 2 = .ok (.iload_n 1, 1) := by decide +kernel
theorem dX7_areFixedOnesSound_3 : decode cX7_areFixedOnesSound 3 = .ok (.aload_n 0, 1) := by decide +kernel
theorem dX7_areFixedOnesSound_4 : decode cX7_areFixedOnesSound 4 = .ok (.getfield 51, 3) := by decide +kernel
theorem dX7_areFixedOnesSound_7 : decode cX7_areFixedOnesSound 7 = .ok (.if_icmp .ge 32, 3) := by decide +kernel
theorem dX7_areFixedOnesSound_10 : decode cX7_areFixedOnesSound 10 = .ok (.aload_n 0, 1) := by decide +kernel
theorem dX7_areFixedOnesSound_11 : decode cX7_areFixedOnesSound 11 = .ok (.getfield 29, 3) := by decide +kernel
theorem dX7_areFixedOnesSound_14 : decode cX7_areFixedOnesSound 14 = .ok (.iload_n 1, 1) := by decide +kernel
theorem dX7_areFixedOnesSound_15 : decode cX7_areFixedOnesSound 15 = .ok (.aaload, 1) := by decide +kernel
theorem dX7_areFixedOnesSound_16 : decode cX7_areFixedOnesSound 16 = .ok (.getfield 233, 3) := by decide +kernel
theorem dX7_areFixedOnesSound_19 : decode cX7_areFixedOnesSound 19 = .ok (.iconst 1, 1) := by decide +kernel
theorem dX7_areFixedOnesSound_20 : decode cX7_areFixedOnesSound 20 = .ok (.if_icmp .ne 13, 3) := by decide +kernel
theorem dX7_areFixedOnesSound_23 : decode cX7_areFixedOnesSound 23 = .ok (.aload_n 0, 1) := by decide +kernel
theorem dX7_areFixedOnesSound_24 : decode cX7_areFixedOnesSound 24 = .ok (.iload_n 1, 1) := by decide +kernel
theorem dX7_areFixedOnesSound_25 : decode cX7_areFixedOnesSound 25 = .ok (.invokevirtual 554, 3) := by decide +kernel
theorem dX7_areFixedOnesSound_28 : decode cX7_areFixedOnesSound 28 = .ok (.ifCond .ne 5, 3) := by decide +kernel
theorem dX7_areFixedOnesSound_31 : decode cX7_areFixedOnesSound 31 = .ok (.iconst 0, 1) := by decide +kernel
theorem dX7_areFixedOnesSound_32 : decode cX7_areFixedOnesSound 32 = .ok (.ireturn, 1) := by decide +kernel
theorem dX7_areFixedOnesSound_33 : decode cX7_areFixedOnesSound 33 = .ok (.iinc 1 1, 3) := by decide +kernel
theorem dX7_areFixedOnesSound_36 : decode cX7_areFixedOnesSound 36 = .ok (.goto (-34), 3) := by decide +kernel
theorem dX7_areFixedOnesSound_39 : decode cX7_areFixedOnesSound 39 = .ok (.iconst 1, 1) := by decide +kernel
theorem dX7_areFixedOnesSound_40 : decode cX7_areFixedOnesSound 40 = .ok (.ireturn, 1) := by decide +kernel
set_option maxRecDepth 20000 in
theorem ggX7_isFixedOneSound_J6_bitCount_0f7a4 : GoodIn wsX7_isFixedOneSound wsJ6_bitCount_0f7a4 := goodIn_r _ [11, 12, 13, 14] (by decide +kernel) (by decide +kernel)
set_option maxRecDepth 20000 in
theorem gX7_isFixedOneSound_J6_bitCount_0f7a4 : GoodIn wsX7_isFixedOneSound (va_wsS RX7 128 yJ6_bitCount_0f7a4 wsJ6_bitCount_0f7a4) := goodIn_app (goodIn_of _ (by decide +kernel)) ggX7_isFixedOneSound_J6_bitCount_0f7a4
theorem dX7_isFixedOneSound_0 : decode cX7_isFixedOneSound 0 = .ok (.aload_n 0, 1) := by decide +kernel
theorem dX7_isFixedOneSound_1 : decode cX7_isFixedOneSound 1 = .ok (.getfield 29, 3) := by decide +kernel
theorem dX7_isFixedOneSound_4 : decode cX7_isFixedOneSound 4 = .ok (.iload_n 1, 1) := by decide +kernel
theorem dX7_isFixedOneSound_5 : decode cX7_isFixedOneSound 5 = .ok (.aaload, 1) := by decide +kernel
theorem dX7_isFixedOneSound_6 : decode cX7_isFixedOneSound 6 = .ok (.astore_n 2, 1) := by decide +kernel
theorem dX7_isFixedOneSound_7 : decode cX7_isFixedOneSound 7 = .ok (.aload_n 2, 1) := by decide +kernel
theorem dX7_isFixedOneSound_8 : decode cX7_isFixedOneSound 8 = .ok (.getfield 239, 3) := by decide +kernel
theorem dX7_isFixedOneSound_11 : decode cX7_isFixedOneSound 11 = .ok (.invokestatic 128, 3) := by decide +kernel
theorem dX7_isFixedOneSound_14 : decode cX7_isFixedOneSound 14 = .ok (.aload_n 0, 1) := by decide +kernel
theorem dX7_isFixedOneSound_15 : decode cX7_isFixedOneSound 15 = .ok (.getfield 23, 3) := by decide +kernel
theorem dX7_isFixedOneSound_18 : decode cX7_isFixedOneSound 18 = .ok (.aload_n 2, 1) := by decide +kernel
theorem dX7_isFixedOneSound_19 : decode cX7_isFixedOneSound 19 = .ok (.getfield 193, 3) := by decide +kernel
theorem dX7_isFixedOneSound_22 : decode cX7_isFixedOneSound 22 = .ok (.aaload, 1) := by decide +kernel
theorem dX7_isFixedOneSound_23 : decode cX7_isFixedOneSound 23 = .ok (.getfield 330, 3) := by decide +kernel
theorem dX7_isFixedOneSound_26 : decode cX7_isFixedOneSound 26 = .ok (.if_icmp .eq 5, 3) := by decide +kernel
theorem dX7_isFixedOneSound_29 : decode cX7_isFixedOneSound 29 = .ok (.iconst 0, 1) := by decide +kernel
theorem dX7_isFixedOneSound_30 : decode cX7_isFixedOneSound 30 = .ok (.ireturn, 1) := by decide +kernel
theorem dX7_isFixedOneSound_31 : decode cX7_isFixedOneSound 31 = .ok (.iconst 0, 1) := by decide +kernel
theorem dX7_isFixedOneSound_32 : decode cX7_isFixedOneSound 32 = .ok (.istore_n 3, 1) := by decide +kernel
theorem dX7_isFixedOneSound_33 : decode cX7_isFixedOneSound 33 = .ok (.iload_n 3, 1) := by decide +kernel
theorem dX7_isFixedOneSound_34 : decode cX7_isFixedOneSound 34 = .ok (.iload_n 1, 1) := by decide +kernel
theorem dX7_isFixedOneSound_35 : decode cX7_isFixedOneSound 35 = .ok (.if_icmp .ge 52, 3) := by decide +kernel
theorem dX7_isFixedOneSound_38 : decode cX7_isFixedOneSound 38 = .ok (.aload_n 0, 1) := by decide +kernel
theorem dX7_isFixedOneSound_39 : decode cX7_isFixedOneSound 39 = .ok (.getfield 29, 3) := by decide +kernel
theorem dX7_isFixedOneSound_42 : decode cX7_isFixedOneSound 42 = .ok (.iload_n 3, 1) := by decide +kernel
theorem dX7_isFixedOneSound_43 : decode cX7_isFixedOneSound 43 = .ok (.aaload, 1) := by decide +kernel
theorem dX7_isFixedOneSound_44 : decode cX7_isFixedOneSound 44 = .ok (.astore 4, 2) := by decide +kernel
theorem dX7_isFixedOneSound_46 : decode cX7_isFixedOneSound 46 = .ok (.aload 4, 2) := by decide +kernel
theorem dX7_isFixedOneSound_48 : decode cX7_isFixedOneSound 48 = .ok (.getfield 233, 3) := by decide +kernel
theorem dX7_isFixedOneSound_51 : decode cX7_isFixedOneSound 51 = .ok (.iconst 1, 1) := by decide +kernel
theorem dX7_isFixedOneSound_52 : decode cX7_isFixedOneSound 52 = .ok (.if_icmp .ne 29, 3) := by decide +kernel
theorem dX7_isFixedOneSound_55 : decode cX7_isFixedOneSound 55 = .ok (.aload 4, 2) := by decide +kernel
theorem dX7_isFixedOneSound_57 : decode cX7_isFixedOneSound 57 = .ok (.getfield 193, 3) := by decide +kernel
theorem dX7_isFixedOneSound_60 : decode cX7_isFixedOneSound 60 = .ok (.aload_n 2, 1) := by decide +kernel
theorem dX7_isFixedOneSound_61 : decode cX7_isFixedOneSound 61 = .ok (.getfield 193, 3) := by decide +kernel
theorem dX7_isFixedOneSound_64 : decode cX7_isFixedOneSound 64 = .ok (.if_icmp .ne 17, 3) := by decide +kernel
theorem dX7_isFixedOneSound_67 : decode cX7_isFixedOneSound 67 = .ok (.aload 4, 2) := by decide +kernel
theorem dX7_isFixedOneSound_69 : decode cX7_isFixedOneSound 69 = .ok (.getfield 196, 3) := by decide +kernel
theorem dX7_isFixedOneSound_72 : decode cX7_isFixedOneSound 72 = .ok (.aload_n 2, 1) := by decide +kernel
theorem dX7_isFixedOneSound_73 : decode cX7_isFixedOneSound 73 = .ok (.getfield 196, 3) := by decide +kernel
theorem dX7_isFixedOneSound_76 : decode cX7_isFixedOneSound 76 = .ok (.if_icmp .ne 5, 3) := by decide +kernel
theorem dX7_isFixedOneSound_79 : decode cX7_isFixedOneSound 79 = .ok (.iconst 0, 1) := by decide +kernel
theorem dX7_isFixedOneSound_80 : decode cX7_isFixedOneSound 80 = .ok (.ireturn, 1) := by decide +kernel
theorem dX7_isFixedOneSound_81 : decode cX7_isFixedOneSound 81 = .ok (.iinc 3 1, 3) := by decide +kernel
theorem dX7_isFixedOneSound_84 : decode cX7_isFixedOneSound 84 = .ok (.goto (-51), 3) := by decide +kernel
theorem dX7_isFixedOneSound_87 : decode cX7_isFixedOneSound 87 = .ok (.iconst 1, 1) := by decide +kernel
theorem dX7_isFixedOneSound_88 : decode cX7_isFixedOneSound 88 = .ok (.ireturn, 1) := by decide +kernel
set_option maxRecDepth 20000 in
theorem ggX7_isCashSound_X7_allEarned : GoodIn wsX7_isCashSound wsX7_allEarned := goodIn_r _ [9, 10, 11, 12, 13, 14, 15, 16, 17, 18, 19, 20, 21, 22, 23, 24, 25, 26, 27, 40, 41, 42, 43, 44, 45, 46, 47] (by decide +kernel) (by decide +kernel)
set_option maxRecDepth 20000 in
theorem gX7_isCashSound_X7_allEarned : GoodIn wsX7_isCashSound (wsV RX7 389 RX7 yX7_allEarned wsX7_allEarned) := goodIn_app (goodIn_of _ (by decide +kernel)) ggX7_isCashSound_X7_allEarned
theorem dX7_isCashSound_0 : decode cX7_isCashSound 0 = .ok (.iconst 0, 1) := by decide +kernel
theorem dX7_isCashSound_1 : decode cX7_isCashSound 1 = .ok (.istore_n 1, 1) := by decide +kernel
theorem dX7_isCashSound_2 : decode cX7_isCashSound 2 = .ok (.iconst 0, 1) := by decide +kernel
theorem dX7_isCashSound_3 : decode cX7_isCashSound 3 = .ok (.istore_n 2, 1) := by decide +kernel
theorem dX7_isCashSound_4 : decode cX7_isCashSound 4 = .ok (.iload_n 2, 1) := by decide +kernel
theorem dX7_isCashSound_5 : decode cX7_isCashSound 5 = .ok (.aload_n 0, 1) := by decide +kernel
theorem dX7_isCashSound_6 : decode cX7_isCashSound 6 = .ok (.getfield 51, 3) := by decide +kernel
theorem dX7_isCashSound_9 : decode cX7_isCashSound 9 = .ok (.if_icmp .ge 21, 3) := by decide +kernel
theorem dX7_isCashSound_12 : decode cX7_isCashSound 12 = .ok (.iload_n 1, 1) := by decide +kernel
theorem dX7_isCashSound_13 : decode cX7_isCashSound 13 = .ok (.aload_n 0, 1) := by decide +kernel
theorem dX7_isCashSound_14 : decode cX7_isCashSound 14 = .ok (.getfield 29, 3) := by decide +kernel
theorem dX7_isCashSound_17 : decode cX7_isCashSound 17 = .ok (.iload_n 2, 1) := by decide +kernel
theorem dX7_isCashSound_18 : decode cX7_isCashSound 18 = .ok (.aaload, 1) := by decide +kernel
theorem dX7_isCashSound_19 : decode cX7_isCashSound 19 = .ok (.getfield 260, 3) := by decide +kernel
theorem dX7_isCashSound_22 : decode cX7_isCashSound 22 = .ok (.iadd, 1) := by decide +kernel
theorem dX7_isCashSound_23 : decode cX7_isCashSound 23 = .ok (.istore_n 1, 1) := by decide +kernel
theorem dX7_isCashSound_24 : decode cX7_isCashSound 24 = .ok (.iinc 2 1, 3) := by decide +kernel
theorem dX7_isCashSound_27 : decode cX7_isCashSound 27 = .ok (.goto (-23), 3) := by decide +kernel
theorem dX7_isCashSound_30 : decode cX7_isCashSound 30 = .ok (.aload_n 0, 1) := by decide +kernel
theorem dX7_isCashSound_31 : decode cX7_isCashSound 31 = .ok (.getfield 57, 3) := by decide +kernel
theorem dX7_isCashSound_34 : decode cX7_isCashSound 34 = .ok (.iload_n 1, 1) := by decide +kernel
theorem dX7_isCashSound_35 : decode cX7_isCashSound 35 = .ok (.aload_n 0, 1) := by decide +kernel
theorem dX7_isCashSound_36 : decode cX7_isCashSound 36 = .ok (.invokevirtual 389, 3) := by decide +kernel
theorem dX7_isCashSound_39 : decode cX7_isCashSound 39 = .ok (.isub, 1) := by decide +kernel
theorem dX7_isCashSound_40 : decode cX7_isCashSound 40 = .ok (.if_icmp .ne 7, 3) := by decide +kernel
theorem dX7_isCashSound_43 : decode cX7_isCashSound 43 = .ok (.iconst 1, 1) := by decide +kernel
theorem dX7_isCashSound_44 : decode cX7_isCashSound 44 = .ok (.goto 4, 3) := by decide +kernel
theorem dX7_isCashSound_47 : decode cX7_isCashSound 47 = .ok (.iconst 0, 1) := by decide +kernel
theorem dX7_isCashSound_48 : decode cX7_isCashSound 48 = .ok (.ireturn, 1) := by decide +kernel
set_option maxRecDepth 20000 in
theorem ggX7_areHoursSound_J6_bitCount_0f7a4 : GoodIn wsX7_areHoursSound wsJ6_bitCount_0f7a4 := goodIn_r _ [12, 13, 14, 15] (by decide +kernel) (by decide +kernel)
set_option maxRecDepth 20000 in
theorem gX7_areHoursSound_J6_bitCount_0f7a4 : GoodIn wsX7_areHoursSound (va_wsS RX7 128 yJ6_bitCount_0f7a4 wsJ6_bitCount_0f7a4) := goodIn_app (goodIn_of _ (by decide +kernel)) ggX7_areHoursSound_J6_bitCount_0f7a4
theorem dX7_areHoursSound_0 : decode cX7_areHoursSound 0 = .ok (.iconst 0, 1) := by decide +kernel
theorem dX7_areHoursSound_1 : decode cX7_areHoursSound 1 = .ok (.istore_n 1, 1) := by decide +kernel
theorem dX7_areHoursSound_2 : decode cX7_areHoursSound 2 = .ok (.iconst 0, 1) := by decide +kernel
theorem dX7_areHoursSound_3 : decode cX7_areHoursSound 3 = .ok (.istore_n 2, 1) := by decide +kernel
theorem dX7_areHoursSound_4 : decode cX7_areHoursSound 4 = .ok (.iload_n 2, 1) := by decide +kernel
theorem dX7_areHoursSound_5 : decode cX7_areHoursSound 5 = .ok (.aload_n 0, 1) := by decide +kernel
theorem dX7_areHoursSound_6 : decode cX7_areHoursSound 6 = .ok (.getfield 44, 3) := by decide +kernel
theorem dX7_areHoursSound_9 : decode cX7_areHoursSound 9 = .ok (.if_icmp .ge 21, 3) := by decide +kernel
theorem dX7_areHoursSound_12 : decode cX7_areHoursSound 12 = .ok (.iload_n 1, 1) := by decide +kernel
theorem dX7_areHoursSound_13 : decode cX7_areHoursSound 13 = .ok (.aload_n 0, 1) := by decide +kernel
theorem dX7_areHoursSound_14 : decode cX7_areHoursSound 14 = .ok (.getfield 11, 3) := by decide +kernel
theorem dX7_areHoursSound_17 : decode cX7_areHoursSound 17 = .ok (.iload_n 2, 1) := by decide +kernel
theorem dX7_areHoursSound_18 : decode cX7_areHoursSound 18 = .ok (.aaload, 1) := by decide +kernel
theorem dX7_areHoursSound_19 : decode cX7_areHoursSound 19 = .ok (.getfield 310, 3) := by decide +kernel
theorem dX7_areHoursSound_22 : decode cX7_areHoursSound 22 = .ok (.iadd, 1) := by decide +kernel
theorem dX7_areHoursSound_23 : decode cX7_areHoursSound 23 = .ok (.istore_n 1, 1) := by decide +kernel
theorem dX7_areHoursSound_24 : decode cX7_areHoursSound 24 = .ok (.iinc 2 1, 3) := by decide +kernel
theorem dX7_areHoursSound_27 : decode cX7_areHoursSound 27 = .ok (.goto (-23), 3) := by decide +kernel
theorem dX7_areHoursSound_30 : decode cX7_areHoursSound 30 = .ok (.iconst 0, 1) := by decide +kernel
theorem dX7_areHoursSound_31 : decode cX7_areHoursSound 31 = .ok (.istore_n 2, 1) := by decide +kernel
theorem dX7_areHoursSound_32 : decode cX7_areHoursSound 32 = .ok (.iload_n 2, 1) := by decide +kernel
theorem dX7_areHoursSound_33 : decode cX7_areHoursSound 33 = .ok (.aload_n 0, 1) := by decide +kernel
theorem dX7_areHoursSound_34 : decode cX7_areHoursSound 34 = .ok (.getfield 51, 3) := by decide +kernel
theorem dX7_areHoursSound_37 : decode cX7_areHoursSound 37 = .ok (.if_icmp .ge 47, 3) := by decide +kernel
theorem dX7_areHoursSound_40 : decode cX7_areHoursSound 40 = .ok (.aload_n 0, 1) := by decide +kernel
theorem dX7_areHoursSound_41 : decode cX7_areHoursSound 41 = .ok (.getfield 29, 3) := by decide +kernel
theorem dX7_areHoursSound_44 : decode cX7_areHoursSound 44 = .ok (.iload_n 2, 1) := by decide +kernel
theorem dX7_areHoursSound_45 : decode cX7_areHoursSound 45 = .ok (.aaload, 1) := by decide +kernel
theorem dX7_areHoursSound_46 : decode cX7_areHoursSound 46 = .ok (.getfield 233, 3) := by decide +kernel
theorem dX7_areHoursSound_49 : decode cX7_areHoursSound 49 = .ok (.iconst 2, 1) := by decide +kernel
theorem dX7_areHoursSound_50 : decode cX7_areHoursSound 50 = .ok (.if_icmp .ne 28, 3) := by decide +kernel
theorem dX7_areHoursSound_53 : decode cX7_areHoursSound 53 = .ok (.iload_n 1, 1) := by decide +kernel
theorem dX7_areHoursSound_54 : decode cX7_areHoursSound 54 = .ok (.aload_n 0, 1) := by decide +kernel
theorem dX7_areHoursSound_55 : decode cX7_areHoursSound 55 = .ok (.getfield 29, 3) := by decide +kernel
theorem dX7_areHoursSound_58 : decode cX7_areHoursSound 58 = .ok (.iload_n 2, 1) := by decide +kernel
theorem dX7_areHoursSound_59 : decode cX7_areHoursSound 59 = .ok (.aaload, 1) := by decide +kernel
theorem dX7_areHoursSound_60 : decode cX7_areHoursSound 60 = .ok (.getfield 205, 3) := by decide +kernel
theorem dX7_areHoursSound_63 : decode cX7_areHoursSound 63 = .ok (.aload_n 0, 1) := by decide +kernel
theorem dX7_areHoursSound_64 : decode cX7_areHoursSound 64 = .ok (.getfield 29, 3) := by decide +kernel
theorem dX7_areHoursSound_67 : decode cX7_areHoursSound 67 = .ok (.iload_n 2, 1) := by decide +kernel
theorem dX7_areHoursSound_68 : decode cX7_areHoursSound 68 = .ok (.aaload, 1) := by decide +kernel
theorem dX7_areHoursSound_69 : decode cX7_areHoursSound 69 = .ok (.getfield 239, 3) := by decide +kernel
theorem dX7_areHoursSound_72 : decode cX7_areHoursSound 72 = .ok (.invokestatic 128, 3) := by decide +kernel
theorem dX7_areHoursSound_75 : decode cX7_areHoursSound 75 = .ok (.imul, 1) := by decide +kernel
theorem dX7_areHoursSound_76 : decode cX7_areHoursSound 76 = .ok (.isub, 1) := by decide +kernel
theorem dX7_areHoursSound_77 : decode cX7_areHoursSound 77 = .ok (.istore_n 1, 1) := by decide +kernel
theorem dX7_areHoursSound_78 : decode cX7_areHoursSound 78 = .ok (.iinc 2 1, 3) := by decide +kernel
theorem dX7_areHoursSound_81 : decode cX7_areHoursSound 81 = .ok (.goto (-49), 3) := by decide +kernel
theorem dX7_areHoursSound_84 : decode cX7_areHoursSound 84 = .ok (.iload_n 1, 1) := by decide +kernel
theorem dX7_areHoursSound_85 : decode cX7_areHoursSound 85 = .ok (.ifCond .ne 7, 3) := by decide +kernel
theorem dX7_areHoursSound_88 : decode cX7_areHoursSound 88 = .ok (.iconst 1, 1) := by decide +kernel
theorem dX7_areHoursSound_89 : decode cX7_areHoursSound 89 = .ok (.goto 4, 3) := by decide +kernel
theorem dX7_areHoursSound_92 : decode cX7_areHoursSound 92 = .ok (.iconst 0, 1) := by decide +kernel
theorem dX7_areHoursSound_93 : decode cX7_areHoursSound 93 = .ok (.ireturn, 1) := by decide +kernel
set_option maxRecDepth 20000 in
theorem ggX7_areSharesSound_X7_shareOf : GoodIn wsX7_areSharesSound wsX7_shareOf := goodIn_r _ [6, 1, 7, 8, 9, 10, 11, 12, 13, 14, 15, 16, 17, 18, 19, 20, 21, 22, 23, 24, 25, 26, 27] (by decide +kernel) (by decide +kernel)
set_option maxRecDepth 20000 in
theorem gX7_areSharesSound_X7_shareOf : GoodIn wsX7_areSharesSound (wsV RX7 316 RX7 yX7_shareOf wsX7_shareOf) := goodIn_app (goodIn_of _ (by decide +kernel)) ggX7_areSharesSound_X7_shareOf
theorem dX7_areSharesSound_0 : decode cX7_areSharesSound 0 = .ok (.iconst 0, 1) := by decide +kernel
theorem dX7_areSharesSound_1 : decode cX7_areSharesSound 1 = .ok (.istore_n 1, 1) := by decide +kernel
theorem dX7_areSharesSound_2 : decode cX7_areSharesSound 2 = .ok (.iconst 0, 1) := by decide +kernel
theorem dX7_areSharesSound_3 : decode cX7_areSharesSound 3 = .ok (.istore_n 2, 1) := by decide +kernel
theorem dX7_areSharesSound_4 : decode cX7_areSharesSound 4 = .ok (.iload_n 2, 1) := by decide +kernel
theorem dX7_areSharesSound_5 : decode cX7_areSharesSound 5 = .ok (.bipush 16, 2) := by decide +kernel
theorem dX7_areSharesSound_7 : decode cX7_areSharesSound 7 = .ok (.if_icmp .ge 22, 3) := by decide +kernel
theorem dX7_areSharesSound_10 : decode cX7_areSharesSound 10 = .ok (.iload_n 1, 1) := by decide +kernel
theorem dX7_areSharesSound_11 : decode cX7_areSharesSound 11 = .ok (.aload_n 0, 1) := by decide +kernel
theorem dX7_areSharesSound_12 : decode cX7_areSharesSound 12 = .ok (.aload_n 0, 1) := by decide +kernel
theorem dX7_areSharesSound_13 : decode cX7_areSharesSound 13 = .ok (.getfield 17, 3) := by decide +kernel
theorem dX7_areSharesSound_16 : decode cX7_areSharesSound 16 = .ok (.iload_n 2, 1) := by decide +kernel
theorem dX7_areSharesSound_17 : decode cX7_areSharesSound 17 = .ok (.aaload, 1) := by decide +kernel
theorem dX7_areSharesSound_18 : decode cX7_areSharesSound 18 = .ok (.invokevirtual 316, 3) := by decide +kernel
theorem dX7_areSharesSound_21 : decode cX7_areSharesSound 21 = .ok (.iadd, 1) := by decide +kernel
theorem dX7_areSharesSound_22 : decode cX7_areSharesSound 22 = .ok (.istore_n 1, 1) := by decide +kernel
theorem dX7_areSharesSound_23 : decode cX7_areSharesSound 23 = .ok (.iinc 2 1, 3) := by decide +kernel
theorem dX7_areSharesSound_26 : decode cX7_areSharesSound 26 = .ok (.goto (-22), 3) := by decide +kernel
theorem dX7_areSharesSound_29 : decode cX7_areSharesSound 29 = .ok (.iload_n 1, 1) := by decide +kernel
theorem dX7_areSharesSound_30 : decode cX7_areSharesSound 30 = .ok (.sipush 1000, 3) := by decide +kernel
theorem dX7_areSharesSound_33 : decode cX7_areSharesSound 33 = .ok (.if_icmp .gt 7, 3) := by decide +kernel
theorem dX7_areSharesSound_36 : decode cX7_areSharesSound 36 = .ok (.iconst 1, 1) := by decide +kernel
theorem dX7_areSharesSound_37 : decode cX7_areSharesSound 37 = .ok (.goto 4, 3) := by decide +kernel
theorem dX7_areSharesSound_40 : decode cX7_areSharesSound 40 = .ok (.iconst 0, 1) := by decide +kernel
theorem dX7_areSharesSound_41 : decode cX7_areSharesSound 41 = .ok (.ireturn, 1) := by decide +kernel
theorem dJ6_bitCount_0f7a4_0 : decode cJ6_bitCount_0f7a4 0 = .ok (.iload_n 0, 1) := by decide +kernel
theorem dJ6_bitCount_0f7a4_1 : decode cJ6_bitCount_0f7a4 1 = .ok (.iload_n 0, 1) := by decide +kernel
theorem dJ6_bitCount_0f7a4_2 : decode cJ6_bitCount_0f7a4 2 = .ok (.iconst 1, 1) := by decide +kernel
theorem dJ6_bitCount_0f7a4_3 : decode cJ6_bitCount_0f7a4 3 = .ok (.iushr, 1) := by decide +kernel
theorem dJ6_bitCount_0f7a4_4 : decode cJ6_bitCount_0f7a4 4 = .ok (.ldc_w 265, 3) := by decide +kernel
theorem dJ6_bitCount_0f7a4_7 : decode cJ6_bitCount_0f7a4 7 = .ok (.iand, 1) := by decide +kernel
theorem dJ6_bitCount_0f7a4_8 : decode cJ6_bitCount_0f7a4 8 = .ok (.isub, 1) := by decide +kernel
theorem dJ6_bitCount_0f7a4_9 : decode cJ6_bitCount_0f7a4 9 = .ok (.istore_n 0, 1) := by decide +kernel
theorem dJ6_bitCount_0f7a4_10 : decode cJ6_bitCount_0f7a4 10 = .ok (.iload_n 0, 1) := by decide +kernel
theorem dJ6_bitCount_0f7a4_11 : decode cJ6_bitCount_0f7a4 11 = .ok (.ldc_w 266, 3) := by decide +kernel
theorem dJ6_bitCount_0f7a4_14 : decode cJ6_bitCount_0f7a4 14 = .ok (.iand, 1) := by decide +kernel
theorem dJ6_bitCount_0f7a4_15 : decode cJ6_bitCount_0f7a4 15 = .ok (.iload_n 0, 1) := by decide +kernel
theorem dJ6_bitCount_0f7a4_16 : decode cJ6_bitCount_0f7a4 16 = .ok (.iconst 2, 1) := by decide +kernel
theorem dJ6_bitCount_0f7a4_17 : decode cJ6_bitCount_0f7a4 17 = .ok (.iushr, 1) := by decide +kernel
theorem dJ6_bitCount_0f7a4_18 : decode cJ6_bitCount_0f7a4 18 = .ok (.ldc_w 266, 3) := by decide +kernel
theorem dJ6_bitCount_0f7a4_21 : decode cJ6_bitCount_0f7a4 21 = .ok (.iand, 1) := by decide +kernel
theorem dJ6_bitCount_0f7a4_22 : decode cJ6_bitCount_0f7a4 22 = .ok (.iadd, 1) := by decide +kernel
theorem dJ6_bitCount_0f7a4_23 : decode cJ6_bitCount_0f7a4 23 = .ok (.istore_n 0, 1) := by decide +kernel
theorem dJ6_bitCount_0f7a4_24 : decode cJ6_bitCount_0f7a4 24 = .ok (.iload_n 0, 1) := by decide +kernel
theorem dJ6_bitCount_0f7a4_25 : decode cJ6_bitCount_0f7a4 25 = .ok (.iload_n 0, 1) := by decide +kernel
theorem dJ6_bitCount_0f7a4_26 : decode cJ6_bitCount_0f7a4 26 = .ok (.iconst 4, 1) := by decide +kernel
theorem dJ6_bitCount_0f7a4_27 : decode cJ6_bitCount_0f7a4 27 = .ok (.iushr, 1) := by decide +kernel
theorem dJ6_bitCount_0f7a4_28 : decode cJ6_bitCount_0f7a4 28 = .ok (.iadd, 1) := by decide +kernel
theorem dJ6_bitCount_0f7a4_29 : decode cJ6_bitCount_0f7a4 29 = .ok (.ldc_w 267, 3) := by decide +kernel
theorem dJ6_bitCount_0f7a4_32 : decode cJ6_bitCount_0f7a4 32 = .ok (.iand, 1) := by decide +kernel
theorem dJ6_bitCount_0f7a4_33 : decode cJ6_bitCount_0f7a4 33 = .ok (.istore_n 0, 1) := by decide +kernel
theorem dJ6_bitCount_0f7a4_34 : decode cJ6_bitCount_0f7a4 34 = .ok (.iload_n 0, 1) := by decide +kernel
theorem dJ6_bitCount_0f7a4_35 : decode cJ6_bitCount_0f7a4 35 = .ok (.iload_n 0, 1) := by decide +kernel
theorem dJ6_bitCount_0f7a4_36 : decode cJ6_bitCount_0f7a4 36 = .ok (.bipush 8, 2) := by decide +kernel
theorem dJ6_bitCount_0f7a4_38 : decode cJ6_bitCount_0f7a4 38 = .ok (.iushr, 1) := by decide +kernel
theorem dJ6_bitCount_0f7a4_39 : decode cJ6_bitCount_0f7a4 39 = .ok (.iadd, 1) := by decide +kernel
theorem dJ6_bitCount_0f7a4_40 : decode cJ6_bitCount_0f7a4 40 = .ok (.istore_n 0, 1) := by decide +kernel
theorem dJ6_bitCount_0f7a4_41 : decode cJ6_bitCount_0f7a4 41 = .ok (.iload_n 0, 1) := by decide +kernel
theorem dJ6_bitCount_0f7a4_42 : decode cJ6_bitCount_0f7a4 42 = .ok (.iload_n 0, 1) := by decide +kernel
theorem dJ6_bitCount_0f7a4_43 : decode cJ6_bitCount_0f7a4 43 = .ok (.bipush 16, 2) := by decide +kernel
theorem dJ6_bitCount_0f7a4_45 : decode cJ6_bitCount_0f7a4 45 = .ok (.iushr, 1) := by decide +kernel
theorem dJ6_bitCount_0f7a4_46 : decode cJ6_bitCount_0f7a4 46 = .ok (.iadd, 1) := by decide +kernel
theorem dJ6_bitCount_0f7a4_47 : decode cJ6_bitCount_0f7a4 47 = .ok (.istore_n 0, 1) := by decide +kernel
theorem dJ6_bitCount_0f7a4_48 : decode cJ6_bitCount_0f7a4 48 = .ok (.iload_n 0, 1) := by decide +kernel
theorem dJ6_bitCount_0f7a4_49 : decode cJ6_bitCount_0f7a4 49 = .ok (.bipush 63, 2) := by decide +kernel
theorem dJ6_bitCount_0f7a4_51 : decode cJ6_bitCount_0f7a4 51 = .ok (.iand, 1) := by decide +kernel
theorem dJ6_bitCount_0f7a4_52 : decode cJ6_bitCount_0f7a4 52 = .ok (.ireturn, 1) := by decide +kernel
theorem dJ9_abs_0f7a4_0 : decode cJ9_abs_0f7a4 0 = .ok (.iload_n 0, 1) := by decide +kernel
theorem dJ9_abs_0f7a4_1 : decode cJ9_abs_0f7a4 1 = .ok (.ifCond .ge 8, 3) := by decide +kernel
theorem dJ9_abs_0f7a4_4 : decode cJ9_abs_0f7a4 4 = .ok (.iload_n 0, 1) := by decide +kernel
theorem dJ9_abs_0f7a4_5 : decode cJ9_abs_0f7a4 5 = .ok (.ineg, 1) := by decide +kernel
theorem dJ9_abs_0f7a4_6 : decode cJ9_abs_0f7a4 6 = .ok (.goto 4, 3) := by decide +kernel
theorem dJ9_abs_0f7a4_9 : decode cJ9_abs_0f7a4 9 = .ok (.iload_n 0, 1) := by decide +kernel
theorem dJ9_abs_0f7a4_10 : decode cJ9_abs_0f7a4 10 = .ok (.ireturn, 1) := by decide +kernel
theorem dJ9_max_7cf53_0 : decode cJ9_max_7cf53 0 = .ok (.iload_n 0, 1) := by decide +kernel
theorem dJ9_max_7cf53_1 : decode cJ9_max_7cf53 1 = .ok (.iload_n 1, 1) := by decide +kernel
theorem dJ9_max_7cf53_2 : decode cJ9_max_7cf53 2 = .ok (.if_icmp .lt 7, 3) := by decide +kernel
theorem dJ9_max_7cf53_5 : decode cJ9_max_7cf53 5 = .ok (.iload_n 0, 1) := by decide +kernel
theorem dJ9_max_7cf53_6 : decode cJ9_max_7cf53 6 = .ok (.goto 4, 3) := by decide +kernel
theorem dJ9_max_7cf53_9 : decode cJ9_max_7cf53 9 = .ok (.iload_n 1, 1) := by decide +kernel
theorem dJ9_max_7cf53_10 : decode cJ9_max_7cf53 10 = .ok (.ireturn, 1) := by decide +kernel
theorem dJ9_min_7cf53_0 : decode cJ9_min_7cf53 0 = .ok (.iload_n 0, 1) := by decide +kernel
theorem dJ9_min_7cf53_1 : decode cJ9_min_7cf53 1 = .ok (.iload_n 1, 1) := by decide +kernel
theorem dJ9_min_7cf53_2 : decode cJ9_min_7cf53 2 = .ok (.if_icmp .gt 7, 3) := by decide +kernel
theorem dJ9_min_7cf53_5 : decode cJ9_min_7cf53 5 = .ok (.iload_n 0, 1) := by decide +kernel
theorem dJ9_min_7cf53_6 : decode cJ9_min_7cf53 6 = .ok (.goto 4, 3) := by decide +kernel
theorem dJ9_min_7cf53_9 : decode cJ9_min_7cf53 9 = .ok (.iload_n 1, 1) := by decide +kernel
theorem dJ9_min_7cf53_10 : decode cJ9_min_7cf53 10 = .ok (.ireturn, 1) := by decide +kernel
