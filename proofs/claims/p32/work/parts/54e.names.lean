set_option maxRecDepth 20000 in
theorem zz_L_agency_0 : GoodIn wsL_law wsL_agency_r1 := goodIn_r _ [5, 6, 7, 8, 0, 9, 10, 11, 12, 13, 14, 15, 16, 17, 18, 19, 20, 21, 22, 23, 24, 25, 26, 27] (by decide +kernel) (by decide +kernel)
set_option maxRecDepth 20000 in
theorem zz_L_agency_1 : GoodIn wsL_law wsL_agency_r2 := goodIn_r _ [28, 29, 30, 31, 32, 33, 34, 35, 36, 37, 38, 39, 40, 41, 42, 43, 44, 45, 46, 47, 48, 49, 50, 51] (by decide +kernel) (by decide +kernel)
set_option maxRecDepth 20000 in
theorem zz_L_agency_2 : GoodIn wsL_law wsL_agency_r3 := goodIn_r _ [52, 53, 54, 55, 56, 57, 58, 59, 60, 61, 62, 63, 64, 65, 66, 67, 68, 69, 70, 71, 72, 73, 74, 75] (by decide +kernel) (by decide +kernel)
set_option maxRecDepth 20000 in
theorem zz_L_agency_3 : GoodIn wsL_law wsL_agency_r4 := goodIn_r _ [76, 77, 78, 79, 80, 81, 82, 83, 84, 85, 86, 87, 88, 89, 90, 91, 92, 93, 94, 95, 96, 97, 98, 99] (by decide +kernel) (by decide +kernel)
set_option maxRecDepth 20000 in
theorem zz_L_agency_4 : GoodIn wsL_law wsL_agency_r5 := goodIn_r _ [100, 101, 102, 103, 104, 105, 106, 107, 108, 109, 110, 111, 112, 113, 114, 115, 116, 117, 118, 119, 3, 120, 121, 122] (by decide +kernel) (by decide +kernel)
set_option maxRecDepth 20000 in
theorem zz_L_agency_5 : GoodIn wsL_law wsL_agency_r6 := goodIn_r _ [123, 124, 125, 126, 127, 128, 129, 130, 131, 132, 133, 134, 135, 136, 137, 138, 139, 140, 141, 142, 143, 144, 145, 146] (by decide +kernel) (by decide +kernel)
set_option maxRecDepth 20000 in
theorem zz_L_agency_6 : GoodIn wsL_law wsL_agency_r7 := goodIn_r _ [147, 148, 149, 150, 151, 152, 153, 154, 155, 156, 157, 158, 159, 160, 161, 162, 163, 164, 165, 166, 167, 168, 169, 170] (by decide +kernel) (by decide +kernel)
set_option maxRecDepth 20000 in
theorem zz_L_agency_7 : GoodIn wsL_law wsL_agency_r8 := goodIn_r _ [171, 172, 173, 174, 175, 176, 177, 178, 179, 180, 181, 182, 183, 184, 185, 186, 187, 188, 189, 190, 191, 192, 193, 194] (by decide +kernel) (by decide +kernel)
set_option maxRecDepth 20000 in
theorem zz_L_agency_8 : GoodIn wsL_law wsL_agency_r9 := goodIn_r _ [195, 196, 197, 198, 199, 200, 201, 202, 203, 204, 205, 206, 207, 208, 209, 210, 211, 212, 213, 214, 215, 216, 217, 218] (by decide +kernel) (by decide +kernel)
set_option maxRecDepth 20000 in
theorem zz_L_agency_9 : GoodIn wsL_law wsL_agency_r10 := goodIn_r _ [219, 220, 221, 222, 223, 224, 225, 226, 227, 228, 229, 230, 231, 232, 233, 234, 235, 236, 237, 238, 239, 240, 241, 242] (by decide +kernel) (by decide +kernel)
set_option maxRecDepth 20000 in
theorem zz_L_agency_10 : GoodIn wsL_law wsL_agency_r11 := goodIn_r _ [243, 244, 245, 246, 247, 248, 249, 250, 251, 252, 253, 254, 255, 256, 257, 258, 259, 260, 261, 262, 263, 264, 265, 266] (by decide +kernel) (by decide +kernel)
set_option maxRecDepth 20000 in
theorem zz_L_agency_11 : GoodIn wsL_law wsL_agency_r12 := goodIn_r _ [267] (by decide +kernel) (by decide +kernel)
set_option maxRecDepth 20000 in
theorem zx_L_agency_X7 : GoodIn wsL_law wsX70 := goodIn_r _ [553, 554, 555, 556, 557, 558, 559, 560, 561, 562, 563, 564, 565, 566, 567] (by decide +kernel) (by decide +kernel)
set_option maxRecDepth 20000 in
theorem zx_L_agency_X4 : GoodIn wsL_law wsX40 := goodIn_r _ [568, 569] (by decide +kernel) (by decide +kernel)
set_option maxRecDepth 20000 in
theorem zx_L_agency_X2 : GoodIn wsL_law wsX20 := goodIn_r _ [570, 571, 572, 573, 574, 575] (by decide +kernel) (by decide +kernel)
set_option maxRecDepth 20000 in
theorem zx_L_agency_X1 : GoodIn wsL_law wsX10 := goodIn_r _ [576, 577, 578, 579, 580, 581, 582] (by decide +kernel) (by decide +kernel)
set_option maxRecDepth 20000 in
theorem zx_L_agency_X3 : GoodIn wsL_law wsX30 := goodIn_r _ [583, 584, 585, 586, 587, 588, 589, 590] (by decide +kernel) (by decide +kernel)
set_option maxRecDepth 20000 in
theorem zx_L_agency_X5 : GoodIn wsL_law wsX50 := goodIn_r _ [591, 592, 593, 594] (by decide +kernel) (by decide +kernel)
set_option maxRecDepth 20000 in
theorem zx_L_agency_X0 : GoodIn wsL_law wsX00 := goodIn_r _ [595, 596, 597] (by decide +kernel) (by decide +kernel)
set_option maxRecDepth 20000 in
theorem zx_L_agency_X6 : GoodIn wsL_law wsX60 := goodIn_r _ [598, 599, 600, 601, 602, 603, 604, 605, 606, 607, 608, 609] (by decide +kernel) (by decide +kernel)
set_option maxRecDepth 20000 in
theorem zz_L_agency_c : GoodIn wsL_law [Cond.code yL_agency cL_agency 6 (some (.object "FirstdanceAgency"))] := goodIn_r _ [4] (by decide +kernel) (by decide +kernel)
set_option maxRecDepth 20000 in
theorem zz_L_agency : GoodIn wsL_law (Cond.code yL_agency cL_agency 6 (some (.object "FirstdanceAgency")) :: ((wsL_agency_r1 ++ (wsL_agency_r2 ++ (wsL_agency_r3 ++ (wsL_agency_r4 ++ (wsL_agency_r5 ++ (wsL_agency_r6 ++ (wsL_agency_r7 ++ (wsL_agency_r8 ++ (wsL_agency_r9 ++ (wsL_agency_r10 ++ (wsL_agency_r11 ++ (wsL_agency_r12)))))))))))) ++ wsX70 ++ wsX40 ++ wsX20 ++ wsX10 ++ wsX30 ++ wsX50 ++ wsX00 ++ wsX60)) := goodIn_app zz_L_agency_c (goodIn_app (goodIn_app (goodIn_app (goodIn_app (goodIn_app (goodIn_app (goodIn_app (goodIn_app (goodIn_app zz_L_agency_0 (goodIn_app zz_L_agency_1 (goodIn_app zz_L_agency_2 (goodIn_app zz_L_agency_3 (goodIn_app zz_L_agency_4 (goodIn_app zz_L_agency_5 (goodIn_app zz_L_agency_6 (goodIn_app zz_L_agency_7 (goodIn_app zz_L_agency_8 (goodIn_app zz_L_agency_9 (goodIn_app zz_L_agency_10 (zz_L_agency_11)))))))))))) zx_L_agency_X7) zx_L_agency_X4) zx_L_agency_X2) zx_L_agency_X1) zx_L_agency_X3) zx_L_agency_X5) zx_L_agency_X0) zx_L_agency_X6)
set_option maxRecDepth 20000 in
theorem ggL_law_L_agency : GoodIn wsL_law wsL_agency := goodIn_ca (goodIn_ca (goodIn_ca (zz_L_agency) (goodIn_sub (fun _ h => List.mem_append_left _ (List.mem_append_left _ (List.mem_append_right _ h))) (by decide +kernel))) (goodIn_sub (fun _ h => List.mem_append_left _ (List.mem_append_right _ h)) (by decide +kernel))) (goodIn_sub (fun _ h => List.mem_append_right _ h) (by decide +kernel))
set_option maxRecDepth 20000 in
theorem gL_law_L_agency : GoodIn wsL_law (va_wsS RL 83 yL_agency wsL_agency) := goodIn_app (goodIn_of _ (by decide +kernel)) ggL_law_L_agency
