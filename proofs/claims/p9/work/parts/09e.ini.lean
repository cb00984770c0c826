set_option maxHeartbeats 8000000 in
set_option maxRecDepth 100000 in
theorem c_X7_init (l : Launch) (D : va_G) (cy : Nat → ClassId) (lay : Nat → Nat) (X : Nat → Option va_E) (h0 : X 0 = some (.inr (12, [.null, .null, .null, .null, .null, .null, .int 0, .int 0, .int 0, .int 0, .int 0, .null, .null, .null, .null]))) (hn : ∀ i, 1 ≤ i → i < 87 → X i = none) (sz : Nat) : Met l yX7_init wsX7_init rm_X7_init (va_Pc [.ref (lay 0)] (gIn D cy lay X sz)) (va_Qv (inPost cy lay X) (gO D (gA lay X sz)) (gA lay X sz)) 86 2009 (gA lay X sz) := by
  refine g_ofW (cc := cX7_init) (maxL := 2) (ret := none) (own := RX7) (Qc := fun sz => va_Qv (inPost cy lay X) (gO D (gA lay X sz)) (gA lay X sz)) (by decide) rfl (Nat.le_of_ble_eq_true rfl) rfl ?_
  intro p e s m args below meth c ls hC hr hlocks hname hT G hl
  have hl : lv_has ls 2 [(0, .ref (lay 0))] := hl
  have hA : ∀ q, s.heap.size ≤ q → gA lay X s.heap.size q := fun _ h => Or.inr h
  refine lv_aload_n hC.1 hC.2.1 dX7_init_0 rfl (lv_at hl 0 rfl) ?_
  refine W.objInit hC.1 hC.2.1 hC.2.2.2.1 (hC.2.2.2.2 _ (wm 1 rfl)) (hC.2.2.2.2 _ (wm 2 rfl)) (hC.2.2.2.2 _ (wm 3 rfl)) rfl (by rw [hC.2.2.1]; exact hl.1) rfl dX7_init_1 (Nat.le_of_ble_eq_true rfl) (Nat.le_of_ble_eq_true rfl) ?_
  refine W.eq (g2 := F0 m 4 ls []) rfl ?_
  refine lv_aload_n hC.1 hC.2.1 dX7_init_4 rfl (lv_at hl 0 rfl) ?_
  refine lv_bipush (v := 10) hC.1 hC.2.1 dX7_init_5 (by decide) ?_
  refine g_newq (k := 1) (t := 2) (C := RX3) (N := 10) hC hT G hA (hn 1 (by decide) (by decide)) rfl (List.mem_of_getElem? (i := 0) rfl) (wm 4 rfl) (by decide) (by decide) (by decide) (Nat.le_of_ble_eq_true rfl) (Nat.le_of_ble_eq_true rfl) dX7_init_7 (fun q1 H G => ?_)
  rw [gU_eq]
  refine g_putFA (k := 0) rfl hC hT.1 G (by decide) ((gU_ne (by decide)).trans h0) k_X7 i_X7_init_X7 0 (by decide) (wm 5 rfl) rfl hname rfl rfl rfl (by simp) dX7_init_10 (fun H locs G => ?_)
  refine lv_aload_n hC.1 hC.2.1 dX7_init_13 rfl (lv_at hl 0 rfl) ?_
  refine lv_bipush (v := 16) hC.1 hC.2.1 dX7_init_14 (by decide) ?_
  refine g_newq (k := 2) (t := 3) (C := RX5) (N := 16) hC hT G hA ((gU_ne (by decide)).trans ((gU_ne (by decide)).trans (hn 2 (by decide) (by decide)))) rfl (List.mem_of_getElem? (i := 1) rfl) (wm 6 rfl) (by decide) (by decide) (by decide) (Nat.le_of_ble_eq_true rfl) (Nat.le_of_ble_eq_true rfl) dX7_init_16 (fun q2 H G => ?_)
  rw [gU_eq]
  refine g_putFA (k := 0) rfl hC hT.1 G (by decide) ((gU_ne (by decide)).trans gU_eq) k_X7 i_X7_init_X7 1 (by decide) (wm 7 rfl) rfl hname rfl rfl rfl (by simp) dX7_init_19 (fun H locs G => ?_)
  refine lv_aload_n hC.1 hC.2.1 dX7_init_22 rfl (lv_at hl 0 rfl) ?_
  refine lv_bipush (v := 6) hC.1 hC.2.1 dX7_init_23 (by decide) ?_
  refine g_newq (k := 3) (t := 4) (C := RX0) (N := 6) hC hT G hA ((gU_ne (by decide)).trans ((gU_ne (by decide)).trans ((gU_ne (by decide)).trans ((gU_ne (by decide)).trans (hn 3 (by decide) (by decide)))))) rfl (List.mem_of_getElem? (i := 2) rfl) (wm 8 rfl) (by decide) (by decide) (by decide) (Nat.le_of_ble_eq_true rfl) (Nat.le_of_ble_eq_true rfl) dX7_init_25 (fun q3 H G => ?_)
  rw [gU_eq]
  refine g_putFA (k := 0) rfl hC hT.1 G (by decide) ((gU_ne (by decide)).trans gU_eq) k_X7 i_X7_init_X7 2 (by decide) (wm 9 rfl) rfl hname rfl rfl rfl (by simp) dX7_init_28 (fun H locs G => ?_)
  refine lv_aload_n hC.1 hC.2.1 dX7_init_31 rfl (lv_at hl 0 rfl) ?_
  refine lv_bipush (v := 14) hC.1 hC.2.1 dX7_init_32 (by decide) ?_
  refine g_newq (k := 4) (t := 5) (C := RX6) (N := 14) hC hT G hA ((gU_ne (by decide)).trans ((gU_ne (by decide)).trans ((gU_ne (by decide)).trans ((gU_ne (by decide)).trans ((gU_ne (by decide)).trans ((gU_ne (by decide)).trans (hn 4 (by decide) (by decide)))))))) rfl (List.mem_of_getElem? (i := 3) rfl) (wm 10 rfl) (by decide) (by decide) (by decide) (Nat.le_of_ble_eq_true rfl) (Nat.le_of_ble_eq_true rfl) dX7_init_34 (fun q4 H G => ?_)
  rw [gU_eq]
  refine g_putFA (k := 0) rfl hC hT.1 G (by decide) ((gU_ne (by decide)).trans gU_eq) k_X7 i_X7_init_X7 3 (by decide) (wm 11 rfl) rfl hname rfl rfl rfl (by simp) dX7_init_37 (fun H locs G => ?_)
  refine lv_aload_n hC.1 hC.2.1 dX7_init_40 rfl (lv_at hl 0 rfl) ?_
  refine g_new (k := 5) (fs := [.null, .null]) hC hT.1 G hA ((gU_ne (by decide)).trans ((gU_ne (by decide)).trans ((gU_ne (by decide)).trans ((gU_ne (by decide)).trans ((gU_ne (by decide)).trans ((gU_ne (by decide)).trans ((gU_ne (by decide)).trans ((gU_ne (by decide)).trans (hn 5 (by decide) (by decide)))))))))) k_X4 i_X7_init_X4 (wm 12 rfl) (wm 13 rfl) (wm 14 rfl) df_X4 (Nat.le_of_ble_eq_true rfl) (Nat.le_of_ble_eq_true rfl) dX7_init_41 (fun q5 H G => ?_)
  rw [gU_eq]
  refine lv_dup hC.1 hC.2.1 dX7_init_44 rfl ?_
  refine g_v (post := rdPost cy _ _) G hA (g_runI (b := gU (gU (gU (gU (gU lay 1 q1) 2 q2) 3 q3) 4 q4) 5 q5 5) (As := []) (rest := [.ref q5, .ref (lay 0)]) hC hT G (c_X4_init l D cy _ _ gU_eq (fun i h1 h2 => ((gU_ne (by omega)).trans ((gU_ne (by omega)).trans ((gU_ne (by omega)).trans ((gU_ne (by omega)).trans ((gU_ne (by omega)).trans ((gU_ne (by omega)).trans ((gU_ne (by omega)).trans ((gU_ne (by omega)).trans ((gU_ne (by omega)).trans (hn i (by omega) (by omega)))))))))))) _) ⟨callB_of 0 hC.2.2.2.2 ggX7_init_X4_init rfl rfl rfl (hC.2.2.2.2 (.initialized RX4) (wm 14 rfl)) (hC.2.2.2.2 (.methodLink RX7 35 yX4_init) (wm 42 rfl)) hdI_X4 ⟨Nat.le_of_ble_eq_true rfl, Nat.le_of_ble_eq_true rfl⟩, rfl, hC.2.2.2.2 (.instanceMethod yX4_init) (wm 43 rfl)⟩ rfl hl.1 rfl (Nat.le_of_ble_eq_true rfl) dX7_init_45 ⟨Nat.le_of_ble_eq_true rfl, Nat.le_of_ble_eq_true rfl⟩) (fun Y H locs hY G => ?_)
  obtain ⟨lay5, Z5⟩ := Y
  obtain ⟨hl5, hZ5⟩ := hY
  dsimp only at hl5 hZ5 G
  subst hZ5
  have e0 : lay5 0 = lay 0 := hl5 0 (by decide)
  have e1 : lay5 1 = q1 := hl5 1 (by decide)
  have e2 : lay5 2 = q2 := hl5 2 (by decide)
  have e3 : lay5 3 = q3 := hl5 3 (by decide)
  have e4 : lay5 4 = q4 := hl5 4 (by decide)
  have e5 : lay5 5 = q5 := hl5 5 (by decide)
  have e87 : ∀ i, 87 ≤ i → lay5 i = lay i := fun i hi => (hl5 i (by omega)).trans ((gU_ne (by omega)).trans ((gU_ne (by omega)).trans ((gU_ne (by omega)).trans ((gU_ne (by omega)).trans ((gU_ne (by omega)))))))
  refine g_putFA (k := 0) e0 hC hT.1 G (by decide) ((rdX_lo (by decide) (by decide) (by decide)).trans ((gU_ne (by decide)).trans gU_eq)) k_X7 i_X7_init_X7 4 (by decide) (wm 15 rfl) rfl hname rfl rfl rfl (by simp) dX7_init_48 (fun H locs G => ?_)
  refine lv_aload_n hC.1 hC.2.1 dX7_init_51 rfl (lv_at hl 0 rfl) ?_
  refine lv_sipush (v := 366) hC.1 hC.2.1 dX7_init_52 (by decide) ?_
  refine g_newa_i (k := 6) (N := 366) hC hT G hA ((gU_ne (by decide)).trans ((rdX_lo (by decide) (by decide) (by decide)).trans ((gU_ne (by decide)).trans ((gU_ne (by decide)).trans ((gU_ne (by decide)).trans ((gU_ne (by decide)).trans ((gU_ne (by decide)).trans ((gU_ne (by decide)).trans ((gU_ne (by decide)).trans ((gU_ne (by decide)).trans ((gU_ne (by decide)).trans (hn 6 (by decide) (by decide))))))))))))) (wm 16 rfl) (by decide) (by decide) (by decide) (Nat.le_of_ble_eq_true rfl) (Nat.le_of_ble_eq_true rfl) dX7_init_55 (fun q6 H G => ?_)
  rw [gU_eq]
  refine g_putFA (k := 0) ((gU_ne (by decide)).trans e0) hC hT.1 G (by decide) ((gU_ne (by decide)).trans gU_eq) k_X7 i_X7_init_X7 5 (by decide) (wm 17 rfl) rfl hname rfl rfl rfl (by simp) dX7_init_57 (fun H locs G => ?_)
  refine lv_aload_n hC.1 hC.2.1 dX7_init_60 rfl (lv_at hl 0 rfl) ?_
  refine lv_iconst (v := 0) hC.1 hC.2.1 dX7_init_61 (by decide) ?_
  refine g_putA (k := 0) ((gU_ne (by decide)).trans e0) hC hT.1 G (by decide) gU_eq k_X7 i_X7_init_X7 6 (by decide) (wm 18 rfl) rfl rfl rfl (by simp) dX7_init_62 (fun H locs G => ?_)
  refine lv_aload_n hC.1 hC.2.1 dX7_init_65 rfl (lv_at hl 0 rfl) ?_
  refine lv_iconst (v := 0) hC.1 hC.2.1 dX7_init_66 (by decide) ?_
  refine g_putA (k := 0) ((gU_ne (by decide)).trans e0) hC hT.1 G (by decide) gU_eq k_X7 i_X7_init_X7 7 (by decide) (wm 19 rfl) rfl rfl rfl (by simp) dX7_init_67 (fun H locs G => ?_)
  refine lv_aload_n hC.1 hC.2.1 dX7_init_70 rfl (lv_at hl 0 rfl) ?_
  refine lv_iconst (v := 0) hC.1 hC.2.1 dX7_init_71 (by decide) ?_
  refine g_putA (k := 0) ((gU_ne (by decide)).trans e0) hC hT.1 G (by decide) gU_eq k_X7 i_X7_init_X7 8 (by decide) (wm 20 rfl) rfl rfl rfl (by simp) dX7_init_72 (fun H locs G => ?_)
  refine lv_aload_n hC.1 hC.2.1 dX7_init_75 rfl (lv_at hl 0 rfl) ?_
  refine lv_iconst (v := 0) hC.1 hC.2.1 dX7_init_76 (by decide) ?_
  refine g_putA (k := 0) ((gU_ne (by decide)).trans e0) hC hT.1 G (by decide) gU_eq k_X7 i_X7_init_X7 9 (by decide) (wm 21 rfl) rfl rfl rfl (by simp) dX7_init_77 (fun H locs G => ?_)
  refine lv_aload_n hC.1 hC.2.1 dX7_init_80 rfl (lv_at hl 0 rfl) ?_
  refine lv_iconst (v := 0) hC.1 hC.2.1 dX7_init_81 (by decide) ?_
  refine g_putA (k := 0) ((gU_ne (by decide)).trans e0) hC hT.1 G (by decide) gU_eq k_X7 i_X7_init_X7 10 (by decide) (wm 22 rfl) rfl rfl rfl (by simp) dX7_init_82 (fun H locs G => ?_)
  refine lv_aload_n hC.1 hC.2.1 dX7_init_85 rfl (lv_at hl 0 rfl) ?_
  refine lv_bipush (v := 14) hC.1 hC.2.1 dX7_init_86 (by decide) ?_
  refine g_newa_i (k := 7) (N := 14) hC hT G hA ((gU_ne (by decide)).trans ((gU_ne (by decide)).trans ((gU_ne (by decide)).trans ((gU_ne (by decide)).trans ((gU_ne (by decide)).trans ((gU_ne (by decide)).trans ((gU_ne (by decide)).trans ((gU_ne (by decide)).trans ((rdX_lo (by decide) (by decide) (by decide)).trans ((gU_ne (by decide)).trans ((gU_ne (by decide)).trans ((gU_ne (by decide)).trans ((gU_ne (by decide)).trans ((gU_ne (by decide)).trans ((gU_ne (by decide)).trans ((gU_ne (by decide)).trans ((gU_ne (by decide)).trans ((gU_ne (by decide)).trans (hn 7 (by decide) (by decide)))))))))))))))))))) (wm 16 rfl) (by decide) (by decide) (by decide) (Nat.le_of_ble_eq_true rfl) (Nat.le_of_ble_eq_true rfl) dX7_init_88 (fun q7 H G => ?_)
  rw [gU_eq]
  refine g_putFA (k := 0) ((gU_ne (by decide)).trans ((gU_ne (by decide)).trans e0)) hC hT.1 G (by decide) ((gU_ne (by decide)).trans gU_eq) k_X7 i_X7_init_X7 11 (by decide) (wm 23 rfl) rfl hname rfl rfl rfl (by simp) dX7_init_90 (fun H locs G => ?_)
  refine lv_aload_n hC.1 hC.2.1 dX7_init_93 rfl (lv_at hl 0 rfl) ?_
  refine lv_sipush (v := 1024) hC.1 hC.2.1 dX7_init_94 (by decide) ?_
  refine g_newa_z (k := 8) (N := 1024) hC hT G hA ((gU_ne (by decide)).trans ((gU_ne (by decide)).trans ((gU_ne (by decide)).trans ((gU_ne (by decide)).trans ((gU_ne (by decide)).trans ((gU_ne (by decide)).trans ((gU_ne (by decide)).trans ((gU_ne (by decide)).trans ((gU_ne (by decide)).trans ((gU_ne (by decide)).trans ((rdX_lo (by decide) (by decide) (by decide)).trans ((gU_ne (by decide)).trans ((gU_ne (by decide)).trans ((gU_ne (by decide)).trans ((gU_ne (by decide)).trans ((gU_ne (by decide)).trans ((gU_ne (by decide)).trans ((gU_ne (by decide)).trans ((gU_ne (by decide)).trans ((gU_ne (by decide)).trans (hn 8 (by decide) (by decide)))))))))))))))))))))) (wm 24 rfl) (by decide) (by decide) (by decide) (Nat.le_of_ble_eq_true rfl) (Nat.le_of_ble_eq_true rfl) dX7_init_97 (fun q8 H G => ?_)
  rw [gU_eq]
  refine g_putFA (k := 0) ((gU_ne (by decide)).trans ((gU_ne (by decide)).trans ((gU_ne (by decide)).trans e0))) hC hT.1 G (by decide) ((gU_ne (by decide)).trans gU_eq) k_X7 i_X7_init_X7 12 (by decide) (wm 25 rfl) rfl hname rfl rfl rfl (by simp) dX7_init_99 (fun H locs G => ?_)
  refine lv_aload_n hC.1 hC.2.1 dX7_init_102 rfl (lv_at hl 0 rfl) ?_
  refine g_new (k := 9) (fs := [.int 0, .int 0, .int 0, .int 0, .int 0, .int 0]) hC hT.1 G hA ((gU_ne (by decide)).trans ((gU_ne (by decide)).trans ((gU_ne (by decide)).trans ((gU_ne (by decide)).trans ((gU_ne (by decide)).trans ((gU_ne (by decide)).trans ((gU_ne (by decide)).trans ((gU_ne (by decide)).trans ((gU_ne (by decide)).trans ((gU_ne (by decide)).trans ((gU_ne (by decide)).trans ((gU_ne (by decide)).trans ((rdX_lo (by decide) (by decide) (by decide)).trans ((gU_ne (by decide)).trans ((gU_ne (by decide)).trans ((gU_ne (by decide)).trans ((gU_ne (by decide)).trans ((gU_ne (by decide)).trans ((gU_ne (by decide)).trans ((gU_ne (by decide)).trans ((gU_ne (by decide)).trans ((gU_ne (by decide)).trans (hn 9 (by decide) (by decide)))))))))))))))))))))))) k_X2 i_X7_init_X2 (wm 26 rfl) (wm 27 rfl) (wm 28 rfl) df_X2 (Nat.le_of_ble_eq_true rfl) (Nat.le_of_ble_eq_true rfl) dX7_init_103 (fun q9 H G => ?_)
  rw [gU_eq]
  refine lv_dup hC.1 hC.2.1 dX7_init_106 rfl ?_
  refine g_v G hA (g_runIN (host := RX7) (b := (gU (gU (gU (gU lay5 6 q6) 7 q7) 8 q8) 9 q9) 9) (As := []) (rest := [.ref q9, .ref (lay 0)]) hC hT G (c_X2_init l D cy _ _ (k := 9) (by decide) gU_eq  _) ⟨va_cnB 0 hC.2.2.2.2 ggX7_init_X2_init rfl rfl rfl (hT.2.1 _ (wm 28 rfl)) (hC.2.2.2.2 (.initialized RX2) (wm 28 rfl)) hdI_X2 ⟨Nat.le_of_ble_eq_true rfl, Nat.le_of_ble_eq_true rfl⟩, rfl, hC.2.2.2.2 (.instanceMethod yX2_init) (wm 49 rfl)⟩ rfl hl.1 rfl (Nat.le_of_ble_eq_true rfl) dX7_init_107 ⟨Nat.le_of_ble_eq_true rfl, Nat.le_of_ble_eq_true rfl⟩) (fun Y H locs hY G => ?_)
  subst hY
  dsimp only at G
  refine g_putFA (k := 0) ((gU_ne (by decide)).trans ((gU_ne (by decide)).trans ((gU_ne (by decide)).trans ((gU_ne (by decide)).trans e0)))) hC hT.1 G (by decide) ((gU_ne (by decide)).trans ((gU_ne (by decide)).trans gU_eq)) k_X7 i_X7_init_X7 13 (by decide) (wm 29 rfl) rfl hname rfl rfl rfl (by simp) dX7_init_110 (fun H locs G => ?_)
  refine lv_aload_n hC.1 hC.2.1 dX7_init_113 rfl (lv_at hl 0 rfl) ?_
  refine g_new (k := 10) (fs := [.null, .int 0, .int 0, .null, .null, .null, .int 0]) hC hT.1 G hA ((gU_ne (by decide)).trans ((gU_ne (by decide)).trans ((gU_ne (by decide)).trans ((gU_ne (by decide)).trans ((gU_ne (by decide)).trans ((gU_ne (by decide)).trans ((gU_ne (by decide)).trans ((gU_ne (by decide)).trans ((gU_ne (by decide)).trans ((gU_ne (by decide)).trans ((gU_ne (by decide)).trans ((gU_ne (by decide)).trans ((gU_ne (by decide)).trans ((gU_ne (by decide)).trans ((gU_ne (by decide)).trans ((rdX_lo (by decide) (by decide) (by decide)).trans ((gU_ne (by decide)).trans ((gU_ne (by decide)).trans ((gU_ne (by decide)).trans ((gU_ne (by decide)).trans ((gU_ne (by decide)).trans ((gU_ne (by decide)).trans ((gU_ne (by decide)).trans ((gU_ne (by decide)).trans ((gU_ne (by decide)).trans (hn 10 (by decide) (by decide))))))))))))))))))))))))))) k_X1 i_X7_init_X1 (wm 30 rfl) (wm 31 rfl) (wm 32 rfl) df_X1 (Nat.le_of_ble_eq_true rfl) (Nat.le_of_ble_eq_true rfl) dX7_init_114 (fun q10 H G => ?_)
  rw [gU_eq]
  refine lv_dup hC.1 hC.2.1 dX7_init_117 rfl ?_
  refine g_v G hA (g_runIN (host := RX7) (b := (gU (gU (gU (gU (gU lay5 6 q6) 7 q7) 8 q8) 9 q9) 10 q10) 10) (As := []) (rest := [.ref q10, .ref (lay 0)]) hC hT G (c_X1_init l D cy _ _ (k := 10) (by decide) gU_eq (k1 := 11) ((gU_ne (by decide)).trans ((gU_ne (by decide)).trans ((gU_ne (by decide)).trans ((gU_ne (by decide)).trans ((gU_ne (by decide)).trans ((gU_ne (by decide)).trans ((gU_ne (by decide)).trans ((gU_ne (by decide)).trans ((gU_ne (by decide)).trans ((gU_ne (by decide)).trans ((gU_ne (by decide)).trans ((gU_ne (by decide)).trans ((gU_ne (by decide)).trans ((gU_ne (by decide)).trans ((gU_ne (by decide)).trans ((gU_ne (by decide)).trans ((rdX_lo (by decide) (by decide) (by decide)).trans ((gU_ne (by decide)).trans ((gU_ne (by decide)).trans ((gU_ne (by decide)).trans ((gU_ne (by decide)).trans ((gU_ne (by decide)).trans ((gU_ne (by decide)).trans ((gU_ne (by decide)).trans ((gU_ne (by decide)).trans ((gU_ne (by decide)).trans (hn 11 (by decide) (by decide)))))))))))))))))))))))))))) (k2 := 12) ((gU_ne (by decide)).trans ((gU_ne (by decide)).trans ((gU_ne (by decide)).trans ((gU_ne (by decide)).trans ((gU_ne (by decide)).trans ((gU_ne (by decide)).trans ((gU_ne (by decide)).trans ((gU_ne (by decide)).trans ((gU_ne (by decide)).trans ((gU_ne (by decide)).trans ((gU_ne (by decide)).trans ((gU_ne (by decide)).trans ((gU_ne (by decide)).trans ((gU_ne (by decide)).trans ((gU_ne (by decide)).trans ((gU_ne (by decide)).trans ((rdX_lo (by decide) (by decide) (by decide)).trans ((gU_ne (by decide)).trans ((gU_ne (by decide)).trans ((gU_ne (by decide)).trans ((gU_ne (by decide)).trans ((gU_ne (by decide)).trans ((gU_ne (by decide)).trans ((gU_ne (by decide)).trans ((gU_ne (by decide)).trans ((gU_ne (by decide)).trans (hn 12 (by decide) (by decide)))))))))))))))))))))))))))) (k3 := 13) ((gU_ne (by decide)).trans ((gU_ne (by decide)).trans ((gU_ne (by decide)).trans ((gU_ne (by decide)).trans ((gU_ne (by decide)).trans ((gU_ne (by decide)).trans ((gU_ne (by decide)).trans ((gU_ne (by decide)).trans ((gU_ne (by decide)).trans ((gU_ne (by decide)).trans ((gU_ne (by decide)).trans ((gU_ne (by decide)).trans ((gU_ne (by decide)).trans ((gU_ne (by decide)).trans ((gU_ne (by decide)).trans ((gU_ne (by decide)).trans ((rdX_lo (by decide) (by decide) (by decide)).trans ((gU_ne (by decide)).trans ((gU_ne (by decide)).trans ((gU_ne (by decide)).trans ((gU_ne (by decide)).trans ((gU_ne (by decide)).trans ((gU_ne (by decide)).trans ((gU_ne (by decide)).trans ((gU_ne (by decide)).trans ((gU_ne (by decide)).trans (hn 13 (by decide) (by decide)))))))))))))))))))))))))))) (k4 := 14) ((gU_ne (by decide)).trans ((gU_ne (by decide)).trans ((gU_ne (by decide)).trans ((gU_ne (by decide)).trans ((gU_ne (by decide)).trans ((gU_ne (by decide)).trans ((gU_ne (by decide)).trans ((gU_ne (by decide)).trans ((gU_ne (by decide)).trans ((gU_ne (by decide)).trans ((gU_ne (by decide)).trans ((gU_ne (by decide)).trans ((gU_ne (by decide)).trans ((gU_ne (by decide)).trans ((gU_ne (by decide)).trans ((gU_ne (by decide)).trans ((rdX_lo (by decide) (by decide) (by decide)).trans ((gU_ne (by decide)).trans ((gU_ne (by decide)).trans ((gU_ne (by decide)).trans ((gU_ne (by decide)).trans ((gU_ne (by decide)).trans ((gU_ne (by decide)).trans ((gU_ne (by decide)).trans ((gU_ne (by decide)).trans ((gU_ne (by decide)).trans (hn 14 (by decide) (by decide)))))))))))))))))))))))))))) (by decide) (by decide) (by decide) (by decide) (by decide) (by decide) (by decide) (by decide) (by decide) (by decide) (by decide) (by decide) (by decide) (by decide) (by decide) (by decide) (by decide) (by decide) (by decide) (by decide) _) ⟨va_cnB 0 hC.2.2.2.2 ggX7_init_X1_init rfl rfl rfl (hT.2.1 _ (wm 29 rfl)) (hC.2.2.2.2 (.initialized RX1) (wm 32 rfl)) hdI_X1 ⟨Nat.le_of_ble_eq_true rfl, Nat.le_of_ble_eq_true rfl⟩, rfl, hC.2.2.2.2 (.instanceMethod yX1_init) (wm 58 rfl)⟩ rfl hl.1 rfl (Nat.le_of_ble_eq_true rfl) dX7_init_118 ⟨Nat.le_of_ble_eq_true rfl, Nat.le_of_ble_eq_true rfl⟩) (fun Y H locs hY G => ?_)
  obtain ⟨q11, q12, q13, q14, hY⟩ := hY
  subst hY
  dsimp only at G
  refine g_putFA (k := 0) ((gU_ne (by decide)).trans ((gU_ne (by decide)).trans ((gU_ne (by decide)).trans ((gU_ne (by decide)).trans ((gU_ne (by decide)).trans ((gU_ne (by decide)).trans ((gU_ne (by decide)).trans ((gU_ne (by decide)).trans ((gU_ne (by decide)).trans e0))))))))) hC hT.1 G (by decide) ((gU_ne (by decide)).trans ((gU_ne (by decide)).trans ((gU_ne (by decide)).trans ((gU_ne (by decide)).trans ((gU_ne (by decide)).trans ((gU_ne (by decide)).trans ((gU_ne (by decide)).trans ((gU_ne (by decide)).trans ((gU_ne (by decide)).trans gU_eq))))))))) k_X7 i_X7_init_X7 14 (by decide) (wm 33 rfl) rfl hname rfl rfl rfl (by simp) dX7_init_121 (fun H locs G => ?_)
  refine lv_iconst (v := 0) hC.1 hC.2.1 dX7_init_124 (by decide) ?_
  refine lv_istore_n (lv' := [(1, .int 0), (0, .ref (lay 0))]) hC.1 hC.2.1 dX7_init_125 rfl hl (by decide) rfl (fun ls hl => ?_)
  refine l_X7_init_126 hC hr hlocks hT 10 0 (by omega) (gU (gU (gU (gU (gU (gU (gU (gU (gU lay5 6 q6) 7 q7) 8 q8) 9 q9) 10 q10) 11 q11) 12 q12) 13 q13) 14 q14) H locs ls ⟨by show lay5 0 = lay 0; exact e0, fun i hi => ?_⟩ (gG_eq (fun k hk => ?_) G) (lv_sub hl [1, 0] rfl)
  · rw [gU_ne (by omega : i ≠ 14), gU_ne (by omega : i ≠ 13), gU_ne (by omega : i ≠ 12), gU_ne (by omega : i ≠ 11), gU_ne (by omega : i ≠ 10), gU_ne (by omega : i ≠ 9), gU_ne (by omega : i ≠ 8), gU_ne (by omega : i ≠ 7), gU_ne (by omega : i ≠ 6)]
    exact e87 i hi
  · subst e1 e2 e3 e4 e5
    by_cases k29 : 29 ≤ k
    · refine Eq.trans (b := X k) ?_ ?_
      · repeat first | rw [gU_ne (by omega)] | rw [rdX_lo (by omega) (by omega) trivial]
      · by_cases k87 : k < 87
        · rw [hn k (by omega) k87, inX_no k87 (by unfold inDone; omega)]
        · unfold inX
          repeat rw [if_neg (by omega)]
    · have k29 : k < 29 := by omega
      clear hl5 G hl
      match k, k29 with
      | 0, _ => rfl
      | 1, _ => rfl
      | 2, _ => rfl
      | 3, _ => rfl
      | 4, _ => rfl
      | 5, _ => rfl
      | 6, _ => rfl
      | 7, _ => rfl
      | 8, _ => rfl
      | 9, _ => rfl
      | 10, _ => rfl
      | 11, _ => rfl
      | 12, _ => rfl
      | 13, _ => rfl
      | 14, _ => rfl
      | 15, _ => exact congrArg (fun z => some (Sum.inl (cy 6, 6, Sum.inr (Sum.inr (Sum.inr (Sum.inr z)))))) (rfs_lay (lay := lay5) fun j hj => by repeat rw [gU_ne (by omega)])
      | 16, _ => exact congrArg (fun z => some (Sum.inl (cy 6, 6, Sum.inr (Sum.inr (Sum.inr (Sum.inr z)))))) (rfs_lay (lay := lay5) fun j hj => by repeat rw [gU_ne (by omega)])
      | 17, _ => rfl
      | 18, _ => rfl
      | 19, _ => rfl
      | 20, _ => rfl
      | 21, _ => rfl
      | 22, _ => rfl
      | 23, _ => rfl
      | 24, _ => rfl
      | 25, _ => rfl
      | 26, _ => rfl
      | 27, _ => rfl
      | 28, _ => rfl
      | n + 29, h => exact absurd h (by omega)
