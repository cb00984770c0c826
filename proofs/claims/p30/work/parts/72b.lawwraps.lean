/-! THE LAW'S WRAPPERS: a call of the class's in 'try', its answer into Out -/
theorem i_L_player_X8 : ∀ w ∈ wsX80, w ∈ wsL_player ++ lkL := fun w h => List.mem_append_left _ (by unfold wsL_player; simp only [List.mem_cons, List.mem_append, h, true_or, or_true])
abbrev rm_L_player : Room := { frames := 7, cells := 1, slots := 6, locals := 107 }
set_option maxHeartbeats 4000000 in
set_option maxRecDepth 100000 in
theorem c_L_player (l : Launch) (hl0 : l.stackTraces = false) (D : va_G) (cy : Nat → ClassId) (lay : Nat → Nat) (o : Nat) {u : OU} {post : Int32 → OU → Prop} {a1 : Int32} {a2 : Int32} {a3 : Int32} {a4 : Int32} (h : w_T_X7_player (fun v τ => post 0 (τ, Int32.toInt64 v, u.2.2)) (fun E τ => (E = xIO ∧ post 1 (τ, u.2)) ∨ (E = xIA ∧ post 2 (τ, u.2)) ∨ (E = xIS ∧ post 3 (τ, u.2))) u.1 a1 a2 a3 a4) (sz : Nat) : Met l yL_player (wsL_player ++ lkL) rm_L_player (va_Pc [.ref (lay 0), .int a1, .int a2, .int a3, .int a4, .ref o] (woI D cy lay o u sz)) (va_Qi post (woO D cy lay o) (woA lay o sz)) 1 6 (woA lay o sz) := by
  refine wo_ofH (cc := cL_player) (maxL := 7) (ret := some .int) (own := RL) (hh := [(0, 15, 18, 19), (0, 15, 22, 21), (0, 15, 26, 23)]) (I := woI D cy lay o u) (Qc := fun sz => va_Qi post (woO D cy lay o) (woA lay o sz)) (fr := woA lay o) woI_sz (by decide) rfl (Nat.le_of_ble_eq_true rfl) rfl ?_
  intro p e s m args below meth c ls hC hr hlocks htab hI hl
  obtain ⟨hT, Ga⟩ := wo_of hI.1
  have G : woG D cy lay o u s s.heap [] := ⟨hI.2.1.1, hI.2.1.2, va_S.rf⟩
  have hl : lv_has ls 7 [(0, .ref (lay 0)), (1, .int a1), (2, .int a2), (3, .int a3), (4, .int a4), (5, .ref o)] := hl
  refine lv_aload hC.1 hC.2.1 dL_player_0 (lv_at hl 5 rfl) ?_
  refine lv_aload_n hC.1 hC.2.1 dL_player_2 rfl (lv_at hl 0 rfl) ?_
  refine lv_iload_n hC.1 hC.2.1 dL_player_3 rfl (lv_at hl 1 rfl) ?_
  refine lv_iload_n hC.1 hC.2.1 dL_player_4 rfl (lv_at hl 2 rfl) ?_
  refine lv_iload_n hC.1 hC.2.1 dL_player_5 rfl (lv_at hl 3 rfl) ?_
  refine lv_iload hC.1 hC.2.1 dL_player_6 (lv_at hl 4 rfl) ?_
  refine wo_iC G (ag_runVT (As := [.int a1, .int a2, .int a3, .int a4]) (rest := [.ref o]) hC hT Ga (c_T_X7_player l hl0 D cy lay h _) (cwV 4 hC.2.2.2.2 (gM_w gL_player_X7_player) rfl rfl rfl hdV_X7_player ⟨Nat.le_of_ble_eq_true rfl, Nat.le_of_ble_eq_true rfl⟩) (ag_recv hT Ga (by decide) e_ag k_X7) rfl hl.1 rfl (Nat.le_of_ble_eq_true rfl) dL_player_8 ⟨Nat.le_of_ble_eq_true rfl, Nat.le_of_ble_eq_true rfl⟩) (fun E9 ce9 q9 σ1 H locs h G hc1 hc2 hc3 => ?_) (fun v1 σ1 H locs h G => ?_)
  · (try dsimp only at h)
    rcases h with h | h
    · skip
      obtain ⟨rfl, h⟩ := h
      refine vx_catch (own := RL) (name := xIO) hC.2.2.2.1 [] ⟨0, 15, 18, 19⟩ [⟨0, 15, 22, 21⟩, ⟨0, 15, 26, 23⟩] htab (fun z hz => by cases hz) (by decide) (by decide) (hC.2.2.2.2 _ lk0) (nest_use _ rfl (hT.2.1 _ (wm 3 rfl))) hc1 hc2 hc3 ?_
      refine lv_astore (lv' := [(6, .ref q9), (0, .ref (lay 0)), (1, .int a1), (2, .int a2), (3, .int a3), (4, .int a4), (5, .ref o)]) hC.1 hC.2.1 dL_player_18 hl (by decide) rfl (fun ls hl => ?_)
      refine lv_iconst (v := 1) hC.1 hC.2.1 dL_player_20 (by decide) ?_
      refine W.widen (k := 1) (n := 6) (by decide) (by decide) ?_
      exact wo_iret hC hr hlocks G h dL_player_21
    rcases h with h | h
    · skip
      obtain ⟨rfl, h⟩ := h
      refine vx_catch (own := RL) (name := xIA) hC.2.2.2.1 [⟨0, 15, 18, 19⟩] ⟨0, 15, 22, 21⟩ [⟨0, 15, 26, 23⟩] htab (fun z hz => by
          rw [List.mem_singleton] at hz
          subst hz
          exact Or.inr ⟨by decide, _, hC.2.2.2.2 _ lk0, hI.2.2 (xIA, xIO) (by decide +kernel)⟩) (by decide) (by decide) (hC.2.2.2.2 _ lk1) (nest_use _ rfl (hT.2.1 _ (wm 4 rfl))) hc1 hc2 hc3 ?_
      refine lv_astore (lv' := [(6, .ref q9), (0, .ref (lay 0)), (1, .int a1), (2, .int a2), (3, .int a3), (4, .int a4), (5, .ref o)]) hC.1 hC.2.1 dL_player_22 hl (by decide) rfl (fun ls hl => ?_)
      refine lv_iconst (v := 2) hC.1 hC.2.1 dL_player_24 (by decide) ?_
      refine W.widen (k := 1) (n := 6) (by decide) (by decide) ?_
      exact wo_iret hC hr hlocks G h dL_player_25
    obtain ⟨rfl, h⟩ := h
    refine vx_catch (own := RL) (name := xIS) hC.2.2.2.1 [⟨0, 15, 18, 19⟩, ⟨0, 15, 22, 21⟩] ⟨0, 15, 26, 23⟩ [] htab (fun z hz => by
        rcases List.mem_cons.mp hz with rfl | hz
        · exact Or.inr ⟨by decide, _, hC.2.2.2.2 _ lk0, hI.2.2 (xIS, xIO) (by decide +kernel)⟩
        rw [List.mem_singleton] at hz
        subst hz
        exact Or.inr ⟨by decide, _, hC.2.2.2.2 _ lk1, hI.2.2 (xIS, xIA) (by decide +kernel)⟩) (by decide) (by decide) (hC.2.2.2.2 _ lk2) (nest_use _ rfl (hT.2.1 _ (wm 5 rfl))) hc1 hc2 hc3 ?_
    refine lv_astore (lv' := [(6, .ref q9), (0, .ref (lay 0)), (1, .int a1), (2, .int a2), (3, .int a3), (4, .int a4), (5, .ref o)]) hC.1 hC.2.1 dL_player_26 hl (by decide) rfl (fun ls hl => ?_)
    refine lv_iconst (v := 3) hC.1 hC.2.1 dL_player_28 (by decide) ?_
    refine W.widen (k := 1) (n := 6) (by decide) (by decide) ?_
    exact wo_iret hC hr hlocks G h dL_player_29
  (try dsimp only at h)
  refine lv_i2l (v := Int32.toInt64 v1) hC.1 hC.2.1 dL_player_11 rfl ?_
  refine wo_putn hC hT.1 G i_L_player_X8 (nest_use _ rfl (hT.2.1 _ (wm 6 rfl))) dL_player_12 (fun H locs G => ?_)
  refine lv_goto (tgt := 30) hC.1 hC.2.1 dL_player_15 (by decide) ?_
  refine lv_iconst (v := 0) hC.1 hC.2.1 dL_player_30 (by decide) ?_
  refine W.widen (k := 1) (n := 6) (by decide) (by decide) ?_
  exact wo_iret hC hr hlocks G h dL_player_31
theorem hdS_L_player : yL_player.cls ≠ "java/lang/invoke/MethodHandle" ∧ yL_player.cls ≠ "java/lang/invoke/VarHandle" ∧ (parseMethodDescriptor yL_player.desc).map (fun d => d.parameters.length) = some 6 := by decide +kernel
theorem i_L_learn_X8 : ∀ w ∈ wsX80, w ∈ wsL_learn ++ lkL := fun w h => List.mem_append_left _ (by unfold wsL_learn; simp only [List.mem_cons, List.mem_append, h, true_or, or_true])
abbrev rm_L_learn : Room := { frames := 8, cells := 2, slots := 12, locals := 125 }
set_option maxHeartbeats 4000000 in
set_option maxRecDepth 100000 in
theorem c_L_learn (l : Launch) (hl0 : l.stackTraces = false) (D : va_G) (cy : Nat → ClassId) (lay : Nat → Nat) (o : Nat) {u : OU} {post : Int32 → OU → Prop} {a1 : Int32} {a2 : Int32} (h : w_T_X7_learn (fun v τ => post 0 (τ, Int32.toInt64 v, u.2.2)) (fun E τ => (E = xIO ∧ post 1 (τ, u.2)) ∨ (E = xIA ∧ post 2 (τ, u.2))) u.1 a1 a2) (sz : Nat) : Met l yL_learn (wsL_learn ++ lkL) rm_L_learn (va_Pc [.ref (lay 0), .int a1, .int a2, .ref o] (woI D cy lay o u sz)) (va_Qi post (woO D cy lay o) (woA lay o sz)) 2 12 (woA lay o sz) := by
  refine wo_ofH (cc := cL_learn) (maxL := 5) (ret := some .int) (own := RL) (hh := [(0, 11, 14, 19), (0, 11, 18, 21)]) (I := woI D cy lay o u) (Qc := fun sz => va_Qi post (woO D cy lay o) (woA lay o sz)) (fr := woA lay o) woI_sz (by decide) rfl (Nat.le_of_ble_eq_true rfl) rfl ?_
  intro p e s m args below meth c ls hC hr hlocks htab hI hl
  obtain ⟨hT, Ga⟩ := wo_of hI.1
  have G : woG D cy lay o u s s.heap [] := ⟨hI.2.1.1, hI.2.1.2, va_S.rf⟩
  have hl : lv_has ls 5 [(0, .ref (lay 0)), (1, .int a1), (2, .int a2), (3, .ref o)] := hl
  refine lv_aload_n hC.1 hC.2.1 dL_learn_0 rfl (lv_at hl 3 rfl) ?_
  refine lv_aload_n hC.1 hC.2.1 dL_learn_1 rfl (lv_at hl 0 rfl) ?_
  refine lv_iload_n hC.1 hC.2.1 dL_learn_2 rfl (lv_at hl 1 rfl) ?_
  refine lv_iload_n hC.1 hC.2.1 dL_learn_3 rfl (lv_at hl 2 rfl) ?_
  refine wo_iC G (ag_runVT (As := [.int a1, .int a2]) (rest := [.ref o]) hC hT Ga (c_T_X7_learn l hl0 D cy lay h _) (cwV 2 hC.2.2.2.2 (gM_w gL_learn_X7_learn) rfl rfl rfl hdV_X7_learn ⟨Nat.le_of_ble_eq_true rfl, Nat.le_of_ble_eq_true rfl⟩) (ag_recv hT Ga (by decide) e_ag k_X7) rfl hl.1 rfl (Nat.le_of_ble_eq_true rfl) dL_learn_4 ⟨Nat.le_of_ble_eq_true rfl, Nat.le_of_ble_eq_true rfl⟩) (fun E9 ce9 q9 σ1 H locs h G hc1 hc2 hc3 => ?_) (fun v1 σ1 H locs h G => ?_)
  · (try dsimp only at h)
    rcases h with h | h
    · skip
      obtain ⟨rfl, h⟩ := h
      refine vx_catch (own := RL) (name := xIO) hC.2.2.2.1 [] ⟨0, 11, 14, 19⟩ [⟨0, 11, 18, 21⟩] htab (fun z hz => by cases hz) (by decide) (by decide) (hC.2.2.2.2 _ lk0) (nest_use _ rfl (hT.2.1 _ (wm 3 rfl))) hc1 hc2 hc3 ?_
      refine lv_astore (lv' := [(4, .ref q9), (0, .ref (lay 0)), (1, .int a1), (2, .int a2), (3, .ref o)]) hC.1 hC.2.1 dL_learn_14 hl (by decide) rfl (fun ls hl => ?_)
      refine lv_iconst (v := 1) hC.1 hC.2.1 dL_learn_16 (by decide) ?_
      refine W.widen (k := 2) (n := 12) (by decide) (by decide) ?_
      exact wo_iret hC hr hlocks G h dL_learn_17
    obtain ⟨rfl, h⟩ := h
    refine vx_catch (own := RL) (name := xIA) hC.2.2.2.1 [⟨0, 11, 14, 19⟩] ⟨0, 11, 18, 21⟩ [] htab (fun z hz => by
        rw [List.mem_singleton] at hz
        subst hz
        exact Or.inr ⟨by decide, _, hC.2.2.2.2 _ lk0, hI.2.2 (xIA, xIO) (by decide +kernel)⟩) (by decide) (by decide) (hC.2.2.2.2 _ lk1) (nest_use _ rfl (hT.2.1 _ (wm 4 rfl))) hc1 hc2 hc3 ?_
    refine lv_astore (lv' := [(4, .ref q9), (0, .ref (lay 0)), (1, .int a1), (2, .int a2), (3, .ref o)]) hC.1 hC.2.1 dL_learn_18 hl (by decide) rfl (fun ls hl => ?_)
    refine lv_iconst (v := 2) hC.1 hC.2.1 dL_learn_20 (by decide) ?_
    refine W.widen (k := 2) (n := 12) (by decide) (by decide) ?_
    exact wo_iret hC hr hlocks G h dL_learn_21
  (try dsimp only at h)
  refine lv_i2l (v := Int32.toInt64 v1) hC.1 hC.2.1 dL_learn_7 rfl ?_
  refine wo_putn hC hT.1 G i_L_learn_X8 (nest_use _ rfl (hT.2.1 _ (wm 6 rfl))) dL_learn_8 (fun H locs G => ?_)
  refine lv_goto (tgt := 22) hC.1 hC.2.1 dL_learn_11 (by decide) ?_
  refine lv_iconst (v := 0) hC.1 hC.2.1 dL_learn_22 (by decide) ?_
  refine W.widen (k := 2) (n := 12) (by decide) (by decide) ?_
  exact wo_iret hC hr hlocks G h dL_learn_23
theorem hdS_L_learn : yL_learn.cls ≠ "java/lang/invoke/MethodHandle" ∧ yL_learn.cls ≠ "java/lang/invoke/VarHandle" ∧ (parseMethodDescriptor yL_learn.desc).map (fun d => d.parameters.length) = some 4 := by decide +kernel
theorem i_L_song_X8 : ∀ w ∈ wsX80, w ∈ wsL_song ++ lkL := fun w h => List.mem_append_left _ (by unfold wsL_song; simp only [List.mem_cons, List.mem_append, h, true_or, or_true])
abbrev rm_L_song : Room := { frames := 8, cells := 2, slots := 12, locals := 128 }
set_option maxHeartbeats 4000000 in
set_option maxRecDepth 100000 in
theorem c_L_song (l : Launch) (hl0 : l.stackTraces = false) (D : va_G) (cy : Nat → ClassId) (lay : Nat → Nat) (o : Nat) {u : OU} {post : Int32 → OU → Prop} {a1 : Int32} {a2 : Int32} {a3 : Int32} {a4 : Int32} (h : w_T_X7_song (fun v τ => post 0 (τ, Int32.toInt64 v, u.2.2)) (fun E τ => (E = xIO ∧ post 1 (τ, u.2)) ∨ (E = xIA ∧ post 2 (τ, u.2))) u.1 a1 a2 a3 a4) (sz : Nat) : Met l yL_song (wsL_song ++ lkL) rm_L_song (va_Pc [.ref (lay 0), .int a1, .int a2, .int a3, .int a4, .ref o] (woI D cy lay o u sz)) (va_Qi post (woO D cy lay o) (woA lay o sz)) 2 12 (woA lay o sz) := by
  refine wo_ofH (cc := cL_song) (maxL := 7) (ret := some .int) (own := RL) (hh := [(0, 15, 18, 19), (0, 15, 22, 21)]) (I := woI D cy lay o u) (Qc := fun sz => va_Qi post (woO D cy lay o) (woA lay o sz)) (fr := woA lay o) woI_sz (by decide) rfl (Nat.le_of_ble_eq_true rfl) rfl ?_
  intro p e s m args below meth c ls hC hr hlocks htab hI hl
  obtain ⟨hT, Ga⟩ := wo_of hI.1
  have G : woG D cy lay o u s s.heap [] := ⟨hI.2.1.1, hI.2.1.2, va_S.rf⟩
  have hl : lv_has ls 7 [(0, .ref (lay 0)), (1, .int a1), (2, .int a2), (3, .int a3), (4, .int a4), (5, .ref o)] := hl
  refine lv_aload hC.1 hC.2.1 dL_song_0 (lv_at hl 5 rfl) ?_
  refine lv_aload_n hC.1 hC.2.1 dL_song_2 rfl (lv_at hl 0 rfl) ?_
  refine lv_iload_n hC.1 hC.2.1 dL_song_3 rfl (lv_at hl 1 rfl) ?_
  refine lv_iload_n hC.1 hC.2.1 dL_song_4 rfl (lv_at hl 2 rfl) ?_
  refine lv_iload_n hC.1 hC.2.1 dL_song_5 rfl (lv_at hl 3 rfl) ?_
  refine lv_iload hC.1 hC.2.1 dL_song_6 (lv_at hl 4 rfl) ?_
  refine wo_iC G (ag_runVT (As := [.int a1, .int a2, .int a3, .int a4]) (rest := [.ref o]) hC hT Ga (c_T_X7_song l hl0 D cy lay h _) (cwV 4 hC.2.2.2.2 (gM_w gL_song_X7_song) rfl rfl rfl hdV_X7_song ⟨Nat.le_of_ble_eq_true rfl, Nat.le_of_ble_eq_true rfl⟩) (ag_recv hT Ga (by decide) e_ag k_X7) rfl hl.1 rfl (Nat.le_of_ble_eq_true rfl) dL_song_8 ⟨Nat.le_of_ble_eq_true rfl, Nat.le_of_ble_eq_true rfl⟩) (fun E9 ce9 q9 σ1 H locs h G hc1 hc2 hc3 => ?_) (fun v1 σ1 H locs h G => ?_)
  · (try dsimp only at h)
    rcases h with h | h
    · skip
      obtain ⟨rfl, h⟩ := h
      refine vx_catch (own := RL) (name := xIO) hC.2.2.2.1 [] ⟨0, 15, 18, 19⟩ [⟨0, 15, 22, 21⟩] htab (fun z hz => by cases hz) (by decide) (by decide) (hC.2.2.2.2 _ lk0) (nest_use _ rfl (hT.2.1 _ (wm 3 rfl))) hc1 hc2 hc3 ?_
      refine lv_astore (lv' := [(6, .ref q9), (0, .ref (lay 0)), (1, .int a1), (2, .int a2), (3, .int a3), (4, .int a4), (5, .ref o)]) hC.1 hC.2.1 dL_song_18 hl (by decide) rfl (fun ls hl => ?_)
      refine lv_iconst (v := 1) hC.1 hC.2.1 dL_song_20 (by decide) ?_
      refine W.widen (k := 2) (n := 12) (by decide) (by decide) ?_
      exact wo_iret hC hr hlocks G h dL_song_21
    obtain ⟨rfl, h⟩ := h
    refine vx_catch (own := RL) (name := xIA) hC.2.2.2.1 [⟨0, 15, 18, 19⟩] ⟨0, 15, 22, 21⟩ [] htab (fun z hz => by
        rw [List.mem_singleton] at hz
        subst hz
        exact Or.inr ⟨by decide, _, hC.2.2.2.2 _ lk0, hI.2.2 (xIA, xIO) (by decide +kernel)⟩) (by decide) (by decide) (hC.2.2.2.2 _ lk1) (nest_use _ rfl (hT.2.1 _ (wm 4 rfl))) hc1 hc2 hc3 ?_
    refine lv_astore (lv' := [(6, .ref q9), (0, .ref (lay 0)), (1, .int a1), (2, .int a2), (3, .int a3), (4, .int a4), (5, .ref o)]) hC.1 hC.2.1 dL_song_22 hl (by decide) rfl (fun ls hl => ?_)
    refine lv_iconst (v := 2) hC.1 hC.2.1 dL_song_24 (by decide) ?_
    refine W.widen (k := 2) (n := 12) (by decide) (by decide) ?_
    exact wo_iret hC hr hlocks G h dL_song_25
  (try dsimp only at h)
  refine lv_i2l (v := Int32.toInt64 v1) hC.1 hC.2.1 dL_song_11 rfl ?_
  refine wo_putn hC hT.1 G i_L_song_X8 (nest_use _ rfl (hT.2.1 _ (wm 6 rfl))) dL_song_12 (fun H locs G => ?_)
  refine lv_goto (tgt := 26) hC.1 hC.2.1 dL_song_15 (by decide) ?_
  refine lv_iconst (v := 0) hC.1 hC.2.1 dL_song_26 (by decide) ?_
  refine W.widen (k := 2) (n := 12) (by decide) (by decide) ?_
  exact wo_iret hC hr hlocks G h dL_song_27
theorem hdS_L_song : yL_song.cls ≠ "java/lang/invoke/MethodHandle" ∧ yL_song.cls ≠ "java/lang/invoke/VarHandle" ∧ (parseMethodDescriptor yL_song.desc).map (fun d => d.parameters.length) = some 6 := by decide +kernel
theorem i_L_feud_X8 : ∀ w ∈ wsX80, w ∈ wsL_feud ++ lkL := fun w h => List.mem_append_left _ (by unfold wsL_feud; simp only [List.mem_cons, List.mem_append, h, true_or, or_true])
abbrev rm_L_feud : Room := { frames := 8, cells := 3, slots := 18, locals := 127 }
set_option maxHeartbeats 4000000 in
set_option maxRecDepth 100000 in
theorem c_L_feud (l : Launch) (hl0 : l.stackTraces = false) (D : va_G) (cy : Nat → ClassId) (lay : Nat → Nat) (o : Nat) {u : OU} {post : Int32 → OU → Prop} {a1 : Int32} {a2 : Int32} {a3 : Int32} (h : w_T_X7_feud (fun v τ => post 0 (τ, (if v = 0 then 0 else 1), u.2.2)) (fun E τ => (E = xIO ∧ post 1 (τ, u.2)) ∨ (E = xIA ∧ post 2 (τ, u.2))) u.1 a1 a2 a3) (sz : Nat) : Met l yL_feud (wsL_feud ++ lkL) rm_L_feud (va_Pc [.ref (lay 0), .int a1, .int a2, .int a3, .ref o] (woI D cy lay o u sz)) (va_Qi post (woO D cy lay o) (woA lay o sz)) 3 18 (woA lay o sz) := by
  refine wo_ofH (cc := cL_feud) (maxL := 6) (ret := some .int) (own := RL) (hh := [(0, 20, 23, 19), (0, 20, 27, 21)]) (I := woI D cy lay o u) (Qc := fun sz => va_Qi post (woO D cy lay o) (woA lay o sz)) (fr := woA lay o) woI_sz (by decide) rfl (Nat.le_of_ble_eq_true rfl) rfl ?_
  intro p e s m args below meth c ls hC hr hlocks htab hI hl
  obtain ⟨hT, Ga⟩ := wo_of hI.1
  have G : woG D cy lay o u s s.heap [] := ⟨hI.2.1.1, hI.2.1.2, va_S.rf⟩
  have hl : lv_has ls 6 [(0, .ref (lay 0)), (1, .int a1), (2, .int a2), (3, .int a3), (4, .ref o)] := hl
  refine lv_aload hC.1 hC.2.1 dL_feud_0 (lv_at hl 4 rfl) ?_
  refine lv_aload_n hC.1 hC.2.1 dL_feud_2 rfl (lv_at hl 0 rfl) ?_
  refine lv_iload_n hC.1 hC.2.1 dL_feud_3 rfl (lv_at hl 1 rfl) ?_
  refine lv_iload_n hC.1 hC.2.1 dL_feud_4 rfl (lv_at hl 2 rfl) ?_
  refine lv_iload_n hC.1 hC.2.1 dL_feud_5 rfl (lv_at hl 3 rfl) ?_
  refine wo_iC G (ag_runVT (As := [.int a1, .int a2, .int a3]) (rest := [.ref o]) hC hT Ga (c_T_X7_feud l hl0 D cy lay h _) (cwV 3 hC.2.2.2.2 (gM_w gL_feud_X7_feud) rfl rfl rfl hdV_X7_feud ⟨Nat.le_of_ble_eq_true rfl, Nat.le_of_ble_eq_true rfl⟩) (ag_recv hT Ga (by decide) e_ag k_X7) rfl hl.1 rfl (Nat.le_of_ble_eq_true rfl) dL_feud_6 ⟨Nat.le_of_ble_eq_true rfl, Nat.le_of_ble_eq_true rfl⟩) (fun E9 ce9 q9 σ1 H locs h G hc1 hc2 hc3 => ?_) (fun v1 σ1 H locs h G => ?_)
  · (try dsimp only at h)
    rcases h with h | h
    · skip
      obtain ⟨rfl, h⟩ := h
      refine vx_catch (own := RL) (name := xIO) hC.2.2.2.1 [] ⟨0, 20, 23, 19⟩ [⟨0, 20, 27, 21⟩] htab (fun z hz => by cases hz) (by decide) (by decide) (hC.2.2.2.2 _ lk0) (nest_use _ rfl (hT.2.1 _ (wm 3 rfl))) hc1 hc2 hc3 ?_
      refine lv_astore (lv' := [(5, .ref q9), (0, .ref (lay 0)), (1, .int a1), (2, .int a2), (3, .int a3), (4, .ref o)]) hC.1 hC.2.1 dL_feud_23 hl (by decide) rfl (fun ls hl => ?_)
      refine lv_iconst (v := 1) hC.1 hC.2.1 dL_feud_25 (by decide) ?_
      refine W.widen (k := 3) (n := 18) (by decide) (by decide) ?_
      exact wo_iret hC hr hlocks G h dL_feud_26
    obtain ⟨rfl, h⟩ := h
    refine vx_catch (own := RL) (name := xIA) hC.2.2.2.1 [⟨0, 20, 23, 19⟩] ⟨0, 20, 27, 21⟩ [] htab (fun z hz => by
        rw [List.mem_singleton] at hz
        subst hz
        exact Or.inr ⟨by decide, _, hC.2.2.2.2 _ lk0, hI.2.2 (xIA, xIO) (by decide +kernel)⟩) (by decide) (by decide) (hC.2.2.2.2 _ lk1) (nest_use _ rfl (hT.2.1 _ (wm 4 rfl))) hc1 hc2 hc3 ?_
    refine lv_astore (lv' := [(5, .ref q9), (0, .ref (lay 0)), (1, .int a1), (2, .int a2), (3, .int a3), (4, .ref o)]) hC.1 hC.2.1 dL_feud_27 hl (by decide) rfl (fun ls hl => ?_)
    refine lv_iconst (v := 2) hC.1 hC.2.1 dL_feud_29 (by decide) ?_
    refine W.widen (k := 3) (n := 18) (by decide) (by decide) ?_
    exact wo_iret hC hr hlocks G h dL_feud_30
  (try dsimp only at h)
  refine lv_if_eq (tgt := 16) hC.1 hC.2.1 dL_feud_9 (by decide) (fun c1 => ?_) (fun c1 => ?_)
  · rw [if_pos c1] at h
    refine lv_lconst (v := 0) hC.1 hC.2.1 dL_feud_16 rfl ?_
    refine wo_putn hC hT.1 G i_L_feud_X8 (nest_use _ rfl (hT.2.1 _ (wm 6 rfl))) dL_feud_17 (fun H locs G => ?_)
    refine lv_goto (tgt := 31) hC.1 hC.2.1 dL_feud_20 (by decide) ?_
    refine lv_iconst (v := 0) hC.1 hC.2.1 dL_feud_31 (by decide) ?_
    refine W.widen (k := 3) (n := 18) (by decide) (by decide) ?_
    exact wo_iret hC hr hlocks G h dL_feud_32
  · rw [if_neg c1] at h
    refine lv_lconst (v := 1) hC.1 hC.2.1 dL_feud_12 rfl ?_
    refine lv_goto (tgt := 17) hC.1 hC.2.1 dL_feud_13 (by decide) ?_
    refine wo_putn hC hT.1 G i_L_feud_X8 (nest_use _ rfl (hT.2.1 _ (wm 6 rfl))) dL_feud_17 (fun H locs G => ?_)
    refine lv_goto (tgt := 31) hC.1 hC.2.1 dL_feud_20 (by decide) ?_
    refine lv_iconst (v := 0) hC.1 hC.2.1 dL_feud_31 (by decide) ?_
    refine W.widen (k := 3) (n := 18) (by decide) (by decide) ?_
    exact wo_iret hC hr hlocks G h dL_feud_32
theorem hdS_L_feud : yL_feud.cls ≠ "java/lang/invoke/MethodHandle" ∧ yL_feud.cls ≠ "java/lang/invoke/VarHandle" ∧ (parseMethodDescriptor yL_feud.desc).map (fun d => d.parameters.length) = some 5 := by decide +kernel
theorem i_L_road_X8 : ∀ w ∈ wsX80, w ∈ wsL_road ++ lkL := fun w h => List.mem_append_left _ (by unfold wsL_road; simp only [List.mem_cons, List.mem_append, h, true_or, or_true])
abbrev rm_L_road : Room := { frames := 8, cells := 3, slots := 18, locals := 125 }
set_option maxHeartbeats 4000000 in
set_option maxRecDepth 100000 in
theorem c_L_road (l : Launch) (hl0 : l.stackTraces = false) (D : va_G) (cy : Nat → ClassId) (lay : Nat → Nat) (o : Nat) {u : OU} {post : Int32 → OU → Prop} {a1 : Int32} {a2 : Int32} {a3 : Int32} (h : w_T_X7_road (fun v τ => post 0 (τ, Int32.toInt64 v, u.2.2)) (fun E τ => (E = xIO ∧ post 1 (τ, u.2)) ∨ (E = xIA ∧ post 2 (τ, u.2))) u.1 a1 a2 a3) (sz : Nat) : Met l yL_road (wsL_road ++ lkL) rm_L_road (va_Pc [.ref (lay 0), .int a1, .int a2, .int a3, .ref o] (woI D cy lay o u sz)) (va_Qi post (woO D cy lay o) (woA lay o sz)) 3 18 (woA lay o sz) := by
  refine wo_ofH (cc := cL_road) (maxL := 6) (ret := some .int) (own := RL) (hh := [(0, 13, 16, 19), (0, 13, 20, 21)]) (I := woI D cy lay o u) (Qc := fun sz => va_Qi post (woO D cy lay o) (woA lay o sz)) (fr := woA lay o) woI_sz (by decide) rfl (Nat.le_of_ble_eq_true rfl) rfl ?_
  intro p e s m args below meth c ls hC hr hlocks htab hI hl
  obtain ⟨hT, Ga⟩ := wo_of hI.1
  have G : woG D cy lay o u s s.heap [] := ⟨hI.2.1.1, hI.2.1.2, va_S.rf⟩
  have hl : lv_has ls 6 [(0, .ref (lay 0)), (1, .int a1), (2, .int a2), (3, .int a3), (4, .ref o)] := hl
  refine lv_aload hC.1 hC.2.1 dL_road_0 (lv_at hl 4 rfl) ?_
  refine lv_aload_n hC.1 hC.2.1 dL_road_2 rfl (lv_at hl 0 rfl) ?_
  refine lv_iload_n hC.1 hC.2.1 dL_road_3 rfl (lv_at hl 1 rfl) ?_
  refine lv_iload_n hC.1 hC.2.1 dL_road_4 rfl (lv_at hl 2 rfl) ?_
  refine lv_iload_n hC.1 hC.2.1 dL_road_5 rfl (lv_at hl 3 rfl) ?_
  refine wo_iC G (ag_runVT (As := [.int a1, .int a2, .int a3]) (rest := [.ref o]) hC hT Ga (c_T_X7_road l hl0 D cy lay h _) (cwV 3 hC.2.2.2.2 (gM_w gL_road_X7_road) rfl rfl rfl hdV_X7_road ⟨Nat.le_of_ble_eq_true rfl, Nat.le_of_ble_eq_true rfl⟩) (ag_recv hT Ga (by decide) e_ag k_X7) rfl hl.1 rfl (Nat.le_of_ble_eq_true rfl) dL_road_6 ⟨Nat.le_of_ble_eq_true rfl, Nat.le_of_ble_eq_true rfl⟩) (fun E9 ce9 q9 σ1 H locs h G hc1 hc2 hc3 => ?_) (fun v1 σ1 H locs h G => ?_)
  · (try dsimp only at h)
    rcases h with h | h
    · skip
      obtain ⟨rfl, h⟩ := h
      refine vx_catch (own := RL) (name := xIO) hC.2.2.2.1 [] ⟨0, 13, 16, 19⟩ [⟨0, 13, 20, 21⟩] htab (fun z hz => by cases hz) (by decide) (by decide) (hC.2.2.2.2 _ lk0) (nest_use _ rfl (hT.2.1 _ (wm 3 rfl))) hc1 hc2 hc3 ?_
      refine lv_astore (lv' := [(5, .ref q9), (0, .ref (lay 0)), (1, .int a1), (2, .int a2), (3, .int a3), (4, .ref o)]) hC.1 hC.2.1 dL_road_16 hl (by decide) rfl (fun ls hl => ?_)
      refine lv_iconst (v := 1) hC.1 hC.2.1 dL_road_18 (by decide) ?_
      refine W.widen (k := 3) (n := 18) (by decide) (by decide) ?_
      exact wo_iret hC hr hlocks G h dL_road_19
    obtain ⟨rfl, h⟩ := h
    refine vx_catch (own := RL) (name := xIA) hC.2.2.2.1 [⟨0, 13, 16, 19⟩] ⟨0, 13, 20, 21⟩ [] htab (fun z hz => by
        rw [List.mem_singleton] at hz
        subst hz
        exact Or.inr ⟨by decide, _, hC.2.2.2.2 _ lk0, hI.2.2 (xIA, xIO) (by decide +kernel)⟩) (by decide) (by decide) (hC.2.2.2.2 _ lk1) (nest_use _ rfl (hT.2.1 _ (wm 4 rfl))) hc1 hc2 hc3 ?_
    refine lv_astore (lv' := [(5, .ref q9), (0, .ref (lay 0)), (1, .int a1), (2, .int a2), (3, .int a3), (4, .ref o)]) hC.1 hC.2.1 dL_road_20 hl (by decide) rfl (fun ls hl => ?_)
    refine lv_iconst (v := 2) hC.1 hC.2.1 dL_road_22 (by decide) ?_
    refine W.widen (k := 3) (n := 18) (by decide) (by decide) ?_
    exact wo_iret hC hr hlocks G h dL_road_23
  (try dsimp only at h)
  refine lv_i2l (v := Int32.toInt64 v1) hC.1 hC.2.1 dL_road_9 rfl ?_
  refine wo_putn hC hT.1 G i_L_road_X8 (nest_use _ rfl (hT.2.1 _ (wm 6 rfl))) dL_road_10 (fun H locs G => ?_)
  refine lv_goto (tgt := 24) hC.1 hC.2.1 dL_road_13 (by decide) ?_
  refine lv_iconst (v := 0) hC.1 hC.2.1 dL_road_24 (by decide) ?_
  refine W.widen (k := 3) (n := 18) (by decide) (by decide) ?_
  exact wo_iret hC hr hlocks G h dL_road_25
theorem hdS_L_road : yL_road.cls ≠ "java/lang/invoke/MethodHandle" ∧ yL_road.cls ≠ "java/lang/invoke/VarHandle" ∧ (parseMethodDescriptor yL_road.desc).map (fun d => d.parameters.length) = some 5 := by decide +kernel
theorem i_L_band_X8 : ∀ w ∈ wsX80, w ∈ wsL_band ++ lkL := fun w h => List.mem_append_left _ (by unfold wsL_band; simp only [List.mem_cons, List.mem_append, h, true_or, or_true])
abbrev rm_L_band : Room := { frames := 7, cells := 1, slots := 6, locals := 103 }
set_option maxHeartbeats 4000000 in
set_option maxRecDepth 100000 in
theorem c_L_band (l : Launch) (hl0 : l.stackTraces = false) (D : va_G) (cy : Nat → ClassId) (lay : Nat → Nat) (o : Nat) {u : OU} {post : Int32 → OU → Prop} {a1 : Int32} (h : w_T_X7_band (fun v τ => post 0 (τ, Int32.toInt64 v, u.2.2)) (fun E τ => (E = xIA ∧ post 1 (τ, u.2)) ∨ (E = xIS ∧ post 2 (τ, u.2))) u.1 a1) (sz : Nat) : Met l yL_band (wsL_band ++ lkL) rm_L_band (va_Pc [.ref (lay 0), .int a1, .ref o] (woI D cy lay o u sz)) (va_Qi post (woO D cy lay o) (woA lay o sz)) 1 6 (woA lay o sz) := by
  refine wo_ofH (cc := cL_band) (maxL := 4) (ret := some .int) (own := RL) (hh := [(0, 10, 13, 21), (0, 10, 16, 23)]) (I := woI D cy lay o u) (Qc := fun sz => va_Qi post (woO D cy lay o) (woA lay o sz)) (fr := woA lay o) woI_sz (by decide) rfl (Nat.le_of_ble_eq_true rfl) rfl ?_
  intro p e s m args below meth c ls hC hr hlocks htab hI hl
  obtain ⟨hT, Ga⟩ := wo_of hI.1
  have G : woG D cy lay o u s s.heap [] := ⟨hI.2.1.1, hI.2.1.2, va_S.rf⟩
  have hl : lv_has ls 4 [(0, .ref (lay 0)), (1, .int a1), (2, .ref o)] := hl
  refine lv_aload_n hC.1 hC.2.1 dL_band_0 rfl (lv_at hl 2 rfl) ?_
  refine lv_aload_n hC.1 hC.2.1 dL_band_1 rfl (lv_at hl 0 rfl) ?_
  refine lv_iload_n hC.1 hC.2.1 dL_band_2 rfl (lv_at hl 1 rfl) ?_
  refine wo_iC G (ag_runVT (As := [.int a1]) (rest := [.ref o]) hC hT Ga (c_T_X7_band l hl0 D cy lay h _) (cwV 1 hC.2.2.2.2 (gM_w gL_band_X7_band) rfl rfl rfl hdV_X7_band ⟨Nat.le_of_ble_eq_true rfl, Nat.le_of_ble_eq_true rfl⟩) (ag_recv hT Ga (by decide) e_ag k_X7) rfl hl.1 rfl (Nat.le_of_ble_eq_true rfl) dL_band_3 ⟨Nat.le_of_ble_eq_true rfl, Nat.le_of_ble_eq_true rfl⟩) (fun E9 ce9 q9 σ1 H locs h G hc1 hc2 hc3 => ?_) (fun v1 σ1 H locs h G => ?_)
  · (try dsimp only at h)
    rcases h with h | h
    · skip
      obtain ⟨rfl, h⟩ := h
      refine vx_catch (own := RL) (name := xIA) hC.2.2.2.1 [] ⟨0, 10, 13, 21⟩ [⟨0, 10, 16, 23⟩] htab (fun z hz => by cases hz) (by decide) (by decide) (hC.2.2.2.2 _ lk1) (nest_use _ rfl (hT.2.1 _ (wm 4 rfl))) hc1 hc2 hc3 ?_
      refine lv_astore_n (lv' := [(3, .ref q9), (0, .ref (lay 0)), (1, .int a1), (2, .ref o)]) hC.1 hC.2.1 dL_band_13 rfl hl (by decide) rfl (fun ls hl => ?_)
      refine lv_iconst (v := 1) hC.1 hC.2.1 dL_band_14 (by decide) ?_
      refine W.widen (k := 1) (n := 6) (by decide) (by decide) ?_
      exact wo_iret hC hr hlocks G h dL_band_15
    obtain ⟨rfl, h⟩ := h
    refine vx_catch (own := RL) (name := xIS) hC.2.2.2.1 [⟨0, 10, 13, 21⟩] ⟨0, 10, 16, 23⟩ [] htab (fun z hz => by
        rw [List.mem_singleton] at hz
        subst hz
        exact Or.inr ⟨by decide, _, hC.2.2.2.2 _ lk1, hI.2.2 (xIS, xIA) (by decide +kernel)⟩) (by decide) (by decide) (hC.2.2.2.2 _ lk2) (nest_use _ rfl (hT.2.1 _ (wm 5 rfl))) hc1 hc2 hc3 ?_
    refine lv_astore_n (lv' := [(3, .ref q9), (0, .ref (lay 0)), (1, .int a1), (2, .ref o)]) hC.1 hC.2.1 dL_band_16 rfl hl (by decide) rfl (fun ls hl => ?_)
    refine lv_iconst (v := 2) hC.1 hC.2.1 dL_band_17 (by decide) ?_
    refine W.widen (k := 1) (n := 6) (by decide) (by decide) ?_
    exact wo_iret hC hr hlocks G h dL_band_18
  (try dsimp only at h)
  refine lv_i2l (v := Int32.toInt64 v1) hC.1 hC.2.1 dL_band_6 rfl ?_
  refine wo_putn hC hT.1 G i_L_band_X8 (nest_use _ rfl (hT.2.1 _ (wm 6 rfl))) dL_band_7 (fun H locs G => ?_)
  refine lv_goto (tgt := 19) hC.1 hC.2.1 dL_band_10 (by decide) ?_
  refine lv_iconst (v := 0) hC.1 hC.2.1 dL_band_19 (by decide) ?_
  refine W.widen (k := 1) (n := 6) (by decide) (by decide) ?_
  exact wo_iret hC hr hlocks G h dL_band_20
theorem hdS_L_band : yL_band.cls ≠ "java/lang/invoke/MethodHandle" ∧ yL_band.cls ≠ "java/lang/invoke/VarHandle" ∧ (parseMethodDescriptor yL_band.desc).map (fun d => d.parameters.length) = some 3 := by decide +kernel
theorem i_L_ask_X8 : ∀ w ∈ wsX80, w ∈ wsL_ask ++ lkL := fun w h => List.mem_append_left _ (by unfold wsL_ask; simp only [List.mem_cons, List.mem_append, h, true_or, or_true])
abbrev rm_L_ask : Room := { frames := 8, cells := 3, slots := 18, locals := 130 }
set_option maxHeartbeats 4000000 in
set_option maxRecDepth 100000 in
theorem c_L_ask (l : Launch) (hl0 : l.stackTraces = false) (D : va_G) (cy : Nat → ClassId) (lay : Nat → Nat) (o : Nat) {u : OU} {post : Int32 → OU → Prop} {a1 : Int32} {a2 : Int32} {a3 : Int32} {a4 : Int32} {a5 : Int32} {a6 : Int32} (h : w_T_X7_ask (fun v τ => post 0 (τ, Int32.toInt64 v, u.2.2)) (fun E τ => (E = xIO ∧ post 1 (τ, u.2)) ∨ (E = xIA ∧ post 2 (τ, u.2)) ∨ (E = xIS ∧ post 3 (τ, u.2))) u.1 a1 a2 a3 a4 a5 a6) (sz : Nat) : Met l yL_ask (wsL_ask ++ lkL) rm_L_ask (va_Pc [.ref (lay 0), .int a1, .int a2, .int a3, .int a4, .int a5, .int a6, .ref o] (woI D cy lay o u sz)) (va_Qi post (woO D cy lay o) (woA lay o sz)) 3 18 (woA lay o sz) := by
  refine wo_ofH (cc := cL_ask) (maxL := 9) (ret := some .int) (own := RL) (hh := [(0, 19, 22, 19), (0, 19, 26, 21), (0, 19, 30, 23)]) (I := woI D cy lay o u) (Qc := fun sz => va_Qi post (woO D cy lay o) (woA lay o sz)) (fr := woA lay o) woI_sz (by decide) rfl (Nat.le_of_ble_eq_true rfl) rfl ?_
  intro p e s m args below meth c ls hC hr hlocks htab hI hl
  obtain ⟨hT, Ga⟩ := wo_of hI.1
  have G : woG D cy lay o u s s.heap [] := ⟨hI.2.1.1, hI.2.1.2, va_S.rf⟩
  have hl : lv_has ls 9 [(0, .ref (lay 0)), (1, .int a1), (2, .int a2), (3, .int a3), (4, .int a4), (5, .int a5), (6, .int a6), (7, .ref o)] := hl
  refine lv_aload hC.1 hC.2.1 dL_ask_0 (lv_at hl 7 rfl) ?_
  refine lv_aload_n hC.1 hC.2.1 dL_ask_2 rfl (lv_at hl 0 rfl) ?_
  refine lv_iload_n hC.1 hC.2.1 dL_ask_3 rfl (lv_at hl 1 rfl) ?_
  refine lv_iload_n hC.1 hC.2.1 dL_ask_4 rfl (lv_at hl 2 rfl) ?_
  refine lv_iload_n hC.1 hC.2.1 dL_ask_5 rfl (lv_at hl 3 rfl) ?_
  refine lv_iload hC.1 hC.2.1 dL_ask_6 (lv_at hl 4 rfl) ?_
  refine lv_iload hC.1 hC.2.1 dL_ask_8 (lv_at hl 5 rfl) ?_
  refine lv_iload hC.1 hC.2.1 dL_ask_10 (lv_at hl 6 rfl) ?_
  refine wo_iC G (ag_runVT (As := [.int a1, .int a2, .int a3, .int a4, .int a5, .int a6]) (rest := [.ref o]) hC hT Ga (c_T_X7_ask l hl0 D cy lay h _) (cwV 6 hC.2.2.2.2 (gM_w gL_ask_X7_ask) rfl rfl rfl hdV_X7_ask ⟨Nat.le_of_ble_eq_true rfl, Nat.le_of_ble_eq_true rfl⟩) (ag_recv hT Ga (by decide) e_ag k_X7) rfl hl.1 rfl (Nat.le_of_ble_eq_true rfl) dL_ask_12 ⟨Nat.le_of_ble_eq_true rfl, Nat.le_of_ble_eq_true rfl⟩) (fun E9 ce9 q9 σ1 H locs h G hc1 hc2 hc3 => ?_) (fun v1 σ1 H locs h G => ?_)
  · (try dsimp only at h)
    rcases h with h | h
    · skip
      obtain ⟨rfl, h⟩ := h
      refine vx_catch (own := RL) (name := xIO) hC.2.2.2.1 [] ⟨0, 19, 22, 19⟩ [⟨0, 19, 26, 21⟩, ⟨0, 19, 30, 23⟩] htab (fun z hz => by cases hz) (by decide) (by decide) (hC.2.2.2.2 _ lk0) (nest_use _ rfl (hT.2.1 _ (wm 3 rfl))) hc1 hc2 hc3 ?_
      refine lv_astore (lv' := [(8, .ref q9), (0, .ref (lay 0)), (1, .int a1), (2, .int a2), (3, .int a3), (4, .int a4), (5, .int a5), (6, .int a6), (7, .ref o)]) hC.1 hC.2.1 dL_ask_22 hl (by decide) rfl (fun ls hl => ?_)
      refine lv_iconst (v := 1) hC.1 hC.2.1 dL_ask_24 (by decide) ?_
      refine W.widen (k := 3) (n := 18) (by decide) (by decide) ?_
      exact wo_iret hC hr hlocks G h dL_ask_25
    rcases h with h | h
    · skip
      obtain ⟨rfl, h⟩ := h
      refine vx_catch (own := RL) (name := xIA) hC.2.2.2.1 [⟨0, 19, 22, 19⟩] ⟨0, 19, 26, 21⟩ [⟨0, 19, 30, 23⟩] htab (fun z hz => by
          rw [List.mem_singleton] at hz
          subst hz
          exact Or.inr ⟨by decide, _, hC.2.2.2.2 _ lk0, hI.2.2 (xIA, xIO) (by decide +kernel)⟩) (by decide) (by decide) (hC.2.2.2.2 _ lk1) (nest_use _ rfl (hT.2.1 _ (wm 4 rfl))) hc1 hc2 hc3 ?_
      refine lv_astore (lv' := [(8, .ref q9), (0, .ref (lay 0)), (1, .int a1), (2, .int a2), (3, .int a3), (4, .int a4), (5, .int a5), (6, .int a6), (7, .ref o)]) hC.1 hC.2.1 dL_ask_26 hl (by decide) rfl (fun ls hl => ?_)
      refine lv_iconst (v := 2) hC.1 hC.2.1 dL_ask_28 (by decide) ?_
      refine W.widen (k := 3) (n := 18) (by decide) (by decide) ?_
      exact wo_iret hC hr hlocks G h dL_ask_29
    obtain ⟨rfl, h⟩ := h
    refine vx_catch (own := RL) (name := xIS) hC.2.2.2.1 [⟨0, 19, 22, 19⟩, ⟨0, 19, 26, 21⟩] ⟨0, 19, 30, 23⟩ [] htab (fun z hz => by
        rcases List.mem_cons.mp hz with rfl | hz
        · exact Or.inr ⟨by decide, _, hC.2.2.2.2 _ lk0, hI.2.2 (xIS, xIO) (by decide +kernel)⟩
        rw [List.mem_singleton] at hz
        subst hz
        exact Or.inr ⟨by decide, _, hC.2.2.2.2 _ lk1, hI.2.2 (xIS, xIA) (by decide +kernel)⟩) (by decide) (by decide) (hC.2.2.2.2 _ lk2) (nest_use _ rfl (hT.2.1 _ (wm 5 rfl))) hc1 hc2 hc3 ?_
    refine lv_astore (lv' := [(8, .ref q9), (0, .ref (lay 0)), (1, .int a1), (2, .int a2), (3, .int a3), (4, .int a4), (5, .int a5), (6, .int a6), (7, .ref o)]) hC.1 hC.2.1 dL_ask_30 hl (by decide) rfl (fun ls hl => ?_)
    refine lv_iconst (v := 3) hC.1 hC.2.1 dL_ask_32 (by decide) ?_
    refine W.widen (k := 3) (n := 18) (by decide) (by decide) ?_
    exact wo_iret hC hr hlocks G h dL_ask_33
  (try dsimp only at h)
  refine lv_i2l (v := Int32.toInt64 v1) hC.1 hC.2.1 dL_ask_15 rfl ?_
  refine wo_putn hC hT.1 G i_L_ask_X8 (nest_use _ rfl (hT.2.1 _ (wm 6 rfl))) dL_ask_16 (fun H locs G => ?_)
  refine lv_goto (tgt := 34) hC.1 hC.2.1 dL_ask_19 (by decide) ?_
  refine lv_iconst (v := 0) hC.1 hC.2.1 dL_ask_34 (by decide) ?_
  refine W.widen (k := 3) (n := 18) (by decide) (by decide) ?_
  exact wo_iret hC hr hlocks G h dL_ask_35
theorem hdS_L_ask : yL_ask.cls ≠ "java/lang/invoke/MethodHandle" ∧ yL_ask.cls ≠ "java/lang/invoke/VarHandle" ∧ (parseMethodDescriptor yL_ask.desc).map (fun d => d.parameters.length) = some 8 := by decide +kernel
theorem i_L_fix_X8 : ∀ w ∈ wsX80, w ∈ wsL_fix ++ lkL := fun w h => List.mem_append_left _ (by unfold wsL_fix; simp only [List.mem_cons, List.mem_append, h, true_or, or_true])
abbrev rm_L_fix : Room := { frames := 8, cells := 2, slots := 12, locals := 140 }
set_option maxHeartbeats 4000000 in
set_option maxRecDepth 100000 in
theorem c_L_fix (l : Launch) (hl0 : l.stackTraces = false) (D : va_G) (cy : Nat → ClassId) (lay : Nat → Nat) (o : Nat) {u : OU} {post : Int32 → OU → Prop} {a1 : Int32} (h : w_T_X7_fix (fun v τ => post 0 (τ, Int32.toInt64 v, u.2.2)) (fun E τ => (E = xIO ∧ post 1 (τ, u.2)) ∨ (E = xIS ∧ post 2 (τ, u.2))) u.1 a1) (sz : Nat) : Met l yL_fix (wsL_fix ++ lkL) rm_L_fix (va_Pc [.ref (lay 0), .int a1, .ref o] (woI D cy lay o u sz)) (va_Qi post (woO D cy lay o) (woA lay o sz)) 2 12 (woA lay o sz) := by
  refine wo_ofH (cc := cL_fix) (maxL := 4) (ret := some .int) (own := RL) (hh := [(0, 10, 13, 19), (0, 10, 16, 23)]) (I := woI D cy lay o u) (Qc := fun sz => va_Qi post (woO D cy lay o) (woA lay o sz)) (fr := woA lay o) woI_sz (by decide) rfl (Nat.le_of_ble_eq_true rfl) rfl ?_
  intro p e s m args below meth c ls hC hr hlocks htab hI hl
  obtain ⟨hT, Ga⟩ := wo_of hI.1
  have G : woG D cy lay o u s s.heap [] := ⟨hI.2.1.1, hI.2.1.2, va_S.rf⟩
  have hl : lv_has ls 4 [(0, .ref (lay 0)), (1, .int a1), (2, .ref o)] := hl
  refine lv_aload_n hC.1 hC.2.1 dL_fix_0 rfl (lv_at hl 2 rfl) ?_
  refine lv_aload_n hC.1 hC.2.1 dL_fix_1 rfl (lv_at hl 0 rfl) ?_
  refine lv_iload_n hC.1 hC.2.1 dL_fix_2 rfl (lv_at hl 1 rfl) ?_
  refine wo_iC G (ag_runVT (As := [.int a1]) (rest := [.ref o]) hC hT Ga (c_T_X7_fix l hl0 D cy lay h _) (cwV 1 hC.2.2.2.2 (gM_w gL_fix_X7_fix) rfl rfl rfl hdV_X7_fix ⟨Nat.le_of_ble_eq_true rfl, Nat.le_of_ble_eq_true rfl⟩) (ag_recv hT Ga (by decide) e_ag k_X7) rfl hl.1 rfl (Nat.le_of_ble_eq_true rfl) dL_fix_3 ⟨Nat.le_of_ble_eq_true rfl, Nat.le_of_ble_eq_true rfl⟩) (fun E9 ce9 q9 σ1 H locs h G hc1 hc2 hc3 => ?_) (fun v1 σ1 H locs h G => ?_)
  · (try dsimp only at h)
    rcases h with h | h
    · skip
      obtain ⟨rfl, h⟩ := h
      refine vx_catch (own := RL) (name := xIO) hC.2.2.2.1 [] ⟨0, 10, 13, 19⟩ [⟨0, 10, 16, 23⟩] htab (fun z hz => by cases hz) (by decide) (by decide) (hC.2.2.2.2 _ lk0) (nest_use _ rfl (hT.2.1 _ (wm 3 rfl))) hc1 hc2 hc3 ?_
      refine lv_astore_n (lv' := [(3, .ref q9), (0, .ref (lay 0)), (1, .int a1), (2, .ref o)]) hC.1 hC.2.1 dL_fix_13 rfl hl (by decide) rfl (fun ls hl => ?_)
      refine lv_iconst (v := 1) hC.1 hC.2.1 dL_fix_14 (by decide) ?_
      refine W.widen (k := 2) (n := 12) (by decide) (by decide) ?_
      exact wo_iret hC hr hlocks G h dL_fix_15
    obtain ⟨rfl, h⟩ := h
    refine vx_catch (own := RL) (name := xIS) hC.2.2.2.1 [⟨0, 10, 13, 19⟩] ⟨0, 10, 16, 23⟩ [] htab (fun z hz => by
        rw [List.mem_singleton] at hz
        subst hz
        exact Or.inr ⟨by decide, _, hC.2.2.2.2 _ lk0, hI.2.2 (xIS, xIO) (by decide +kernel)⟩) (by decide) (by decide) (hC.2.2.2.2 _ lk2) (nest_use _ rfl (hT.2.1 _ (wm 5 rfl))) hc1 hc2 hc3 ?_
    refine lv_astore_n (lv' := [(3, .ref q9), (0, .ref (lay 0)), (1, .int a1), (2, .ref o)]) hC.1 hC.2.1 dL_fix_16 rfl hl (by decide) rfl (fun ls hl => ?_)
    refine lv_iconst (v := 2) hC.1 hC.2.1 dL_fix_17 (by decide) ?_
    refine W.widen (k := 2) (n := 12) (by decide) (by decide) ?_
    exact wo_iret hC hr hlocks G h dL_fix_18
  (try dsimp only at h)
  refine lv_i2l (v := Int32.toInt64 v1) hC.1 hC.2.1 dL_fix_6 rfl ?_
  refine wo_putn hC hT.1 G i_L_fix_X8 (nest_use _ rfl (hT.2.1 _ (wm 6 rfl))) dL_fix_7 (fun H locs G => ?_)
  refine lv_goto (tgt := 19) hC.1 hC.2.1 dL_fix_10 (by decide) ?_
  refine lv_iconst (v := 0) hC.1 hC.2.1 dL_fix_19 (by decide) ?_
  refine W.widen (k := 2) (n := 12) (by decide) (by decide) ?_
  exact wo_iret hC hr hlocks G h dL_fix_20
theorem hdS_L_fix : yL_fix.cls ≠ "java/lang/invoke/MethodHandle" ∧ yL_fix.cls ≠ "java/lang/invoke/VarHandle" ∧ (parseMethodDescriptor yL_fix.desc).map (fun d => d.parameters.length) = some 3 := by decide +kernel
theorem i_L_cancel_X8 : ∀ w ∈ wsX80, w ∈ wsL_cancel ++ lkL := fun w h => List.mem_append_left _ (by unfold wsL_cancel; simp only [List.mem_cons, List.mem_append, h, true_or, or_true])
abbrev rm_L_cancel : Room := { frames := 8, cells := 2, slots := 12, locals := 126 }
set_option maxHeartbeats 4000000 in
set_option maxRecDepth 100000 in
theorem c_L_cancel (l : Launch) (hl0 : l.stackTraces = false) (D : va_G) (cy : Nat → ClassId) (lay : Nat → Nat) (o : Nat) {u : OU} {post : Int32 → OU → Prop} {a1 : Int32} (h : w_T_X7_cancel (fun v τ => post 0 (τ, Int32.toInt64 v, u.2.2)) (fun E τ => (E = xIO ∧ post 1 (τ, u.2)) ∨ (E = xIS ∧ post 2 (τ, u.2))) u.1 a1) (sz : Nat) : Met l yL_cancel (wsL_cancel ++ lkL) rm_L_cancel (va_Pc [.ref (lay 0), .int a1, .ref o] (woI D cy lay o u sz)) (va_Qi post (woO D cy lay o) (woA lay o sz)) 2 12 (woA lay o sz) := by
  refine wo_ofH (cc := cL_cancel) (maxL := 4) (ret := some .int) (own := RL) (hh := [(0, 10, 13, 19), (0, 10, 16, 23)]) (I := woI D cy lay o u) (Qc := fun sz => va_Qi post (woO D cy lay o) (woA lay o sz)) (fr := woA lay o) woI_sz (by decide) rfl (Nat.le_of_ble_eq_true rfl) rfl ?_
  intro p e s m args below meth c ls hC hr hlocks htab hI hl
  obtain ⟨hT, Ga⟩ := wo_of hI.1
  have G : woG D cy lay o u s s.heap [] := ⟨hI.2.1.1, hI.2.1.2, va_S.rf⟩
  have hl : lv_has ls 4 [(0, .ref (lay 0)), (1, .int a1), (2, .ref o)] := hl
  refine lv_aload_n hC.1 hC.2.1 dL_cancel_0 rfl (lv_at hl 2 rfl) ?_
  refine lv_aload_n hC.1 hC.2.1 dL_cancel_1 rfl (lv_at hl 0 rfl) ?_
  refine lv_iload_n hC.1 hC.2.1 dL_cancel_2 rfl (lv_at hl 1 rfl) ?_
  refine wo_iC G (ag_runVT (As := [.int a1]) (rest := [.ref o]) hC hT Ga (c_T_X7_cancel l hl0 D cy lay h _) (cwV 1 hC.2.2.2.2 (gM_w gL_cancel_X7_cancel) rfl rfl rfl hdV_X7_cancel ⟨Nat.le_of_ble_eq_true rfl, Nat.le_of_ble_eq_true rfl⟩) (ag_recv hT Ga (by decide) e_ag k_X7) rfl hl.1 rfl (Nat.le_of_ble_eq_true rfl) dL_cancel_3 ⟨Nat.le_of_ble_eq_true rfl, Nat.le_of_ble_eq_true rfl⟩) (fun E9 ce9 q9 σ1 H locs h G hc1 hc2 hc3 => ?_) (fun v1 σ1 H locs h G => ?_)
  · (try dsimp only at h)
    rcases h with h | h
    · skip
      obtain ⟨rfl, h⟩ := h
      refine vx_catch (own := RL) (name := xIO) hC.2.2.2.1 [] ⟨0, 10, 13, 19⟩ [⟨0, 10, 16, 23⟩] htab (fun z hz => by cases hz) (by decide) (by decide) (hC.2.2.2.2 _ lk0) (nest_use _ rfl (hT.2.1 _ (wm 3 rfl))) hc1 hc2 hc3 ?_
      refine lv_astore_n (lv' := [(3, .ref q9), (0, .ref (lay 0)), (1, .int a1), (2, .ref o)]) hC.1 hC.2.1 dL_cancel_13 rfl hl (by decide) rfl (fun ls hl => ?_)
      refine lv_iconst (v := 1) hC.1 hC.2.1 dL_cancel_14 (by decide) ?_
      refine W.widen (k := 2) (n := 12) (by decide) (by decide) ?_
      exact wo_iret hC hr hlocks G h dL_cancel_15
    obtain ⟨rfl, h⟩ := h
    refine vx_catch (own := RL) (name := xIS) hC.2.2.2.1 [⟨0, 10, 13, 19⟩] ⟨0, 10, 16, 23⟩ [] htab (fun z hz => by
        rw [List.mem_singleton] at hz
        subst hz
        exact Or.inr ⟨by decide, _, hC.2.2.2.2 _ lk0, hI.2.2 (xIS, xIO) (by decide +kernel)⟩) (by decide) (by decide) (hC.2.2.2.2 _ lk2) (nest_use _ rfl (hT.2.1 _ (wm 5 rfl))) hc1 hc2 hc3 ?_
    refine lv_astore_n (lv' := [(3, .ref q9), (0, .ref (lay 0)), (1, .int a1), (2, .ref o)]) hC.1 hC.2.1 dL_cancel_16 rfl hl (by decide) rfl (fun ls hl => ?_)
    refine lv_iconst (v := 2) hC.1 hC.2.1 dL_cancel_17 (by decide) ?_
    refine W.widen (k := 2) (n := 12) (by decide) (by decide) ?_
    exact wo_iret hC hr hlocks G h dL_cancel_18
  (try dsimp only at h)
  refine lv_i2l (v := Int32.toInt64 v1) hC.1 hC.2.1 dL_cancel_6 rfl ?_
  refine wo_putn hC hT.1 G i_L_cancel_X8 (nest_use _ rfl (hT.2.1 _ (wm 6 rfl))) dL_cancel_7 (fun H locs G => ?_)
  refine lv_goto (tgt := 19) hC.1 hC.2.1 dL_cancel_10 (by decide) ?_
  refine lv_iconst (v := 0) hC.1 hC.2.1 dL_cancel_19 (by decide) ?_
  refine W.widen (k := 2) (n := 12) (by decide) (by decide) ?_
  exact wo_iret hC hr hlocks G h dL_cancel_20
theorem hdS_L_cancel : yL_cancel.cls ≠ "java/lang/invoke/MethodHandle" ∧ yL_cancel.cls ≠ "java/lang/invoke/VarHandle" ∧ (parseMethodDescriptor yL_cancel.desc).map (fun d => d.parameters.length) = some 3 := by decide +kernel
theorem i_L_ill_X8 : ∀ w ∈ wsX80, w ∈ wsL_ill ++ lkL := fun w h => List.mem_append_left _ (by unfold wsL_ill; simp only [List.mem_cons, List.mem_append, h, true_or, or_true])
abbrev rm_L_ill : Room := { frames := 8, cells := 2, slots := 12, locals := 146 }
set_option maxHeartbeats 4000000 in
set_option maxRecDepth 100000 in
theorem c_L_ill (l : Launch) (hl0 : l.stackTraces = false) (D : va_G) (cy : Nat → ClassId) (lay : Nat → Nat) (o : Nat) {u : OU} {post : Int32 → OU → Prop} {a1 : Int32} {a2 : Int32} (h : w_T_X7_ill (fun v τ => post 0 (τ, Int32.toInt64 v, u.2.2)) (fun E τ => (E = xIO ∧ post 1 (τ, u.2)) ∨ (E = xIA ∧ post 2 (τ, u.2))) u.1 a1 a2) (sz : Nat) : Met l yL_ill (wsL_ill ++ lkL) rm_L_ill (va_Pc [.ref (lay 0), .int a1, .int a2, .ref o] (woI D cy lay o u sz)) (va_Qi post (woO D cy lay o) (woA lay o sz)) 2 12 (woA lay o sz) := by
  refine wo_ofH (cc := cL_ill) (maxL := 5) (ret := some .int) (own := RL) (hh := [(0, 11, 14, 19), (0, 11, 18, 21)]) (I := woI D cy lay o u) (Qc := fun sz => va_Qi post (woO D cy lay o) (woA lay o sz)) (fr := woA lay o) woI_sz (by decide) rfl (Nat.le_of_ble_eq_true rfl) rfl ?_
  intro p e s m args below meth c ls hC hr hlocks htab hI hl
  obtain ⟨hT, Ga⟩ := wo_of hI.1
  have G : woG D cy lay o u s s.heap [] := ⟨hI.2.1.1, hI.2.1.2, va_S.rf⟩
  have hl : lv_has ls 5 [(0, .ref (lay 0)), (1, .int a1), (2, .int a2), (3, .ref o)] := hl
  refine lv_aload_n hC.1 hC.2.1 dL_ill_0 rfl (lv_at hl 3 rfl) ?_
  refine lv_aload_n hC.1 hC.2.1 dL_ill_1 rfl (lv_at hl 0 rfl) ?_
  refine lv_iload_n hC.1 hC.2.1 dL_ill_2 rfl (lv_at hl 1 rfl) ?_
  refine lv_iload_n hC.1 hC.2.1 dL_ill_3 rfl (lv_at hl 2 rfl) ?_
  refine wo_iC G (ag_runVT (As := [.int a1, .int a2]) (rest := [.ref o]) hC hT Ga (c_T_X7_ill l hl0 D cy lay h _) (cwV 2 hC.2.2.2.2 (gM_w gL_ill_X7_ill) rfl rfl rfl hdV_X7_ill ⟨Nat.le_of_ble_eq_true rfl, Nat.le_of_ble_eq_true rfl⟩) (ag_recv hT Ga (by decide) e_ag k_X7) rfl hl.1 rfl (Nat.le_of_ble_eq_true rfl) dL_ill_4 ⟨Nat.le_of_ble_eq_true rfl, Nat.le_of_ble_eq_true rfl⟩) (fun E9 ce9 q9 σ1 H locs h G hc1 hc2 hc3 => ?_) (fun v1 σ1 H locs h G => ?_)
  · (try dsimp only at h)
    rcases h with h | h
    · skip
      obtain ⟨rfl, h⟩ := h
      refine vx_catch (own := RL) (name := xIO) hC.2.2.2.1 [] ⟨0, 11, 14, 19⟩ [⟨0, 11, 18, 21⟩] htab (fun z hz => by cases hz) (by decide) (by decide) (hC.2.2.2.2 _ lk0) (nest_use _ rfl (hT.2.1 _ (wm 3 rfl))) hc1 hc2 hc3 ?_
      refine lv_astore (lv' := [(4, .ref q9), (0, .ref (lay 0)), (1, .int a1), (2, .int a2), (3, .ref o)]) hC.1 hC.2.1 dL_ill_14 hl (by decide) rfl (fun ls hl => ?_)
      refine lv_iconst (v := 1) hC.1 hC.2.1 dL_ill_16 (by decide) ?_
      refine W.widen (k := 2) (n := 12) (by decide) (by decide) ?_
      exact wo_iret hC hr hlocks G h dL_ill_17
    obtain ⟨rfl, h⟩ := h
    refine vx_catch (own := RL) (name := xIA) hC.2.2.2.1 [⟨0, 11, 14, 19⟩] ⟨0, 11, 18, 21⟩ [] htab (fun z hz => by
        rw [List.mem_singleton] at hz
        subst hz
        exact Or.inr ⟨by decide, _, hC.2.2.2.2 _ lk0, hI.2.2 (xIA, xIO) (by decide +kernel)⟩) (by decide) (by decide) (hC.2.2.2.2 _ lk1) (nest_use _ rfl (hT.2.1 _ (wm 4 rfl))) hc1 hc2 hc3 ?_
    refine lv_astore (lv' := [(4, .ref q9), (0, .ref (lay 0)), (1, .int a1), (2, .int a2), (3, .ref o)]) hC.1 hC.2.1 dL_ill_18 hl (by decide) rfl (fun ls hl => ?_)
    refine lv_iconst (v := 2) hC.1 hC.2.1 dL_ill_20 (by decide) ?_
    refine W.widen (k := 2) (n := 12) (by decide) (by decide) ?_
    exact wo_iret hC hr hlocks G h dL_ill_21
  (try dsimp only at h)
  refine lv_i2l (v := Int32.toInt64 v1) hC.1 hC.2.1 dL_ill_7 rfl ?_
  refine wo_putn hC hT.1 G i_L_ill_X8 (nest_use _ rfl (hT.2.1 _ (wm 6 rfl))) dL_ill_8 (fun H locs G => ?_)
  refine lv_goto (tgt := 22) hC.1 hC.2.1 dL_ill_11 (by decide) ?_
  refine lv_iconst (v := 0) hC.1 hC.2.1 dL_ill_22 (by decide) ?_
  refine W.widen (k := 2) (n := 12) (by decide) (by decide) ?_
  exact wo_iret hC hr hlocks G h dL_ill_23
theorem hdS_L_ill : yL_ill.cls ≠ "java/lang/invoke/MethodHandle" ∧ yL_ill.cls ≠ "java/lang/invoke/VarHandle" ∧ (parseMethodDescriptor yL_ill.desc).map (fun d => d.parameters.length) = some 4 := by decide +kernel
theorem i_L_late_X8 : ∀ w ∈ wsX80, w ∈ wsL_late ++ lkL := fun w h => List.mem_append_left _ (by unfold wsL_late; simp only [List.mem_cons, List.mem_append, h, true_or, or_true])
abbrev rm_L_late : Room := { frames := 8, cells := 2, slots := 12, locals := 125 }
set_option maxHeartbeats 4000000 in
set_option maxRecDepth 100000 in
theorem c_L_late (l : Launch) (hl0 : l.stackTraces = false) (D : va_G) (cy : Nat → ClassId) (lay : Nat → Nat) (o : Nat) {u : OU} {post : Int32 → OU → Prop} {a1 : Int32} {a2 : Int32} (h : w_T_X7_late (fun v τ => post 0 (τ, Int32.toInt64 v, u.2.2)) (fun E τ => (E = xIO ∧ post 1 (τ, u.2)) ∨ (E = xIA ∧ post 2 (τ, u.2)) ∨ (E = xIS ∧ post 3 (τ, u.2))) u.1 a1 a2) (sz : Nat) : Met l yL_late (wsL_late ++ lkL) rm_L_late (va_Pc [.ref (lay 0), .int a1, .int a2, .ref o] (woI D cy lay o u sz)) (va_Qi post (woO D cy lay o) (woA lay o sz)) 2 12 (woA lay o sz) := by
  refine wo_ofH (cc := cL_late) (maxL := 5) (ret := some .int) (own := RL) (hh := [(0, 11, 14, 19), (0, 11, 18, 21), (0, 11, 22, 23)]) (I := woI D cy lay o u) (Qc := fun sz => va_Qi post (woO D cy lay o) (woA lay o sz)) (fr := woA lay o) woI_sz (by decide) rfl (Nat.le_of_ble_eq_true rfl) rfl ?_
  intro p e s m args below meth c ls hC hr hlocks htab hI hl
  obtain ⟨hT, Ga⟩ := wo_of hI.1
  have G : woG D cy lay o u s s.heap [] := ⟨hI.2.1.1, hI.2.1.2, va_S.rf⟩
  have hl : lv_has ls 5 [(0, .ref (lay 0)), (1, .int a1), (2, .int a2), (3, .ref o)] := hl
  refine lv_aload_n hC.1 hC.2.1 dL_late_0 rfl (lv_at hl 3 rfl) ?_
  refine lv_aload_n hC.1 hC.2.1 dL_late_1 rfl (lv_at hl 0 rfl) ?_
  refine lv_iload_n hC.1 hC.2.1 dL_late_2 rfl (lv_at hl 1 rfl) ?_
  refine lv_iload_n hC.1 hC.2.1 dL_late_3 rfl (lv_at hl 2 rfl) ?_
  refine wo_iC G (ag_runVT (As := [.int a1, .int a2]) (rest := [.ref o]) hC hT Ga (c_T_X7_late l hl0 D cy lay h _) (cwV 2 hC.2.2.2.2 (gM_w gL_late_X7_late) rfl rfl rfl hdV_X7_late ⟨Nat.le_of_ble_eq_true rfl, Nat.le_of_ble_eq_true rfl⟩) (ag_recv hT Ga (by decide) e_ag k_X7) rfl hl.1 rfl (Nat.le_of_ble_eq_true rfl) dL_late_4 ⟨Nat.le_of_ble_eq_true rfl, Nat.le_of_ble_eq_true rfl⟩) (fun E9 ce9 q9 σ1 H locs h G hc1 hc2 hc3 => ?_) (fun v1 σ1 H locs h G => ?_)
  · (try dsimp only at h)
    rcases h with h | h
    · skip
      obtain ⟨rfl, h⟩ := h
      refine vx_catch (own := RL) (name := xIO) hC.2.2.2.1 [] ⟨0, 11, 14, 19⟩ [⟨0, 11, 18, 21⟩, ⟨0, 11, 22, 23⟩] htab (fun z hz => by cases hz) (by decide) (by decide) (hC.2.2.2.2 _ lk0) (nest_use _ rfl (hT.2.1 _ (wm 3 rfl))) hc1 hc2 hc3 ?_
      refine lv_astore (lv' := [(4, .ref q9), (0, .ref (lay 0)), (1, .int a1), (2, .int a2), (3, .ref o)]) hC.1 hC.2.1 dL_late_14 hl (by decide) rfl (fun ls hl => ?_)
      refine lv_iconst (v := 1) hC.1 hC.2.1 dL_late_16 (by decide) ?_
      refine W.widen (k := 2) (n := 12) (by decide) (by decide) ?_
      exact wo_iret hC hr hlocks G h dL_late_17
    rcases h with h | h
    · skip
      obtain ⟨rfl, h⟩ := h
      refine vx_catch (own := RL) (name := xIA) hC.2.2.2.1 [⟨0, 11, 14, 19⟩] ⟨0, 11, 18, 21⟩ [⟨0, 11, 22, 23⟩] htab (fun z hz => by
          rw [List.mem_singleton] at hz
          subst hz
          exact Or.inr ⟨by decide, _, hC.2.2.2.2 _ lk0, hI.2.2 (xIA, xIO) (by decide +kernel)⟩) (by decide) (by decide) (hC.2.2.2.2 _ lk1) (nest_use _ rfl (hT.2.1 _ (wm 4 rfl))) hc1 hc2 hc3 ?_
      refine lv_astore (lv' := [(4, .ref q9), (0, .ref (lay 0)), (1, .int a1), (2, .int a2), (3, .ref o)]) hC.1 hC.2.1 dL_late_18 hl (by decide) rfl (fun ls hl => ?_)
      refine lv_iconst (v := 2) hC.1 hC.2.1 dL_late_20 (by decide) ?_
      refine W.widen (k := 2) (n := 12) (by decide) (by decide) ?_
      exact wo_iret hC hr hlocks G h dL_late_21
    obtain ⟨rfl, h⟩ := h
    refine vx_catch (own := RL) (name := xIS) hC.2.2.2.1 [⟨0, 11, 14, 19⟩, ⟨0, 11, 18, 21⟩] ⟨0, 11, 22, 23⟩ [] htab (fun z hz => by
        rcases List.mem_cons.mp hz with rfl | hz
        · exact Or.inr ⟨by decide, _, hC.2.2.2.2 _ lk0, hI.2.2 (xIS, xIO) (by decide +kernel)⟩
        rw [List.mem_singleton] at hz
        subst hz
        exact Or.inr ⟨by decide, _, hC.2.2.2.2 _ lk1, hI.2.2 (xIS, xIA) (by decide +kernel)⟩) (by decide) (by decide) (hC.2.2.2.2 _ lk2) (nest_use _ rfl (hT.2.1 _ (wm 5 rfl))) hc1 hc2 hc3 ?_
    refine lv_astore (lv' := [(4, .ref q9), (0, .ref (lay 0)), (1, .int a1), (2, .int a2), (3, .ref o)]) hC.1 hC.2.1 dL_late_22 hl (by decide) rfl (fun ls hl => ?_)
    refine lv_iconst (v := 3) hC.1 hC.2.1 dL_late_24 (by decide) ?_
    refine W.widen (k := 2) (n := 12) (by decide) (by decide) ?_
    exact wo_iret hC hr hlocks G h dL_late_25
  (try dsimp only at h)
  refine lv_i2l (v := Int32.toInt64 v1) hC.1 hC.2.1 dL_late_7 rfl ?_
  refine wo_putn hC hT.1 G i_L_late_X8 (nest_use _ rfl (hT.2.1 _ (wm 6 rfl))) dL_late_8 (fun H locs G => ?_)
  refine lv_goto (tgt := 26) hC.1 hC.2.1 dL_late_11 (by decide) ?_
  refine lv_iconst (v := 0) hC.1 hC.2.1 dL_late_26 (by decide) ?_
  refine W.widen (k := 2) (n := 12) (by decide) (by decide) ?_
  exact wo_iret hC hr hlocks G h dL_late_27
theorem hdS_L_late : yL_late.cls ≠ "java/lang/invoke/MethodHandle" ∧ yL_late.cls ≠ "java/lang/invoke/VarHandle" ∧ (parseMethodDescriptor yL_late.desc).map (fun d => d.parameters.length) = some 4 := by decide +kernel
theorem i_L_pass_X8 : ∀ w ∈ wsX80, w ∈ wsL_pass ++ lkL := fun w h => List.mem_append_left _ (by unfold wsL_pass; simp only [List.mem_cons, List.mem_append, h, true_or, or_true])
abbrev rm_L_pass : Room := { frames := 7, cells := 1, slots := 6, locals := 136 }
set_option maxHeartbeats 4000000 in
set_option maxRecDepth 100000 in
theorem c_L_pass (l : Launch) (hl0 : l.stackTraces = false) (D : va_G) (cy : Nat → ClassId) (lay : Nat → Nat) (o : Nat) {u : OU} {post : Int32 → OU → Prop} {a1 : Int32} (h : w_T_X7_pass (fun v τ => post 0 (τ, Int32.toInt64 v, u.2.2)) (fun E τ => (E = xIA ∧ post 1 (τ, u.2)) ∨ (E = xIS ∧ post 2 (τ, u.2))) u.1 a1) (sz : Nat) : Met l yL_pass (wsL_pass ++ lkL) rm_L_pass (va_Pc [.ref (lay 0), .int a1, .ref o] (woI D cy lay o u sz)) (va_Qi post (woO D cy lay o) (woA lay o sz)) 1 6 (woA lay o sz) := by
  refine wo_ofH (cc := cL_pass) (maxL := 4) (ret := some .int) (own := RL) (hh := [(0, 10, 13, 21), (0, 10, 16, 23)]) (I := woI D cy lay o u) (Qc := fun sz => va_Qi post (woO D cy lay o) (woA lay o sz)) (fr := woA lay o) woI_sz (by decide) rfl (Nat.le_of_ble_eq_true rfl) rfl ?_
  intro p e s m args below meth c ls hC hr hlocks htab hI hl
  obtain ⟨hT, Ga⟩ := wo_of hI.1
  have G : woG D cy lay o u s s.heap [] := ⟨hI.2.1.1, hI.2.1.2, va_S.rf⟩
  have hl : lv_has ls 4 [(0, .ref (lay 0)), (1, .int a1), (2, .ref o)] := hl
  refine lv_aload_n hC.1 hC.2.1 dL_pass_0 rfl (lv_at hl 2 rfl) ?_
  refine lv_aload_n hC.1 hC.2.1 dL_pass_1 rfl (lv_at hl 0 rfl) ?_
  refine lv_iload_n hC.1 hC.2.1 dL_pass_2 rfl (lv_at hl 1 rfl) ?_
  refine wo_iC G (ag_runVT (As := [.int a1]) (rest := [.ref o]) hC hT Ga (c_T_X7_pass l hl0 D cy lay h _) (cwV 1 hC.2.2.2.2 (gM_w gL_pass_X7_pass) rfl rfl rfl hdV_X7_pass ⟨Nat.le_of_ble_eq_true rfl, Nat.le_of_ble_eq_true rfl⟩) (ag_recv hT Ga (by decide) e_ag k_X7) rfl hl.1 rfl (Nat.le_of_ble_eq_true rfl) dL_pass_3 ⟨Nat.le_of_ble_eq_true rfl, Nat.le_of_ble_eq_true rfl⟩) (fun E9 ce9 q9 σ1 H locs h G hc1 hc2 hc3 => ?_) (fun v1 σ1 H locs h G => ?_)
  · (try dsimp only at h)
    rcases h with h | h
    · skip
      obtain ⟨rfl, h⟩ := h
      refine vx_catch (own := RL) (name := xIA) hC.2.2.2.1 [] ⟨0, 10, 13, 21⟩ [⟨0, 10, 16, 23⟩] htab (fun z hz => by cases hz) (by decide) (by decide) (hC.2.2.2.2 _ lk1) (nest_use _ rfl (hT.2.1 _ (wm 4 rfl))) hc1 hc2 hc3 ?_
      refine lv_astore_n (lv' := [(3, .ref q9), (0, .ref (lay 0)), (1, .int a1), (2, .ref o)]) hC.1 hC.2.1 dL_pass_13 rfl hl (by decide) rfl (fun ls hl => ?_)
      refine lv_iconst (v := 1) hC.1 hC.2.1 dL_pass_14 (by decide) ?_
      refine W.widen (k := 1) (n := 6) (by decide) (by decide) ?_
      exact wo_iret hC hr hlocks G h dL_pass_15
    obtain ⟨rfl, h⟩ := h
    refine vx_catch (own := RL) (name := xIS) hC.2.2.2.1 [⟨0, 10, 13, 21⟩] ⟨0, 10, 16, 23⟩ [] htab (fun z hz => by
        rw [List.mem_singleton] at hz
        subst hz
        exact Or.inr ⟨by decide, _, hC.2.2.2.2 _ lk1, hI.2.2 (xIS, xIA) (by decide +kernel)⟩) (by decide) (by decide) (hC.2.2.2.2 _ lk2) (nest_use _ rfl (hT.2.1 _ (wm 5 rfl))) hc1 hc2 hc3 ?_
    refine lv_astore_n (lv' := [(3, .ref q9), (0, .ref (lay 0)), (1, .int a1), (2, .ref o)]) hC.1 hC.2.1 dL_pass_16 rfl hl (by decide) rfl (fun ls hl => ?_)
    refine lv_iconst (v := 2) hC.1 hC.2.1 dL_pass_17 (by decide) ?_
    refine W.widen (k := 1) (n := 6) (by decide) (by decide) ?_
    exact wo_iret hC hr hlocks G h dL_pass_18
  (try dsimp only at h)
  refine lv_i2l (v := Int32.toInt64 v1) hC.1 hC.2.1 dL_pass_6 rfl ?_
  refine wo_putn hC hT.1 G i_L_pass_X8 (nest_use _ rfl (hT.2.1 _ (wm 6 rfl))) dL_pass_7 (fun H locs G => ?_)
  refine lv_goto (tgt := 19) hC.1 hC.2.1 dL_pass_10 (by decide) ?_
  refine lv_iconst (v := 0) hC.1 hC.2.1 dL_pass_19 (by decide) ?_
  refine W.widen (k := 1) (n := 6) (by decide) (by decide) ?_
  exact wo_iret hC hr hlocks G h dL_pass_20
theorem hdS_L_pass : yL_pass.cls ≠ "java/lang/invoke/MethodHandle" ∧ yL_pass.cls ≠ "java/lang/invoke/VarHandle" ∧ (parseMethodDescriptor yL_pass.desc).map (fun d => d.parameters.length) = some 3 := by decide +kernel
theorem i_L_ofPlayer_X8 : ∀ w ∈ wsX80, w ∈ wsL_ofPlayer ++ lkL := fun w h => List.mem_append_left _ (by unfold wsL_ofPlayer; simp only [List.mem_cons, List.mem_append, h, true_or, or_true])
abbrev rm_L_ofPlayer : Room := { frames := 8, cells := 2, slots := 12, locals := 126 }
set_option maxHeartbeats 4000000 in
set_option maxRecDepth 100000 in
theorem c_L_ofPlayer (l : Launch) (hl0 : l.stackTraces = false) (D : va_G) (cy : Nat → ClassId) (lay : Nat → Nat) (o : Nat) {u : OU} {post : Int32 → OU → Prop} {a1 : Int32} {a2 : Int32} (h : w_T_X7_ofPlayer (fun v τ => post 0 (τ, Int32.toInt64 v, u.2.2)) (fun E τ => (E = xIO ∧ post 1 (τ, u.2)) ∨ (E = xIA ∧ post 2 (τ, u.2))) u.1 a1 a2) (sz : Nat) : Met l yL_ofPlayer (wsL_ofPlayer ++ lkL) rm_L_ofPlayer (va_Pc [.ref (lay 0), .int a1, .int a2, .ref o] (woI D cy lay o u sz)) (va_Qi post (woO D cy lay o) (woA lay o sz)) 2 12 (woA lay o sz) := by
  refine wo_ofH (cc := cL_ofPlayer) (maxL := 5) (ret := some .int) (own := RL) (hh := [(0, 11, 14, 19), (0, 11, 18, 21)]) (I := woI D cy lay o u) (Qc := fun sz => va_Qi post (woO D cy lay o) (woA lay o sz)) (fr := woA lay o) woI_sz (by decide) rfl (Nat.le_of_ble_eq_true rfl) rfl ?_
  intro p e s m args below meth c ls hC hr hlocks htab hI hl
  obtain ⟨hT, Ga⟩ := wo_of hI.1
  have G : woG D cy lay o u s s.heap [] := ⟨hI.2.1.1, hI.2.1.2, va_S.rf⟩
  have hl : lv_has ls 5 [(0, .ref (lay 0)), (1, .int a1), (2, .int a2), (3, .ref o)] := hl
  refine lv_aload_n hC.1 hC.2.1 dL_ofPlayer_0 rfl (lv_at hl 3 rfl) ?_
  refine lv_aload_n hC.1 hC.2.1 dL_ofPlayer_1 rfl (lv_at hl 0 rfl) ?_
  refine lv_iload_n hC.1 hC.2.1 dL_ofPlayer_2 rfl (lv_at hl 1 rfl) ?_
  refine lv_iload_n hC.1 hC.2.1 dL_ofPlayer_3 rfl (lv_at hl 2 rfl) ?_
  refine wo_iC G (ag_runVT (As := [.int a1, .int a2]) (rest := [.ref o]) hC hT Ga (c_T_X7_ofPlayer l hl0 D cy lay h _) (cwV 2 hC.2.2.2.2 (gM_w gL_ofPlayer_X7_ofPlayer) rfl rfl rfl hdV_X7_ofPlayer ⟨Nat.le_of_ble_eq_true rfl, Nat.le_of_ble_eq_true rfl⟩) (ag_recv hT Ga (by decide) e_ag k_X7) rfl hl.1 rfl (Nat.le_of_ble_eq_true rfl) dL_ofPlayer_4 ⟨Nat.le_of_ble_eq_true rfl, Nat.le_of_ble_eq_true rfl⟩) (fun E9 ce9 q9 σ1 H locs h G hc1 hc2 hc3 => ?_) (fun v1 σ1 H locs h G => ?_)
  · (try dsimp only at h)
    rcases h with h | h
    · skip
      obtain ⟨rfl, h⟩ := h
      refine vx_catch (own := RL) (name := xIO) hC.2.2.2.1 [] ⟨0, 11, 14, 19⟩ [⟨0, 11, 18, 21⟩] htab (fun z hz => by cases hz) (by decide) (by decide) (hC.2.2.2.2 _ lk0) (nest_use _ rfl (hT.2.1 _ (wm 3 rfl))) hc1 hc2 hc3 ?_
      refine lv_astore (lv' := [(4, .ref q9), (0, .ref (lay 0)), (1, .int a1), (2, .int a2), (3, .ref o)]) hC.1 hC.2.1 dL_ofPlayer_14 hl (by decide) rfl (fun ls hl => ?_)
      refine lv_iconst (v := 1) hC.1 hC.2.1 dL_ofPlayer_16 (by decide) ?_
      refine W.widen (k := 2) (n := 12) (by decide) (by decide) ?_
      exact wo_iret hC hr hlocks G h dL_ofPlayer_17
    obtain ⟨rfl, h⟩ := h
    refine vx_catch (own := RL) (name := xIA) hC.2.2.2.1 [⟨0, 11, 14, 19⟩] ⟨0, 11, 18, 21⟩ [] htab (fun z hz => by
        rw [List.mem_singleton] at hz
        subst hz
        exact Or.inr ⟨by decide, _, hC.2.2.2.2 _ lk0, hI.2.2 (xIA, xIO) (by decide +kernel)⟩) (by decide) (by decide) (hC.2.2.2.2 _ lk1) (nest_use _ rfl (hT.2.1 _ (wm 4 rfl))) hc1 hc2 hc3 ?_
    refine lv_astore (lv' := [(4, .ref q9), (0, .ref (lay 0)), (1, .int a1), (2, .int a2), (3, .ref o)]) hC.1 hC.2.1 dL_ofPlayer_18 hl (by decide) rfl (fun ls hl => ?_)
    refine lv_iconst (v := 2) hC.1 hC.2.1 dL_ofPlayer_20 (by decide) ?_
    refine W.widen (k := 2) (n := 12) (by decide) (by decide) ?_
    exact wo_iret hC hr hlocks G h dL_ofPlayer_21
  (try dsimp only at h)
  refine lv_i2l (v := Int32.toInt64 v1) hC.1 hC.2.1 dL_ofPlayer_7 rfl ?_
  refine wo_putn hC hT.1 G i_L_ofPlayer_X8 (nest_use _ rfl (hT.2.1 _ (wm 6 rfl))) dL_ofPlayer_8 (fun H locs G => ?_)
  refine lv_goto (tgt := 22) hC.1 hC.2.1 dL_ofPlayer_11 (by decide) ?_
  refine lv_iconst (v := 0) hC.1 hC.2.1 dL_ofPlayer_22 (by decide) ?_
  refine W.widen (k := 2) (n := 12) (by decide) (by decide) ?_
  exact wo_iret hC hr hlocks G h dL_ofPlayer_23
theorem hdS_L_ofPlayer : yL_ofPlayer.cls ≠ "java/lang/invoke/MethodHandle" ∧ yL_ofPlayer.cls ≠ "java/lang/invoke/VarHandle" ∧ (parseMethodDescriptor yL_ofPlayer.desc).map (fun d => d.parameters.length) = some 4 := by decide +kernel
theorem i_L_ofSong_X8 : ∀ w ∈ wsX80, w ∈ wsL_ofSong ++ lkL := fun w h => List.mem_append_left _ (by unfold wsL_ofSong; simp only [List.mem_cons, List.mem_append, h, true_or, or_true])
abbrev rm_L_ofSong : Room := { frames := 8, cells := 2, slots := 12, locals := 125 }
set_option maxHeartbeats 4000000 in
set_option maxRecDepth 100000 in
theorem c_L_ofSong (l : Launch) (hl0 : l.stackTraces = false) (D : va_G) (cy : Nat → ClassId) (lay : Nat → Nat) (o : Nat) {u : OU} {post : Int32 → OU → Prop} {a1 : Int32} {a2 : Int32} (h : w_T_X7_ofSong (fun v τ => post 0 (τ, Int32.toInt64 v, u.2.2)) (fun E τ => (E = xIO ∧ post 1 (τ, u.2)) ∨ (E = xIA ∧ post 2 (τ, u.2))) u.1 a1 a2) (sz : Nat) : Met l yL_ofSong (wsL_ofSong ++ lkL) rm_L_ofSong (va_Pc [.ref (lay 0), .int a1, .int a2, .ref o] (woI D cy lay o u sz)) (va_Qi post (woO D cy lay o) (woA lay o sz)) 2 12 (woA lay o sz) := by
  refine wo_ofH (cc := cL_ofSong) (maxL := 5) (ret := some .int) (own := RL) (hh := [(0, 11, 14, 19), (0, 11, 18, 21)]) (I := woI D cy lay o u) (Qc := fun sz => va_Qi post (woO D cy lay o) (woA lay o sz)) (fr := woA lay o) woI_sz (by decide) rfl (Nat.le_of_ble_eq_true rfl) rfl ?_
  intro p e s m args below meth c ls hC hr hlocks htab hI hl
  obtain ⟨hT, Ga⟩ := wo_of hI.1
  have G : woG D cy lay o u s s.heap [] := ⟨hI.2.1.1, hI.2.1.2, va_S.rf⟩
  have hl : lv_has ls 5 [(0, .ref (lay 0)), (1, .int a1), (2, .int a2), (3, .ref o)] := hl
  refine lv_aload_n hC.1 hC.2.1 dL_ofSong_0 rfl (lv_at hl 3 rfl) ?_
  refine lv_aload_n hC.1 hC.2.1 dL_ofSong_1 rfl (lv_at hl 0 rfl) ?_
  refine lv_iload_n hC.1 hC.2.1 dL_ofSong_2 rfl (lv_at hl 1 rfl) ?_
  refine lv_iload_n hC.1 hC.2.1 dL_ofSong_3 rfl (lv_at hl 2 rfl) ?_
  refine wo_iC G (ag_runVT (As := [.int a1, .int a2]) (rest := [.ref o]) hC hT Ga (c_T_X7_ofSong l hl0 D cy lay h _) (cwV 2 hC.2.2.2.2 (gM_w gL_ofSong_X7_ofSong) rfl rfl rfl hdV_X7_ofSong ⟨Nat.le_of_ble_eq_true rfl, Nat.le_of_ble_eq_true rfl⟩) (ag_recv hT Ga (by decide) e_ag k_X7) rfl hl.1 rfl (Nat.le_of_ble_eq_true rfl) dL_ofSong_4 ⟨Nat.le_of_ble_eq_true rfl, Nat.le_of_ble_eq_true rfl⟩) (fun E9 ce9 q9 σ1 H locs h G hc1 hc2 hc3 => ?_) (fun v1 σ1 H locs h G => ?_)
  · (try dsimp only at h)
    rcases h with h | h
    · skip
      obtain ⟨rfl, h⟩ := h
      refine vx_catch (own := RL) (name := xIO) hC.2.2.2.1 [] ⟨0, 11, 14, 19⟩ [⟨0, 11, 18, 21⟩] htab (fun z hz => by cases hz) (by decide) (by decide) (hC.2.2.2.2 _ lk0) (nest_use _ rfl (hT.2.1 _ (wm 3 rfl))) hc1 hc2 hc3 ?_
      refine lv_astore (lv' := [(4, .ref q9), (0, .ref (lay 0)), (1, .int a1), (2, .int a2), (3, .ref o)]) hC.1 hC.2.1 dL_ofSong_14 hl (by decide) rfl (fun ls hl => ?_)
      refine lv_iconst (v := 1) hC.1 hC.2.1 dL_ofSong_16 (by decide) ?_
      refine W.widen (k := 2) (n := 12) (by decide) (by decide) ?_
      exact wo_iret hC hr hlocks G h dL_ofSong_17
    obtain ⟨rfl, h⟩ := h
    refine vx_catch (own := RL) (name := xIA) hC.2.2.2.1 [⟨0, 11, 14, 19⟩] ⟨0, 11, 18, 21⟩ [] htab (fun z hz => by
        rw [List.mem_singleton] at hz
        subst hz
        exact Or.inr ⟨by decide, _, hC.2.2.2.2 _ lk0, hI.2.2 (xIA, xIO) (by decide +kernel)⟩) (by decide) (by decide) (hC.2.2.2.2 _ lk1) (nest_use _ rfl (hT.2.1 _ (wm 4 rfl))) hc1 hc2 hc3 ?_
    refine lv_astore (lv' := [(4, .ref q9), (0, .ref (lay 0)), (1, .int a1), (2, .int a2), (3, .ref o)]) hC.1 hC.2.1 dL_ofSong_18 hl (by decide) rfl (fun ls hl => ?_)
    refine lv_iconst (v := 2) hC.1 hC.2.1 dL_ofSong_20 (by decide) ?_
    refine W.widen (k := 2) (n := 12) (by decide) (by decide) ?_
    exact wo_iret hC hr hlocks G h dL_ofSong_21
  (try dsimp only at h)
  refine lv_i2l (v := Int32.toInt64 v1) hC.1 hC.2.1 dL_ofSong_7 rfl ?_
  refine wo_putn hC hT.1 G i_L_ofSong_X8 (nest_use _ rfl (hT.2.1 _ (wm 6 rfl))) dL_ofSong_8 (fun H locs G => ?_)
  refine lv_goto (tgt := 22) hC.1 hC.2.1 dL_ofSong_11 (by decide) ?_
  refine lv_iconst (v := 0) hC.1 hC.2.1 dL_ofSong_22 (by decide) ?_
  refine W.widen (k := 2) (n := 12) (by decide) (by decide) ?_
  exact wo_iret hC hr hlocks G h dL_ofSong_23
theorem hdS_L_ofSong : yL_ofSong.cls ≠ "java/lang/invoke/MethodHandle" ∧ yL_ofSong.cls ≠ "java/lang/invoke/VarHandle" ∧ (parseMethodDescriptor yL_ofSong.desc).map (fun d => d.parameters.length) = some 4 := by decide +kernel
theorem i_L_ofBand_X8 : ∀ w ∈ wsX80, w ∈ wsL_ofBand ++ lkL := fun w h => List.mem_append_left _ (by unfold wsL_ofBand; simp only [List.mem_cons, List.mem_append, h, true_or, or_true])
abbrev rm_L_ofBand : Room := { frames := 8, cells := 2, slots := 12, locals := 125 }
set_option maxHeartbeats 4000000 in
set_option maxRecDepth 100000 in
theorem c_L_ofBand (l : Launch) (hl0 : l.stackTraces = false) (D : va_G) (cy : Nat → ClassId) (lay : Nat → Nat) (o : Nat) {u : OU} {post : Int32 → OU → Prop} {a1 : Int32} {a2 : Int32} (h : w_T_X7_ofBand (fun v τ => post 0 (τ, Int32.toInt64 v, u.2.2)) (fun E τ => (E = xIO ∧ post 1 (τ, u.2)) ∨ (E = xIA ∧ post 2 (τ, u.2))) u.1 a1 a2) (sz : Nat) : Met l yL_ofBand (wsL_ofBand ++ lkL) rm_L_ofBand (va_Pc [.ref (lay 0), .int a1, .int a2, .ref o] (woI D cy lay o u sz)) (va_Qi post (woO D cy lay o) (woA lay o sz)) 2 12 (woA lay o sz) := by
  refine wo_ofH (cc := cL_ofBand) (maxL := 5) (ret := some .int) (own := RL) (hh := [(0, 11, 14, 19), (0, 11, 18, 21)]) (I := woI D cy lay o u) (Qc := fun sz => va_Qi post (woO D cy lay o) (woA lay o sz)) (fr := woA lay o) woI_sz (by decide) rfl (Nat.le_of_ble_eq_true rfl) rfl ?_
  intro p e s m args below meth c ls hC hr hlocks htab hI hl
  obtain ⟨hT, Ga⟩ := wo_of hI.1
  have G : woG D cy lay o u s s.heap [] := ⟨hI.2.1.1, hI.2.1.2, va_S.rf⟩
  have hl : lv_has ls 5 [(0, .ref (lay 0)), (1, .int a1), (2, .int a2), (3, .ref o)] := hl
  refine lv_aload_n hC.1 hC.2.1 dL_ofBand_0 rfl (lv_at hl 3 rfl) ?_
  refine lv_aload_n hC.1 hC.2.1 dL_ofBand_1 rfl (lv_at hl 0 rfl) ?_
  refine lv_iload_n hC.1 hC.2.1 dL_ofBand_2 rfl (lv_at hl 1 rfl) ?_
  refine lv_iload_n hC.1 hC.2.1 dL_ofBand_3 rfl (lv_at hl 2 rfl) ?_
  refine wo_iC G (ag_runVT (As := [.int a1, .int a2]) (rest := [.ref o]) hC hT Ga (c_T_X7_ofBand l hl0 D cy lay h _) (cwV 2 hC.2.2.2.2 (gM_w gL_ofBand_X7_ofBand) rfl rfl rfl hdV_X7_ofBand ⟨Nat.le_of_ble_eq_true rfl, Nat.le_of_ble_eq_true rfl⟩) (ag_recv hT Ga (by decide) e_ag k_X7) rfl hl.1 rfl (Nat.le_of_ble_eq_true rfl) dL_ofBand_4 ⟨Nat.le_of_ble_eq_true rfl, Nat.le_of_ble_eq_true rfl⟩) (fun E9 ce9 q9 σ1 H locs h G hc1 hc2 hc3 => ?_) (fun v1 σ1 H locs h G => ?_)
  · (try dsimp only at h)
    rcases h with h | h
    · skip
      obtain ⟨rfl, h⟩ := h
      refine vx_catch (own := RL) (name := xIO) hC.2.2.2.1 [] ⟨0, 11, 14, 19⟩ [⟨0, 11, 18, 21⟩] htab (fun z hz => by cases hz) (by decide) (by decide) (hC.2.2.2.2 _ lk0) (nest_use _ rfl (hT.2.1 _ (wm 3 rfl))) hc1 hc2 hc3 ?_
      refine lv_astore (lv' := [(4, .ref q9), (0, .ref (lay 0)), (1, .int a1), (2, .int a2), (3, .ref o)]) hC.1 hC.2.1 dL_ofBand_14 hl (by decide) rfl (fun ls hl => ?_)
      refine lv_iconst (v := 1) hC.1 hC.2.1 dL_ofBand_16 (by decide) ?_
      refine W.widen (k := 2) (n := 12) (by decide) (by decide) ?_
      exact wo_iret hC hr hlocks G h dL_ofBand_17
    obtain ⟨rfl, h⟩ := h
    refine vx_catch (own := RL) (name := xIA) hC.2.2.2.1 [⟨0, 11, 14, 19⟩] ⟨0, 11, 18, 21⟩ [] htab (fun z hz => by
        rw [List.mem_singleton] at hz
        subst hz
        exact Or.inr ⟨by decide, _, hC.2.2.2.2 _ lk0, hI.2.2 (xIA, xIO) (by decide +kernel)⟩) (by decide) (by decide) (hC.2.2.2.2 _ lk1) (nest_use _ rfl (hT.2.1 _ (wm 4 rfl))) hc1 hc2 hc3 ?_
    refine lv_astore (lv' := [(4, .ref q9), (0, .ref (lay 0)), (1, .int a1), (2, .int a2), (3, .ref o)]) hC.1 hC.2.1 dL_ofBand_18 hl (by decide) rfl (fun ls hl => ?_)
    refine lv_iconst (v := 2) hC.1 hC.2.1 dL_ofBand_20 (by decide) ?_
    refine W.widen (k := 2) (n := 12) (by decide) (by decide) ?_
    exact wo_iret hC hr hlocks G h dL_ofBand_21
  (try dsimp only at h)
  refine lv_i2l (v := Int32.toInt64 v1) hC.1 hC.2.1 dL_ofBand_7 rfl ?_
  refine wo_putn hC hT.1 G i_L_ofBand_X8 (nest_use _ rfl (hT.2.1 _ (wm 6 rfl))) dL_ofBand_8 (fun H locs G => ?_)
  refine lv_goto (tgt := 22) hC.1 hC.2.1 dL_ofBand_11 (by decide) ?_
  refine lv_iconst (v := 0) hC.1 hC.2.1 dL_ofBand_22 (by decide) ?_
  refine W.widen (k := 2) (n := 12) (by decide) (by decide) ?_
  exact wo_iret hC hr hlocks G h dL_ofBand_23
theorem hdS_L_ofBand : yL_ofBand.cls ≠ "java/lang/invoke/MethodHandle" ∧ yL_ofBand.cls ≠ "java/lang/invoke/VarHandle" ∧ (parseMethodDescriptor yL_ofBand.desc).map (fun d => d.parameters.length) = some 4 := by decide +kernel
theorem i_L_ofWedding_X8 : ∀ w ∈ wsX80, w ∈ wsL_ofWedding ++ lkL := fun w h => List.mem_append_left _ (by unfold wsL_ofWedding; simp only [List.mem_cons, List.mem_append, h, true_or, or_true])
abbrev rm_L_ofWedding : Room := { frames := 8, cells := 2, slots := 12, locals := 126 }
set_option maxHeartbeats 4000000 in
set_option maxRecDepth 100000 in
theorem c_L_ofWedding (l : Launch) (hl0 : l.stackTraces = false) (D : va_G) (cy : Nat → ClassId) (lay : Nat → Nat) (o : Nat) {u : OU} {post : Int32 → OU → Prop} {a1 : Int32} {a2 : Int32} (h : w_T_X7_ofWedding (fun v τ => post 0 (τ, Int32.toInt64 v, u.2.2)) (fun E τ => (E = xIO ∧ post 1 (τ, u.2)) ∨ (E = xIA ∧ post 2 (τ, u.2))) u.1 a1 a2) (sz : Nat) : Met l yL_ofWedding (wsL_ofWedding ++ lkL) rm_L_ofWedding (va_Pc [.ref (lay 0), .int a1, .int a2, .ref o] (woI D cy lay o u sz)) (va_Qi post (woO D cy lay o) (woA lay o sz)) 2 12 (woA lay o sz) := by
  refine wo_ofH (cc := cL_ofWedding) (maxL := 5) (ret := some .int) (own := RL) (hh := [(0, 11, 14, 19), (0, 11, 18, 21)]) (I := woI D cy lay o u) (Qc := fun sz => va_Qi post (woO D cy lay o) (woA lay o sz)) (fr := woA lay o) woI_sz (by decide) rfl (Nat.le_of_ble_eq_true rfl) rfl ?_
  intro p e s m args below meth c ls hC hr hlocks htab hI hl
  obtain ⟨hT, Ga⟩ := wo_of hI.1
  have G : woG D cy lay o u s s.heap [] := ⟨hI.2.1.1, hI.2.1.2, va_S.rf⟩
  have hl : lv_has ls 5 [(0, .ref (lay 0)), (1, .int a1), (2, .int a2), (3, .ref o)] := hl
  refine lv_aload_n hC.1 hC.2.1 dL_ofWedding_0 rfl (lv_at hl 3 rfl) ?_
  refine lv_aload_n hC.1 hC.2.1 dL_ofWedding_1 rfl (lv_at hl 0 rfl) ?_
  refine lv_iload_n hC.1 hC.2.1 dL_ofWedding_2 rfl (lv_at hl 1 rfl) ?_
  refine lv_iload_n hC.1 hC.2.1 dL_ofWedding_3 rfl (lv_at hl 2 rfl) ?_
  refine wo_iC G (ag_runVT (As := [.int a1, .int a2]) (rest := [.ref o]) hC hT Ga (c_T_X7_ofWedding l hl0 D cy lay h _) (cwV 2 hC.2.2.2.2 (gM_w gL_ofWedding_X7_ofWedding) rfl rfl rfl hdV_X7_ofWedding ⟨Nat.le_of_ble_eq_true rfl, Nat.le_of_ble_eq_true rfl⟩) (ag_recv hT Ga (by decide) e_ag k_X7) rfl hl.1 rfl (Nat.le_of_ble_eq_true rfl) dL_ofWedding_4 ⟨Nat.le_of_ble_eq_true rfl, Nat.le_of_ble_eq_true rfl⟩) (fun E9 ce9 q9 σ1 H locs h G hc1 hc2 hc3 => ?_) (fun v1 σ1 H locs h G => ?_)
  · (try dsimp only at h)
    rcases h with h | h
    · skip
      obtain ⟨rfl, h⟩ := h
      refine vx_catch (own := RL) (name := xIO) hC.2.2.2.1 [] ⟨0, 11, 14, 19⟩ [⟨0, 11, 18, 21⟩] htab (fun z hz => by cases hz) (by decide) (by decide) (hC.2.2.2.2 _ lk0) (nest_use _ rfl (hT.2.1 _ (wm 3 rfl))) hc1 hc2 hc3 ?_
      refine lv_astore (lv' := [(4, .ref q9), (0, .ref (lay 0)), (1, .int a1), (2, .int a2), (3, .ref o)]) hC.1 hC.2.1 dL_ofWedding_14 hl (by decide) rfl (fun ls hl => ?_)
      refine lv_iconst (v := 1) hC.1 hC.2.1 dL_ofWedding_16 (by decide) ?_
      refine W.widen (k := 2) (n := 12) (by decide) (by decide) ?_
      exact wo_iret hC hr hlocks G h dL_ofWedding_17
    obtain ⟨rfl, h⟩ := h
    refine vx_catch (own := RL) (name := xIA) hC.2.2.2.1 [⟨0, 11, 14, 19⟩] ⟨0, 11, 18, 21⟩ [] htab (fun z hz => by
        rw [List.mem_singleton] at hz
        subst hz
        exact Or.inr ⟨by decide, _, hC.2.2.2.2 _ lk0, hI.2.2 (xIA, xIO) (by decide +kernel)⟩) (by decide) (by decide) (hC.2.2.2.2 _ lk1) (nest_use _ rfl (hT.2.1 _ (wm 4 rfl))) hc1 hc2 hc3 ?_
    refine lv_astore (lv' := [(4, .ref q9), (0, .ref (lay 0)), (1, .int a1), (2, .int a2), (3, .ref o)]) hC.1 hC.2.1 dL_ofWedding_18 hl (by decide) rfl (fun ls hl => ?_)
    refine lv_iconst (v := 2) hC.1 hC.2.1 dL_ofWedding_20 (by decide) ?_
    refine W.widen (k := 2) (n := 12) (by decide) (by decide) ?_
    exact wo_iret hC hr hlocks G h dL_ofWedding_21
  (try dsimp only at h)
  refine lv_i2l (v := Int32.toInt64 v1) hC.1 hC.2.1 dL_ofWedding_7 rfl ?_
  refine wo_putn hC hT.1 G i_L_ofWedding_X8 (nest_use _ rfl (hT.2.1 _ (wm 6 rfl))) dL_ofWedding_8 (fun H locs G => ?_)
  refine lv_goto (tgt := 22) hC.1 hC.2.1 dL_ofWedding_11 (by decide) ?_
  refine lv_iconst (v := 0) hC.1 hC.2.1 dL_ofWedding_22 (by decide) ?_
  refine W.widen (k := 2) (n := 12) (by decide) (by decide) ?_
  exact wo_iret hC hr hlocks G h dL_ofWedding_23
theorem hdS_L_ofWedding : yL_ofWedding.cls ≠ "java/lang/invoke/MethodHandle" ∧ yL_ofWedding.cls ≠ "java/lang/invoke/VarHandle" ∧ (parseMethodDescriptor yL_ofWedding.desc).map (fun d => d.parameters.length) = some 4 := by decide +kernel
theorem i_L_drive_X8 : ∀ w ∈ wsX80, w ∈ wsL_drive ++ lkL := fun w h => List.mem_append_left _ (by unfold wsL_drive; simp only [List.mem_cons, List.mem_append, h, true_or, or_true])
abbrev rm_L_drive : Room := { frames := 8, cells := 2, slots := 12, locals := 124 }
set_option maxHeartbeats 4000000 in
set_option maxRecDepth 100000 in
theorem c_L_drive (l : Launch) (hl0 : l.stackTraces = false) (D : va_G) (cy : Nat → ClassId) (lay : Nat → Nat) (o : Nat) {u : OU} {post : Int32 → OU → Prop} {a1 : Int32} {a2 : Int32} (h : w_T_X7_drive (fun v τ => post 0 (τ, Int32.toInt64 v, u.2.2)) (fun E τ => (E = xIO ∧ post 1 (τ, u.2))) u.1 a1 a2) (sz : Nat) : Met l yL_drive (wsL_drive ++ lkL) rm_L_drive (va_Pc [.ref (lay 0), .int a1, .int a2, .ref o] (woI D cy lay o u sz)) (va_Qi post (woO D cy lay o) (woA lay o sz)) 2 12 (woA lay o sz) := by
  refine wo_ofH (cc := cL_drive) (maxL := 5) (ret := some .int) (own := RL) (hh := [(0, 11, 14, 19)]) (I := woI D cy lay o u) (Qc := fun sz => va_Qi post (woO D cy lay o) (woA lay o sz)) (fr := woA lay o) woI_sz (by decide) rfl (Nat.le_of_ble_eq_true rfl) rfl ?_
  intro p e s m args below meth c ls hC hr hlocks htab hI hl
  obtain ⟨hT, Ga⟩ := wo_of hI.1
  have G : woG D cy lay o u s s.heap [] := ⟨hI.2.1.1, hI.2.1.2, va_S.rf⟩
  have hl : lv_has ls 5 [(0, .ref (lay 0)), (1, .int a1), (2, .int a2), (3, .ref o)] := hl
  refine lv_aload_n hC.1 hC.2.1 dL_drive_0 rfl (lv_at hl 3 rfl) ?_
  refine lv_aload_n hC.1 hC.2.1 dL_drive_1 rfl (lv_at hl 0 rfl) ?_
  refine lv_iload_n hC.1 hC.2.1 dL_drive_2 rfl (lv_at hl 1 rfl) ?_
  refine lv_iload_n hC.1 hC.2.1 dL_drive_3 rfl (lv_at hl 2 rfl) ?_
  refine wo_iC G (ag_runVT (As := [.int a1, .int a2]) (rest := [.ref o]) hC hT Ga (c_T_X7_drive l hl0 D cy lay h _) (cwV 2 hC.2.2.2.2 (gM_w gL_drive_X7_drive) rfl rfl rfl hdV_X7_drive ⟨Nat.le_of_ble_eq_true rfl, Nat.le_of_ble_eq_true rfl⟩) (ag_recv hT Ga (by decide) e_ag k_X7) rfl hl.1 rfl (Nat.le_of_ble_eq_true rfl) dL_drive_4 ⟨Nat.le_of_ble_eq_true rfl, Nat.le_of_ble_eq_true rfl⟩) (fun E9 ce9 q9 σ1 H locs h G hc1 hc2 hc3 => ?_) (fun v1 σ1 H locs h G => ?_)
  · (try dsimp only at h)
    obtain ⟨rfl, h⟩ := h
    refine vx_catch (own := RL) (name := xIO) hC.2.2.2.1 [] ⟨0, 11, 14, 19⟩ [] htab (fun z hz => by cases hz) (by decide) (by decide) (hC.2.2.2.2 _ lk0) (nest_use _ rfl (hT.2.1 _ (wm 3 rfl))) hc1 hc2 hc3 ?_
    refine lv_astore (lv' := [(4, .ref q9), (0, .ref (lay 0)), (1, .int a1), (2, .int a2), (3, .ref o)]) hC.1 hC.2.1 dL_drive_14 hl (by decide) rfl (fun ls hl => ?_)
    refine lv_iconst (v := 1) hC.1 hC.2.1 dL_drive_16 (by decide) ?_
    refine W.widen (k := 2) (n := 12) (by decide) (by decide) ?_
    exact wo_iret hC hr hlocks G h dL_drive_17
  (try dsimp only at h)
  refine lv_i2l (v := Int32.toInt64 v1) hC.1 hC.2.1 dL_drive_7 rfl ?_
  refine wo_putn hC hT.1 G i_L_drive_X8 (nest_use _ rfl (hT.2.1 _ (wm 6 rfl))) dL_drive_8 (fun H locs G => ?_)
  refine lv_goto (tgt := 18) hC.1 hC.2.1 dL_drive_11 (by decide) ?_
  refine lv_iconst (v := 0) hC.1 hC.2.1 dL_drive_18 (by decide) ?_
  refine W.widen (k := 2) (n := 12) (by decide) (by decide) ?_
  exact wo_iret hC hr hlocks G h dL_drive_19
theorem hdS_L_drive : yL_drive.cls ≠ "java/lang/invoke/MethodHandle" ∧ yL_drive.cls ≠ "java/lang/invoke/VarHandle" ∧ (parseMethodDescriptor yL_drive.desc).map (fun d => d.parameters.length) = some 4 := by decide +kernel
theorem i_L_free_X8 : ∀ w ∈ wsX80, w ∈ wsL_free ++ lkL := fun w h => List.mem_append_left _ (by unfold wsL_free; simp only [List.mem_cons, List.mem_append, h, true_or, or_true])
abbrev rm_L_free : Room := { frames := 8, cells := 2, slots := 12, locals := 125 }
set_option maxHeartbeats 4000000 in
set_option maxRecDepth 100000 in
theorem c_L_free (l : Launch) (hl0 : l.stackTraces = false) (D : va_G) (cy : Nat → ClassId) (lay : Nat → Nat) (o : Nat) {u : OU} {post : Int32 → OU → Prop} {a1 : Int32} {a2 : Int32} (h : w_T_X7_free (fun v τ => post 0 (τ, (if v = 0 then 0 else 1), u.2.2)) (fun E τ => (E = xIO ∧ post 1 (τ, u.2))) u.1 a1 a2) (sz : Nat) : Met l yL_free (wsL_free ++ lkL) rm_L_free (va_Pc [.ref (lay 0), .int a1, .int a2, .ref o] (woI D cy lay o u sz)) (va_Qi post (woO D cy lay o) (woA lay o sz)) 2 12 (woA lay o sz) := by
  refine wo_ofH (cc := cL_free) (maxL := 5) (ret := some .int) (own := RL) (hh := [(0, 18, 21, 19)]) (I := woI D cy lay o u) (Qc := fun sz => va_Qi post (woO D cy lay o) (woA lay o sz)) (fr := woA lay o) woI_sz (by decide) rfl (Nat.le_of_ble_eq_true rfl) rfl ?_
  intro p e s m args below meth c ls hC hr hlocks htab hI hl
  obtain ⟨hT, Ga⟩ := wo_of hI.1
  have G : woG D cy lay o u s s.heap [] := ⟨hI.2.1.1, hI.2.1.2, va_S.rf⟩
  have hl : lv_has ls 5 [(0, .ref (lay 0)), (1, .int a1), (2, .int a2), (3, .ref o)] := hl
  refine lv_aload_n hC.1 hC.2.1 dL_free_0 rfl (lv_at hl 3 rfl) ?_
  refine lv_aload_n hC.1 hC.2.1 dL_free_1 rfl (lv_at hl 0 rfl) ?_
  refine lv_iload_n hC.1 hC.2.1 dL_free_2 rfl (lv_at hl 1 rfl) ?_
  refine lv_iload_n hC.1 hC.2.1 dL_free_3 rfl (lv_at hl 2 rfl) ?_
  refine wo_iC G (ag_runVT (As := [.int a1, .int a2]) (rest := [.ref o]) hC hT Ga (c_T_X7_free l hl0 D cy lay h _) (cwV 2 hC.2.2.2.2 (gM_w gL_free_X7_free) rfl rfl rfl hdV_X7_free ⟨Nat.le_of_ble_eq_true rfl, Nat.le_of_ble_eq_true rfl⟩) (ag_recv hT Ga (by decide) e_ag k_X7) rfl hl.1 rfl (Nat.le_of_ble_eq_true rfl) dL_free_4 ⟨Nat.le_of_ble_eq_true rfl, Nat.le_of_ble_eq_true rfl⟩) (fun E9 ce9 q9 σ1 H locs h G hc1 hc2 hc3 => ?_) (fun v1 σ1 H locs h G => ?_)
  · (try dsimp only at h)
    obtain ⟨rfl, h⟩ := h
    refine vx_catch (own := RL) (name := xIO) hC.2.2.2.1 [] ⟨0, 18, 21, 19⟩ [] htab (fun z hz => by cases hz) (by decide) (by decide) (hC.2.2.2.2 _ lk0) (nest_use _ rfl (hT.2.1 _ (wm 3 rfl))) hc1 hc2 hc3 ?_
    refine lv_astore (lv' := [(4, .ref q9), (0, .ref (lay 0)), (1, .int a1), (2, .int a2), (3, .ref o)]) hC.1 hC.2.1 dL_free_21 hl (by decide) rfl (fun ls hl => ?_)
    refine lv_iconst (v := 1) hC.1 hC.2.1 dL_free_23 (by decide) ?_
    refine W.widen (k := 2) (n := 12) (by decide) (by decide) ?_
    exact wo_iret hC hr hlocks G h dL_free_24
  (try dsimp only at h)
  refine lv_if_eq (tgt := 14) hC.1 hC.2.1 dL_free_7 (by decide) (fun c1 => ?_) (fun c1 => ?_)
  · rw [if_pos c1] at h
    refine lv_lconst (v := 0) hC.1 hC.2.1 dL_free_14 rfl ?_
    refine wo_putn hC hT.1 G i_L_free_X8 (nest_use _ rfl (hT.2.1 _ (wm 6 rfl))) dL_free_15 (fun H locs G => ?_)
    refine lv_goto (tgt := 25) hC.1 hC.2.1 dL_free_18 (by decide) ?_
    refine lv_iconst (v := 0) hC.1 hC.2.1 dL_free_25 (by decide) ?_
    refine W.widen (k := 2) (n := 12) (by decide) (by decide) ?_
    exact wo_iret hC hr hlocks G h dL_free_26
  · rw [if_neg c1] at h
    refine lv_lconst (v := 1) hC.1 hC.2.1 dL_free_10 rfl ?_
    refine lv_goto (tgt := 15) hC.1 hC.2.1 dL_free_11 (by decide) ?_
    refine wo_putn hC hT.1 G i_L_free_X8 (nest_use _ rfl (hT.2.1 _ (wm 6 rfl))) dL_free_15 (fun H locs G => ?_)
    refine lv_goto (tgt := 25) hC.1 hC.2.1 dL_free_18 (by decide) ?_
    refine lv_iconst (v := 0) hC.1 hC.2.1 dL_free_25 (by decide) ?_
    refine W.widen (k := 2) (n := 12) (by decide) (by decide) ?_
    exact wo_iret hC hr hlocks G h dL_free_26
theorem hdS_L_free : yL_free.cls ≠ "java/lang/invoke/MethodHandle" ∧ yL_free.cls ≠ "java/lang/invoke/VarHandle" ∧ (parseMethodDescriptor yL_free.desc).map (fun d => d.parameters.length) = some 4 := by decide +kernel
theorem i_L_filling_X8 : ∀ w ∈ wsX80, w ∈ wsL_filling ++ lkL := fun w h => List.mem_append_left _ (by unfold wsL_filling; simp only [List.mem_cons, List.mem_append, h, true_or, or_true])
abbrev rm_L_filling : Room := { frames := 8, cells := 2, slots := 12, locals := 140 }
set_option maxHeartbeats 4000000 in
set_option maxRecDepth 100000 in
theorem c_L_filling (l : Launch) (hl0 : l.stackTraces = false) (D : va_G) (cy : Nat → ClassId) (lay : Nat → Nat) (o : Nat) {u : OU} {post : Int32 → OU → Prop} {a1 : Int32} {a2 : Int32} (h : w_T_X7_filling (fun v τ => post 0 (τ, Int32.toInt64 v, u.2.2)) (fun E τ => (E = xIO ∧ post 1 (τ, u.2)) ∨ (E = xIA ∧ post 2 (τ, u.2))) u.1 a1 a2) (sz : Nat) : Met l yL_filling (wsL_filling ++ lkL) rm_L_filling (va_Pc [.ref (lay 0), .int a1, .int a2, .ref o] (woI D cy lay o u sz)) (va_Qi post (woO D cy lay o) (woA lay o sz)) 2 12 (woA lay o sz) := by
  refine wo_ofH (cc := cL_filling) (maxL := 5) (ret := some .int) (own := RL) (hh := [(0, 11, 14, 19), (0, 11, 18, 21)]) (I := woI D cy lay o u) (Qc := fun sz => va_Qi post (woO D cy lay o) (woA lay o sz)) (fr := woA lay o) woI_sz (by decide) rfl (Nat.le_of_ble_eq_true rfl) rfl ?_
  intro p e s m args below meth c ls hC hr hlocks htab hI hl
  obtain ⟨hT, Ga⟩ := wo_of hI.1
  have G : woG D cy lay o u s s.heap [] := ⟨hI.2.1.1, hI.2.1.2, va_S.rf⟩
  have hl : lv_has ls 5 [(0, .ref (lay 0)), (1, .int a1), (2, .int a2), (3, .ref o)] := hl
  refine lv_aload_n hC.1 hC.2.1 dL_filling_0 rfl (lv_at hl 3 rfl) ?_
  refine lv_aload_n hC.1 hC.2.1 dL_filling_1 rfl (lv_at hl 0 rfl) ?_
  refine lv_iload_n hC.1 hC.2.1 dL_filling_2 rfl (lv_at hl 1 rfl) ?_
  refine lv_iload_n hC.1 hC.2.1 dL_filling_3 rfl (lv_at hl 2 rfl) ?_
  refine wo_iC G (ag_runVT (As := [.int a1, .int a2]) (rest := [.ref o]) hC hT Ga (c_T_X7_filling l hl0 D cy lay h _) (cwV 2 hC.2.2.2.2 (gM_w gL_filling_X7_filling) rfl rfl rfl hdV_X7_filling ⟨Nat.le_of_ble_eq_true rfl, Nat.le_of_ble_eq_true rfl⟩) (ag_recv hT Ga (by decide) e_ag k_X7) rfl hl.1 rfl (Nat.le_of_ble_eq_true rfl) dL_filling_4 ⟨Nat.le_of_ble_eq_true rfl, Nat.le_of_ble_eq_true rfl⟩) (fun E9 ce9 q9 σ1 H locs h G hc1 hc2 hc3 => ?_) (fun v1 σ1 H locs h G => ?_)
  · (try dsimp only at h)
    rcases h with h | h
    · skip
      obtain ⟨rfl, h⟩ := h
      refine vx_catch (own := RL) (name := xIO) hC.2.2.2.1 [] ⟨0, 11, 14, 19⟩ [⟨0, 11, 18, 21⟩] htab (fun z hz => by cases hz) (by decide) (by decide) (hC.2.2.2.2 _ lk0) (nest_use _ rfl (hT.2.1 _ (wm 3 rfl))) hc1 hc2 hc3 ?_
      refine lv_astore (lv' := [(4, .ref q9), (0, .ref (lay 0)), (1, .int a1), (2, .int a2), (3, .ref o)]) hC.1 hC.2.1 dL_filling_14 hl (by decide) rfl (fun ls hl => ?_)
      refine lv_iconst (v := 1) hC.1 hC.2.1 dL_filling_16 (by decide) ?_
      refine W.widen (k := 2) (n := 12) (by decide) (by decide) ?_
      exact wo_iret hC hr hlocks G h dL_filling_17
    obtain ⟨rfl, h⟩ := h
    refine vx_catch (own := RL) (name := xIA) hC.2.2.2.1 [⟨0, 11, 14, 19⟩] ⟨0, 11, 18, 21⟩ [] htab (fun z hz => by
        rw [List.mem_singleton] at hz
        subst hz
        exact Or.inr ⟨by decide, _, hC.2.2.2.2 _ lk0, hI.2.2 (xIA, xIO) (by decide +kernel)⟩) (by decide) (by decide) (hC.2.2.2.2 _ lk1) (nest_use _ rfl (hT.2.1 _ (wm 4 rfl))) hc1 hc2 hc3 ?_
    refine lv_astore (lv' := [(4, .ref q9), (0, .ref (lay 0)), (1, .int a1), (2, .int a2), (3, .ref o)]) hC.1 hC.2.1 dL_filling_18 hl (by decide) rfl (fun ls hl => ?_)
    refine lv_iconst (v := 2) hC.1 hC.2.1 dL_filling_20 (by decide) ?_
    refine W.widen (k := 2) (n := 12) (by decide) (by decide) ?_
    exact wo_iret hC hr hlocks G h dL_filling_21
  (try dsimp only at h)
  refine lv_i2l (v := Int32.toInt64 v1) hC.1 hC.2.1 dL_filling_7 rfl ?_
  refine wo_putn hC hT.1 G i_L_filling_X8 (nest_use _ rfl (hT.2.1 _ (wm 6 rfl))) dL_filling_8 (fun H locs G => ?_)
  refine lv_goto (tgt := 22) hC.1 hC.2.1 dL_filling_11 (by decide) ?_
  refine lv_iconst (v := 0) hC.1 hC.2.1 dL_filling_22 (by decide) ?_
  refine W.widen (k := 2) (n := 12) (by decide) (by decide) ?_
  exact wo_iret hC hr hlocks G h dL_filling_23
theorem hdS_L_filling : yL_filling.cls ≠ "java/lang/invoke/MethodHandle" ∧ yL_filling.cls ≠ "java/lang/invoke/VarHandle" ∧ (parseMethodDescriptor yL_filling.desc).map (fun d => d.parameters.length) = some 4 := by decide +kernel
theorem i_L_set_X8 : ∀ w ∈ wsX80, w ∈ wsL_set ++ lkL := fun w h => List.mem_append_left _ (by unfold wsL_set; simp only [List.mem_cons, List.mem_append, h, true_or, or_true])
abbrev rm_L_set : Room := { frames := 7, cells := 1, slots := 6, locals := 104 }
set_option maxHeartbeats 4000000 in
set_option maxRecDepth 100000 in
theorem c_L_set (l : Launch) (hl0 : l.stackTraces = false) (D : va_G) (cy : Nat → ClassId) (lay : Nat → Nat) (o : Nat) {u : OU} {post : Int32 → OU → Prop} {a1 : Int32} {a2 : Int32} (h : w_T_X7_set (fun v τ => post 0 (τ, Int32.toInt64 v, u.2.2)) (fun E τ => (E = xIA ∧ post 1 (τ, u.2))) u.1 a1 a2) (sz : Nat) : Met l yL_set (wsL_set ++ lkL) rm_L_set (va_Pc [.ref (lay 0), .int a1, .int a2, .ref o] (woI D cy lay o u sz)) (va_Qi post (woO D cy lay o) (woA lay o sz)) 1 6 (woA lay o sz) := by
  refine wo_ofH (cc := cL_set) (maxL := 5) (ret := some .int) (own := RL) (hh := [(0, 11, 14, 21)]) (I := woI D cy lay o u) (Qc := fun sz => va_Qi post (woO D cy lay o) (woA lay o sz)) (fr := woA lay o) woI_sz (by decide) rfl (Nat.le_of_ble_eq_true rfl) rfl ?_
  intro p e s m args below meth c ls hC hr hlocks htab hI hl
  obtain ⟨hT, Ga⟩ := wo_of hI.1
  have G : woG D cy lay o u s s.heap [] := ⟨hI.2.1.1, hI.2.1.2, va_S.rf⟩
  have hl : lv_has ls 5 [(0, .ref (lay 0)), (1, .int a1), (2, .int a2), (3, .ref o)] := hl
  refine lv_aload_n hC.1 hC.2.1 dL_set_0 rfl (lv_at hl 3 rfl) ?_
  refine lv_aload_n hC.1 hC.2.1 dL_set_1 rfl (lv_at hl 0 rfl) ?_
  refine lv_iload_n hC.1 hC.2.1 dL_set_2 rfl (lv_at hl 1 rfl) ?_
  refine lv_iload_n hC.1 hC.2.1 dL_set_3 rfl (lv_at hl 2 rfl) ?_
  refine wo_iC G (ag_runVT (As := [.int a1, .int a2]) (rest := [.ref o]) hC hT Ga (c_T_X7_set l hl0 D cy lay h _) (cwV 2 hC.2.2.2.2 (gM_w gL_set_X7_set) rfl rfl rfl hdV_X7_set ⟨Nat.le_of_ble_eq_true rfl, Nat.le_of_ble_eq_true rfl⟩) (ag_recv hT Ga (by decide) e_ag k_X7) rfl hl.1 rfl (Nat.le_of_ble_eq_true rfl) dL_set_4 ⟨Nat.le_of_ble_eq_true rfl, Nat.le_of_ble_eq_true rfl⟩) (fun E9 ce9 q9 σ1 H locs h G hc1 hc2 hc3 => ?_) (fun v1 σ1 H locs h G => ?_)
  · (try dsimp only at h)
    obtain ⟨rfl, h⟩ := h
    refine vx_catch (own := RL) (name := xIA) hC.2.2.2.1 [] ⟨0, 11, 14, 21⟩ [] htab (fun z hz => by cases hz) (by decide) (by decide) (hC.2.2.2.2 _ lk1) (nest_use _ rfl (hT.2.1 _ (wm 4 rfl))) hc1 hc2 hc3 ?_
    refine lv_astore (lv' := [(4, .ref q9), (0, .ref (lay 0)), (1, .int a1), (2, .int a2), (3, .ref o)]) hC.1 hC.2.1 dL_set_14 hl (by decide) rfl (fun ls hl => ?_)
    refine lv_iconst (v := 1) hC.1 hC.2.1 dL_set_16 (by decide) ?_
    refine W.widen (k := 1) (n := 6) (by decide) (by decide) ?_
    exact wo_iret hC hr hlocks G h dL_set_17
  (try dsimp only at h)
  refine lv_i2l (v := Int32.toInt64 v1) hC.1 hC.2.1 dL_set_7 rfl ?_
  refine wo_putn hC hT.1 G i_L_set_X8 (nest_use _ rfl (hT.2.1 _ (wm 6 rfl))) dL_set_8 (fun H locs G => ?_)
  refine lv_goto (tgt := 18) hC.1 hC.2.1 dL_set_11 (by decide) ?_
  refine lv_iconst (v := 0) hC.1 hC.2.1 dL_set_18 (by decide) ?_
  refine W.widen (k := 1) (n := 6) (by decide) (by decide) ?_
  exact wo_iret hC hr hlocks G h dL_set_19
theorem hdS_L_set : yL_set.cls ≠ "java/lang/invoke/MethodHandle" ∧ yL_set.cls ≠ "java/lang/invoke/VarHandle" ∧ (parseMethodDescriptor yL_set.desc).map (fun d => d.parameters.length) = some 4 := by decide +kernel
theorem hdV_X7_songs : yX7_songs.cls = RX7 ∧ yX7_songs.cls ≠ "java/lang/invoke/MethodHandle" ∧ yX7_songs.cls ≠ "java/lang/invoke/VarHandle" ∧ (parseMethodDescriptor yX7_songs.desc).map (fun d => d.parameters.length) = some 1 := by decide +kernel
theorem i_L_songs_X8 : ∀ w ∈ wsX80, w ∈ wsL_songs ++ lkL := fun w h => List.mem_append_left _ (by unfold wsL_songs; simp only [List.mem_cons, List.mem_append, h, true_or, or_true])
abbrev rm_L_songs : Room := { frames := 10, cells := 40, slots := 2400, locals := 383 }
set_option maxHeartbeats 4000000 in
set_option maxRecDepth 100000 in
theorem c_L_songs (l : Launch) (hl0 : l.stackTraces = false) (D : va_G) (cy : Nat → ClassId) (lay : Nat → Nat) (o : Nat) (ac : Nat → Nat) {u : OU} {post : Int32 → OU → Prop} {a1 : Int32} (h : w_T_X7_songs (fun τ => ∀ ra : Nat, post 0 (τ, u.2.1, .ref ra)) (fun E τ => (E = xIO ∧ post 1 (τ, u.2))) u.1 a1) (sz : Nat) : Met l yL_songs (wsL_songs ++ lkL) rm_L_songs (va_Pc [.ref (lay 0), .int a1, .ref o] (woIK D cy lay o ac u sz)) (va_Qi post (woO D cy lay o) (woA lay o sz)) 40 2400 (woA lay o sz) := by
  refine wo_ofH (cc := cL_songs) (maxL := 4) (ret := some .int) (own := RL) (hh := [(0, 9, 12, 19)]) (I := woIK D cy lay o ac u) (Qc := fun sz => va_Qi post (woO D cy lay o) (woA lay o sz)) (fr := woA lay o) woIK_sz (by decide) rfl (Nat.le_of_ble_eq_true rfl) rfl ?_
  intro p e s m args below meth c ls hC hr hlocks htab hI hl
  obtain ⟨hT, Ga⟩ := wo_of hI.1.1
  have G : woG D cy lay o u s s.heap [] := ⟨hI.2.1.1, hI.2.1.2, va_S.rf⟩
  have hl : lv_has ls 4 [(0, .ref (lay 0)), (1, .int a1), (2, .ref o)] := hl
  refine lv_aload_n hC.1 hC.2.1 dL_songs_0 rfl (lv_at hl 2 rfl) ?_
  refine lv_aload_n hC.1 hC.2.1 dL_songs_1 rfl (lv_at hl 0 rfl) ?_
  refine lv_iload_n hC.1 hC.2.1 dL_songs_2 rfl (lv_at hl 1 rfl) ?_
  refine wo_rC G (va_runIKt (As := [.int a1]) (rest := [.ref o]) hC hI.1 (c_T_X7_songs l hl0 D cy lay ac h _) (cwV 1 hC.2.2.2.2 (gM_w gL_songs_X7_songs) rfl rfl rfl hdV_X7_songs ⟨Nat.le_of_ble_eq_true rfl, Nat.le_of_ble_eq_true rfl⟩) (ag_recv hT Ga (by decide) e_ag k_X7) rfl hl.1 rfl (Nat.le_of_ble_eq_true rfl) dL_songs_3 ⟨Nat.le_of_ble_eq_true rfl, Nat.le_of_ble_eq_true rfl⟩) (fun E9 ce9 q9 σ1 H locs h G hc1 hc2 hc3 => ?_) (fun ra σ1 H locs h G => ?_)
  · (try dsimp only at h)
    obtain ⟨rfl, h⟩ := h
    refine vx_catch (own := RL) (name := xIO) hC.2.2.2.1 [] ⟨0, 9, 12, 19⟩ [] htab (fun z hz => by cases hz) (by decide) (by decide) (hC.2.2.2.2 _ lk0) (nest_use _ rfl (hT.2.1 _ (wm 3 rfl))) hc1 hc2 hc3 ?_
    refine lv_astore_n (lv' := [(3, .ref q9), (0, .ref (lay 0)), (1, .int a1), (2, .ref o)]) hC.1 hC.2.1 dL_songs_12 rfl hl (by decide) rfl (fun ls hl => ?_)
    refine lv_iconst (v := 1) hC.1 hC.2.1 dL_songs_13 (by decide) ?_
    refine W.widen (k := 40) (n := 2400) (by decide) (by decide) ?_
    exact wo_iret hC hr hlocks G h dL_songs_14
  (try dsimp only at h)
  refine wo_puts hC hT.1 G i_L_songs_X8 (nest_use _ rfl (hT.2.1 _ (wm 7 rfl))) dL_songs_6 (fun H locs G => ?_)
  refine lv_goto (tgt := 15) hC.1 hC.2.1 dL_songs_9 (by decide) ?_
  refine lv_iconst (v := 0) hC.1 hC.2.1 dL_songs_15 (by decide) ?_
  refine W.widen (k := 40) (n := 2400) (by decide) (by decide) ?_
  exact wo_iret hC hr hlocks G (h ra) dL_songs_16
theorem hdS_L_songs : yL_songs.cls ≠ "java/lang/invoke/MethodHandle" ∧ yL_songs.cls ≠ "java/lang/invoke/VarHandle" ∧ (parseMethodDescriptor yL_songs.desc).map (fun d => d.parameters.length) = some 3 := by decide +kernel
theorem i_L_desk_X8 : ∀ w ∈ wsX80, w ∈ wsL_desk ++ lkL := fun w h => List.mem_append_left _ (by unfold wsL_desk; simp only [List.mem_cons, List.mem_append, h, true_or, or_true])
abbrev rm_L_desk : Room := { frames := 7, cells := 1, slots := 6, locals := 103 }
set_option maxHeartbeats 4000000 in
set_option maxRecDepth 100000 in
theorem c_L_desk (l : Launch) (hl0 : l.stackTraces = false) (D : va_G) (cy : Nat → ClassId) (lay : Nat → Nat) (o : Nat) {u : OU} {post : Int32 → OU → Prop} {a1 : Int32} (h : w_T_X7_desk (fun v τ => post 0 (τ, Int32.toInt64 v, u.2.2)) (fun E τ => (E = xIA ∧ post 1 (τ, u.2))) u.1 a1) (sz : Nat) : Met l yL_desk (wsL_desk ++ lkL) rm_L_desk (va_Pc [.ref (lay 0), .int a1, .ref o] (woI D cy lay o u sz)) (va_Qi post (woO D cy lay o) (woA lay o sz)) 1 6 (woA lay o sz) := by
  refine wo_ofH (cc := cL_desk) (maxL := 4) (ret := some .int) (own := RL) (hh := [(0, 10, 13, 21)]) (I := woI D cy lay o u) (Qc := fun sz => va_Qi post (woO D cy lay o) (woA lay o sz)) (fr := woA lay o) woI_sz (by decide) rfl (Nat.le_of_ble_eq_true rfl) rfl ?_
  intro p e s m args below meth c ls hC hr hlocks htab hI hl
  obtain ⟨hT, Ga⟩ := wo_of hI.1
  have G : woG D cy lay o u s s.heap [] := ⟨hI.2.1.1, hI.2.1.2, va_S.rf⟩
  have hl : lv_has ls 4 [(0, .ref (lay 0)), (1, .int a1), (2, .ref o)] := hl
  refine lv_aload_n hC.1 hC.2.1 dL_desk_0 rfl (lv_at hl 2 rfl) ?_
  refine lv_aload_n hC.1 hC.2.1 dL_desk_1 rfl (lv_at hl 0 rfl) ?_
  refine lv_iload_n hC.1 hC.2.1 dL_desk_2 rfl (lv_at hl 1 rfl) ?_
  refine wo_iC G (ag_runVT (As := [.int a1]) (rest := [.ref o]) hC hT Ga (c_T_X7_desk l hl0 D cy lay h _) (cwV 1 hC.2.2.2.2 (gM_w gL_desk_X7_desk) rfl rfl rfl hdV_X7_desk ⟨Nat.le_of_ble_eq_true rfl, Nat.le_of_ble_eq_true rfl⟩) (ag_recv hT Ga (by decide) e_ag k_X7) rfl hl.1 rfl (Nat.le_of_ble_eq_true rfl) dL_desk_3 ⟨Nat.le_of_ble_eq_true rfl, Nat.le_of_ble_eq_true rfl⟩) (fun E9 ce9 q9 σ1 H locs h G hc1 hc2 hc3 => ?_) (fun v1 σ1 H locs h G => ?_)
  · (try dsimp only at h)
    obtain ⟨rfl, h⟩ := h
    refine vx_catch (own := RL) (name := xIA) hC.2.2.2.1 [] ⟨0, 10, 13, 21⟩ [] htab (fun z hz => by cases hz) (by decide) (by decide) (hC.2.2.2.2 _ lk1) (nest_use _ rfl (hT.2.1 _ (wm 4 rfl))) hc1 hc2 hc3 ?_
    refine lv_astore_n (lv' := [(3, .ref q9), (0, .ref (lay 0)), (1, .int a1), (2, .ref o)]) hC.1 hC.2.1 dL_desk_13 rfl hl (by decide) rfl (fun ls hl => ?_)
    refine lv_iconst (v := 1) hC.1 hC.2.1 dL_desk_14 (by decide) ?_
    refine W.widen (k := 1) (n := 6) (by decide) (by decide) ?_
    exact wo_iret hC hr hlocks G h dL_desk_15
  (try dsimp only at h)
  refine lv_i2l (v := Int32.toInt64 v1) hC.1 hC.2.1 dL_desk_6 rfl ?_
  refine wo_putn hC hT.1 G i_L_desk_X8 (nest_use _ rfl (hT.2.1 _ (wm 6 rfl))) dL_desk_7 (fun H locs G => ?_)
  refine lv_goto (tgt := 16) hC.1 hC.2.1 dL_desk_10 (by decide) ?_
  refine lv_iconst (v := 0) hC.1 hC.2.1 dL_desk_16 (by decide) ?_
  refine W.widen (k := 1) (n := 6) (by decide) (by decide) ?_
  exact wo_iret hC hr hlocks G h dL_desk_17
theorem hdS_L_desk : yL_desk.cls ≠ "java/lang/invoke/MethodHandle" ∧ yL_desk.cls ≠ "java/lang/invoke/VarHandle" ∧ (parseMethodDescriptor yL_desk.desc).map (fun d => d.parameters.length) = some 3 := by decide +kernel
theorem hdV_X7_tell : yX7_tell.cls = RX7 ∧ yX7_tell.cls ≠ "java/lang/invoke/MethodHandle" ∧ yX7_tell.cls ≠ "java/lang/invoke/VarHandle" ∧ (parseMethodDescriptor yX7_tell.desc).map (fun d => d.parameters.length) = some 1 := by decide +kernel
theorem i_L_tell_X8 : ∀ w ∈ wsX80, w ∈ wsL_tell ++ lkL := fun w h => List.mem_append_left _ (by unfold wsL_tell; simp only [List.mem_cons, List.mem_append, h, true_or, or_true])
abbrev rm_L_tell : Room := { frames := 10, cells := 40, slots := 2400, locals := 383 }
set_option maxHeartbeats 4000000 in
set_option maxRecDepth 100000 in
theorem c_L_tell (l : Launch) (hl0 : l.stackTraces = false) (D : va_G) (cy : Nat → ClassId) (lay : Nat → Nat) (o : Nat) (ac : Nat → Nat) {u : OU} {post : Int32 → OU → Prop} {a1 : Int32} (h : w_T_X7_tell (fun τ => ∀ ra : Nat, post 0 (τ, u.2.1, .ref ra)) (fun E τ => (E = xIO ∧ post 1 (τ, u.2))) u.1 a1) (sz : Nat) : Met l yL_tell (wsL_tell ++ lkL) rm_L_tell (va_Pc [.ref (lay 0), .int a1, .ref o] (woIK D cy lay o ac u sz)) (va_Qi post (woO D cy lay o) (woA lay o sz)) 40 2400 (woA lay o sz) := by
  refine wo_ofH (cc := cL_tell) (maxL := 4) (ret := some .int) (own := RL) (hh := [(0, 9, 12, 19)]) (I := woIK D cy lay o ac u) (Qc := fun sz => va_Qi post (woO D cy lay o) (woA lay o sz)) (fr := woA lay o) woIK_sz (by decide) rfl (Nat.le_of_ble_eq_true rfl) rfl ?_
  intro p e s m args below meth c ls hC hr hlocks htab hI hl
  obtain ⟨hT, Ga⟩ := wo_of hI.1.1
  have G : woG D cy lay o u s s.heap [] := ⟨hI.2.1.1, hI.2.1.2, va_S.rf⟩
  have hl : lv_has ls 4 [(0, .ref (lay 0)), (1, .int a1), (2, .ref o)] := hl
  refine lv_aload_n hC.1 hC.2.1 dL_tell_0 rfl (lv_at hl 2 rfl) ?_
  refine lv_aload_n hC.1 hC.2.1 dL_tell_1 rfl (lv_at hl 0 rfl) ?_
  refine lv_iload_n hC.1 hC.2.1 dL_tell_2 rfl (lv_at hl 1 rfl) ?_
  refine wo_rC G (va_runIKt (As := [.int a1]) (rest := [.ref o]) hC hI.1 (c_T_X7_tell l hl0 D cy lay ac h _) (cwV 1 hC.2.2.2.2 (gM_w gL_tell_X7_tell) rfl rfl rfl hdV_X7_tell ⟨Nat.le_of_ble_eq_true rfl, Nat.le_of_ble_eq_true rfl⟩) (ag_recv hT Ga (by decide) e_ag k_X7) rfl hl.1 rfl (Nat.le_of_ble_eq_true rfl) dL_tell_3 ⟨Nat.le_of_ble_eq_true rfl, Nat.le_of_ble_eq_true rfl⟩) (fun E9 ce9 q9 σ1 H locs h G hc1 hc2 hc3 => ?_) (fun ra σ1 H locs h G => ?_)
  · (try dsimp only at h)
    obtain ⟨rfl, h⟩ := h
    refine vx_catch (own := RL) (name := xIO) hC.2.2.2.1 [] ⟨0, 9, 12, 19⟩ [] htab (fun z hz => by cases hz) (by decide) (by decide) (hC.2.2.2.2 _ lk0) (nest_use _ rfl (hT.2.1 _ (wm 3 rfl))) hc1 hc2 hc3 ?_
    refine lv_astore_n (lv' := [(3, .ref q9), (0, .ref (lay 0)), (1, .int a1), (2, .ref o)]) hC.1 hC.2.1 dL_tell_12 rfl hl (by decide) rfl (fun ls hl => ?_)
    refine lv_iconst (v := 1) hC.1 hC.2.1 dL_tell_13 (by decide) ?_
    refine W.widen (k := 40) (n := 2400) (by decide) (by decide) ?_
    exact wo_iret hC hr hlocks G h dL_tell_14
  (try dsimp only at h)
  refine wo_puts hC hT.1 G i_L_tell_X8 (nest_use _ rfl (hT.2.1 _ (wm 7 rfl))) dL_tell_6 (fun H locs G => ?_)
  refine lv_goto (tgt := 15) hC.1 hC.2.1 dL_tell_9 (by decide) ?_
  refine lv_iconst (v := 0) hC.1 hC.2.1 dL_tell_15 (by decide) ?_
  refine W.widen (k := 40) (n := 2400) (by decide) (by decide) ?_
  exact wo_iret hC hr hlocks G (h ra) dL_tell_16
theorem hdS_L_tell : yL_tell.cls ≠ "java/lang/invoke/MethodHandle" ∧ yL_tell.cls ≠ "java/lang/invoke/VarHandle" ∧ (parseMethodDescriptor yL_tell.desc).map (fun d => d.parameters.length) = some 3 := by decide +kernel
theorem i_L_wouldLose_X8 : ∀ w ∈ wsX80, w ∈ wsL_wouldLose ++ lkL := fun w h => List.mem_append_left _ (by unfold wsL_wouldLose; simp only [List.mem_cons, List.mem_append, h, true_or, or_true])
abbrev rm_L_wouldLose : Room := { frames := 8, cells := 2, slots := 12, locals := 143 }
set_option maxHeartbeats 4000000 in
set_option maxRecDepth 100000 in
theorem c_L_wouldLose (l : Launch) (hl0 : l.stackTraces = false) (D : va_G) (cy : Nat → ClassId) (lay : Nat → Nat) (o : Nat) {u : OU} {post : Int32 → OU → Prop} {a1 : Int32} {a2 : Int32} (h : w_T_X7_wouldLose (fun v τ => post 0 (τ, Int32.toInt64 v, u.2.2)) (fun E τ => (E = xIO ∧ post 1 (τ, u.2)) ∨ (E = xIA ∧ post 2 (τ, u.2))) u.1 a1 a2) (sz : Nat) : Met l yL_wouldLose (wsL_wouldLose ++ lkL) rm_L_wouldLose (va_Pc [.ref (lay 0), .int a1, .int a2, .ref o] (woI D cy lay o u sz)) (va_Qi post (woO D cy lay o) (woA lay o sz)) 2 12 (woA lay o sz) := by
  refine wo_ofH (cc := cL_wouldLose) (maxL := 5) (ret := some .int) (own := RL) (hh := [(0, 11, 14, 19), (0, 11, 18, 21)]) (I := woI D cy lay o u) (Qc := fun sz => va_Qi post (woO D cy lay o) (woA lay o sz)) (fr := woA lay o) woI_sz (by decide) rfl (Nat.le_of_ble_eq_true rfl) rfl ?_
  intro p e s m args below meth c ls hC hr hlocks htab hI hl
  obtain ⟨hT, Ga⟩ := wo_of hI.1
  have G : woG D cy lay o u s s.heap [] := ⟨hI.2.1.1, hI.2.1.2, va_S.rf⟩
  have hl : lv_has ls 5 [(0, .ref (lay 0)), (1, .int a1), (2, .int a2), (3, .ref o)] := hl
  refine lv_aload_n hC.1 hC.2.1 dL_wouldLose_0 rfl (lv_at hl 3 rfl) ?_
  refine lv_aload_n hC.1 hC.2.1 dL_wouldLose_1 rfl (lv_at hl 0 rfl) ?_
  refine lv_iload_n hC.1 hC.2.1 dL_wouldLose_2 rfl (lv_at hl 1 rfl) ?_
  refine lv_iload_n hC.1 hC.2.1 dL_wouldLose_3 rfl (lv_at hl 2 rfl) ?_
  refine wo_iC G (ag_runVT (As := [.int a1, .int a2]) (rest := [.ref o]) hC hT Ga (c_T_X7_wouldLose l hl0 D cy lay h _) (cwV 2 hC.2.2.2.2 (gM_w gL_wouldLose_X7_wouldLose) rfl rfl rfl hdV_X7_wouldLose ⟨Nat.le_of_ble_eq_true rfl, Nat.le_of_ble_eq_true rfl⟩) (ag_recv hT Ga (by decide) e_ag k_X7) rfl hl.1 rfl (Nat.le_of_ble_eq_true rfl) dL_wouldLose_4 ⟨Nat.le_of_ble_eq_true rfl, Nat.le_of_ble_eq_true rfl⟩) (fun E9 ce9 q9 σ1 H locs h G hc1 hc2 hc3 => ?_) (fun v1 σ1 H locs h G => ?_)
  · (try dsimp only at h)
    rcases h with h | h
    · skip
      obtain ⟨rfl, h⟩ := h
      refine vx_catch (own := RL) (name := xIO) hC.2.2.2.1 [] ⟨0, 11, 14, 19⟩ [⟨0, 11, 18, 21⟩] htab (fun z hz => by cases hz) (by decide) (by decide) (hC.2.2.2.2 _ lk0) (nest_use _ rfl (hT.2.1 _ (wm 3 rfl))) hc1 hc2 hc3 ?_
      refine lv_astore (lv' := [(4, .ref q9), (0, .ref (lay 0)), (1, .int a1), (2, .int a2), (3, .ref o)]) hC.1 hC.2.1 dL_wouldLose_14 hl (by decide) rfl (fun ls hl => ?_)
      refine lv_iconst (v := 1) hC.1 hC.2.1 dL_wouldLose_16 (by decide) ?_
      refine W.widen (k := 2) (n := 12) (by decide) (by decide) ?_
      exact wo_iret hC hr hlocks G h dL_wouldLose_17
    obtain ⟨rfl, h⟩ := h
    refine vx_catch (own := RL) (name := xIA) hC.2.2.2.1 [⟨0, 11, 14, 19⟩] ⟨0, 11, 18, 21⟩ [] htab (fun z hz => by
        rw [List.mem_singleton] at hz
        subst hz
        exact Or.inr ⟨by decide, _, hC.2.2.2.2 _ lk0, hI.2.2 (xIA, xIO) (by decide +kernel)⟩) (by decide) (by decide) (hC.2.2.2.2 _ lk1) (nest_use _ rfl (hT.2.1 _ (wm 4 rfl))) hc1 hc2 hc3 ?_
    refine lv_astore (lv' := [(4, .ref q9), (0, .ref (lay 0)), (1, .int a1), (2, .int a2), (3, .ref o)]) hC.1 hC.2.1 dL_wouldLose_18 hl (by decide) rfl (fun ls hl => ?_)
    refine lv_iconst (v := 2) hC.1 hC.2.1 dL_wouldLose_20 (by decide) ?_
    refine W.widen (k := 2) (n := 12) (by decide) (by decide) ?_
    exact wo_iret hC hr hlocks G h dL_wouldLose_21
  (try dsimp only at h)
  refine lv_i2l (v := Int32.toInt64 v1) hC.1 hC.2.1 dL_wouldLose_7 rfl ?_
  refine wo_putn hC hT.1 G i_L_wouldLose_X8 (nest_use _ rfl (hT.2.1 _ (wm 6 rfl))) dL_wouldLose_8 (fun H locs G => ?_)
  refine lv_goto (tgt := 22) hC.1 hC.2.1 dL_wouldLose_11 (by decide) ?_
  refine lv_iconst (v := 0) hC.1 hC.2.1 dL_wouldLose_22 (by decide) ?_
  refine W.widen (k := 2) (n := 12) (by decide) (by decide) ?_
  exact wo_iret hC hr hlocks G h dL_wouldLose_23
theorem hdS_L_wouldLose : yL_wouldLose.cls ≠ "java/lang/invoke/MethodHandle" ∧ yL_wouldLose.cls ≠ "java/lang/invoke/VarHandle" ∧ (parseMethodDescriptor yL_wouldLose.desc).map (fun d => d.parameters.length) = some 4 := by decide +kernel
theorem i_L_plan_X8 : ∀ w ∈ wsX80, w ∈ wsL_plan ++ lkL := fun w h => List.mem_append_left _ (by unfold wsL_plan; simp only [List.mem_cons, List.mem_append, h, true_or, or_true])
abbrev rm_L_plan : Room := { frames := 7, cells := 1, slots := 6, locals := 148 }
set_option maxHeartbeats 4000000 in
set_option maxRecDepth 100000 in
theorem c_L_plan (l : Launch) (hl0 : l.stackTraces = false) (D : va_G) (cy : Nat → ClassId) (lay : Nat → Nat) (o : Nat) {u : OU} {post : Int32 → OU → Prop} {a1 : Int32} {a2 : Int32} (h : w_T_X7_plan (fun v τ => post 0 (τ, Int32.toInt64 v, u.2.2)) (fun E τ => (E = xIA ∧ post 1 (τ, u.2))) u.1 a1 a2) (sz : Nat) : Met l yL_plan (wsL_plan ++ lkL) rm_L_plan (va_Pc [.ref (lay 0), .int a1, .int a2, .ref o] (woI D cy lay o u sz)) (va_Qi post (woO D cy lay o) (woA lay o sz)) 1 6 (woA lay o sz) := by
  refine wo_ofH (cc := cL_plan) (maxL := 5) (ret := some .int) (own := RL) (hh := [(0, 11, 14, 21)]) (I := woI D cy lay o u) (Qc := fun sz => va_Qi post (woO D cy lay o) (woA lay o sz)) (fr := woA lay o) woI_sz (by decide) rfl (Nat.le_of_ble_eq_true rfl) rfl ?_
  intro p e s m args below meth c ls hC hr hlocks htab hI hl
  obtain ⟨hT, Ga⟩ := wo_of hI.1
  have G : woG D cy lay o u s s.heap [] := ⟨hI.2.1.1, hI.2.1.2, va_S.rf⟩
  have hl : lv_has ls 5 [(0, .ref (lay 0)), (1, .int a1), (2, .int a2), (3, .ref o)] := hl
  refine lv_aload_n hC.1 hC.2.1 dL_plan_0 rfl (lv_at hl 3 rfl) ?_
  refine lv_aload_n hC.1 hC.2.1 dL_plan_1 rfl (lv_at hl 0 rfl) ?_
  refine lv_iload_n hC.1 hC.2.1 dL_plan_2 rfl (lv_at hl 1 rfl) ?_
  refine lv_iload_n hC.1 hC.2.1 dL_plan_3 rfl (lv_at hl 2 rfl) ?_
  refine wo_iC G (ag_runVT (As := [.int a1, .int a2]) (rest := [.ref o]) hC hT Ga (c_T_X7_plan l hl0 D cy lay h _) (cwV 2 hC.2.2.2.2 (gM_w gL_plan_X7_plan) rfl rfl rfl hdV_X7_plan ⟨Nat.le_of_ble_eq_true rfl, Nat.le_of_ble_eq_true rfl⟩) (ag_recv hT Ga (by decide) e_ag k_X7) rfl hl.1 rfl (Nat.le_of_ble_eq_true rfl) dL_plan_4 ⟨Nat.le_of_ble_eq_true rfl, Nat.le_of_ble_eq_true rfl⟩) (fun E9 ce9 q9 σ1 H locs h G hc1 hc2 hc3 => ?_) (fun v1 σ1 H locs h G => ?_)
  · (try dsimp only at h)
    obtain ⟨rfl, h⟩ := h
    refine vx_catch (own := RL) (name := xIA) hC.2.2.2.1 [] ⟨0, 11, 14, 21⟩ [] htab (fun z hz => by cases hz) (by decide) (by decide) (hC.2.2.2.2 _ lk1) (nest_use _ rfl (hT.2.1 _ (wm 4 rfl))) hc1 hc2 hc3 ?_
    refine lv_astore (lv' := [(4, .ref q9), (0, .ref (lay 0)), (1, .int a1), (2, .int a2), (3, .ref o)]) hC.1 hC.2.1 dL_plan_14 hl (by decide) rfl (fun ls hl => ?_)
    refine lv_iconst (v := 1) hC.1 hC.2.1 dL_plan_16 (by decide) ?_
    refine W.widen (k := 1) (n := 6) (by decide) (by decide) ?_
    exact wo_iret hC hr hlocks G h dL_plan_17
  (try dsimp only at h)
  refine lv_i2l (v := Int32.toInt64 v1) hC.1 hC.2.1 dL_plan_7 rfl ?_
  refine wo_putn hC hT.1 G i_L_plan_X8 (nest_use _ rfl (hT.2.1 _ (wm 6 rfl))) dL_plan_8 (fun H locs G => ?_)
  refine lv_goto (tgt := 18) hC.1 hC.2.1 dL_plan_11 (by decide) ?_
  refine lv_iconst (v := 0) hC.1 hC.2.1 dL_plan_18 (by decide) ?_
  refine W.widen (k := 1) (n := 6) (by decide) (by decide) ?_
  exact wo_iret hC hr hlocks G h dL_plan_19
theorem hdS_L_plan : yL_plan.cls ≠ "java/lang/invoke/MethodHandle" ∧ yL_plan.cls ≠ "java/lang/invoke/VarHandle" ∧ (parseMethodDescriptor yL_plan.desc).map (fun d => d.parameters.length) = some 4 := by decide +kernel
theorem i_L_wouldCancel_X8 : ∀ w ∈ wsX80, w ∈ wsL_wouldCancel ++ lkL := fun w h => List.mem_append_left _ (by unfold wsL_wouldCancel; simp only [List.mem_cons, List.mem_append, h, true_or, or_true])
abbrev rm_L_wouldCancel : Room := { frames := 8, cells := 2, slots := 12, locals := 127 }
set_option maxHeartbeats 4000000 in
set_option maxRecDepth 100000 in
theorem c_L_wouldCancel (l : Launch) (hl0 : l.stackTraces = false) (D : va_G) (cy : Nat → ClassId) (lay : Nat → Nat) (o : Nat) {u : OU} {post : Int32 → OU → Prop} {a1 : Int32} (h : w_T_X7_wouldCancel (fun v τ => post 0 (τ, Int32.toInt64 v, u.2.2)) (fun E τ => (E = xIO ∧ post 1 (τ, u.2)) ∨ (E = xIS ∧ post 2 (τ, u.2))) u.1 a1) (sz : Nat) : Met l yL_wouldCancel (wsL_wouldCancel ++ lkL) rm_L_wouldCancel (va_Pc [.ref (lay 0), .int a1, .ref o] (woI D cy lay o u sz)) (va_Qi post (woO D cy lay o) (woA lay o sz)) 2 12 (woA lay o sz) := by
  refine wo_ofH (cc := cL_wouldCancel) (maxL := 4) (ret := some .int) (own := RL) (hh := [(0, 10, 13, 19), (0, 10, 16, 23)]) (I := woI D cy lay o u) (Qc := fun sz => va_Qi post (woO D cy lay o) (woA lay o sz)) (fr := woA lay o) woI_sz (by decide) rfl (Nat.le_of_ble_eq_true rfl) rfl ?_
  intro p e s m args below meth c ls hC hr hlocks htab hI hl
  obtain ⟨hT, Ga⟩ := wo_of hI.1
  have G : woG D cy lay o u s s.heap [] := ⟨hI.2.1.1, hI.2.1.2, va_S.rf⟩
  have hl : lv_has ls 4 [(0, .ref (lay 0)), (1, .int a1), (2, .ref o)] := hl
  refine lv_aload_n hC.1 hC.2.1 dL_wouldCancel_0 rfl (lv_at hl 2 rfl) ?_
  refine lv_aload_n hC.1 hC.2.1 dL_wouldCancel_1 rfl (lv_at hl 0 rfl) ?_
  refine lv_iload_n hC.1 hC.2.1 dL_wouldCancel_2 rfl (lv_at hl 1 rfl) ?_
  refine wo_iC G (ag_runVT (As := [.int a1]) (rest := [.ref o]) hC hT Ga (c_T_X7_wouldCancel l hl0 D cy lay h _) (cwV 1 hC.2.2.2.2 (gM_w gL_wouldCancel_X7_wouldCancel) rfl rfl rfl hdV_X7_wouldCancel ⟨Nat.le_of_ble_eq_true rfl, Nat.le_of_ble_eq_true rfl⟩) (ag_recv hT Ga (by decide) e_ag k_X7) rfl hl.1 rfl (Nat.le_of_ble_eq_true rfl) dL_wouldCancel_3 ⟨Nat.le_of_ble_eq_true rfl, Nat.le_of_ble_eq_true rfl⟩) (fun E9 ce9 q9 σ1 H locs h G hc1 hc2 hc3 => ?_) (fun v1 σ1 H locs h G => ?_)
  · (try dsimp only at h)
    rcases h with h | h
    · skip
      obtain ⟨rfl, h⟩ := h
      refine vx_catch (own := RL) (name := xIO) hC.2.2.2.1 [] ⟨0, 10, 13, 19⟩ [⟨0, 10, 16, 23⟩] htab (fun z hz => by cases hz) (by decide) (by decide) (hC.2.2.2.2 _ lk0) (nest_use _ rfl (hT.2.1 _ (wm 3 rfl))) hc1 hc2 hc3 ?_
      refine lv_astore_n (lv' := [(3, .ref q9), (0, .ref (lay 0)), (1, .int a1), (2, .ref o)]) hC.1 hC.2.1 dL_wouldCancel_13 rfl hl (by decide) rfl (fun ls hl => ?_)
      refine lv_iconst (v := 1) hC.1 hC.2.1 dL_wouldCancel_14 (by decide) ?_
      refine W.widen (k := 2) (n := 12) (by decide) (by decide) ?_
      exact wo_iret hC hr hlocks G h dL_wouldCancel_15
    obtain ⟨rfl, h⟩ := h
    refine vx_catch (own := RL) (name := xIS) hC.2.2.2.1 [⟨0, 10, 13, 19⟩] ⟨0, 10, 16, 23⟩ [] htab (fun z hz => by
        rw [List.mem_singleton] at hz
        subst hz
        exact Or.inr ⟨by decide, _, hC.2.2.2.2 _ lk0, hI.2.2 (xIS, xIO) (by decide +kernel)⟩) (by decide) (by decide) (hC.2.2.2.2 _ lk2) (nest_use _ rfl (hT.2.1 _ (wm 5 rfl))) hc1 hc2 hc3 ?_
    refine lv_astore_n (lv' := [(3, .ref q9), (0, .ref (lay 0)), (1, .int a1), (2, .ref o)]) hC.1 hC.2.1 dL_wouldCancel_16 rfl hl (by decide) rfl (fun ls hl => ?_)
    refine lv_iconst (v := 2) hC.1 hC.2.1 dL_wouldCancel_17 (by decide) ?_
    refine W.widen (k := 2) (n := 12) (by decide) (by decide) ?_
    exact wo_iret hC hr hlocks G h dL_wouldCancel_18
  (try dsimp only at h)
  refine lv_i2l (v := Int32.toInt64 v1) hC.1 hC.2.1 dL_wouldCancel_6 rfl ?_
  refine wo_putn hC hT.1 G i_L_wouldCancel_X8 (nest_use _ rfl (hT.2.1 _ (wm 6 rfl))) dL_wouldCancel_7 (fun H locs G => ?_)
  refine lv_goto (tgt := 19) hC.1 hC.2.1 dL_wouldCancel_10 (by decide) ?_
  refine lv_iconst (v := 0) hC.1 hC.2.1 dL_wouldCancel_19 (by decide) ?_
  refine W.widen (k := 2) (n := 12) (by decide) (by decide) ?_
  exact wo_iret hC hr hlocks G h dL_wouldCancel_20
theorem hdS_L_wouldCancel : yL_wouldCancel.cls ≠ "java/lang/invoke/MethodHandle" ∧ yL_wouldCancel.cls ≠ "java/lang/invoke/VarHandle" ∧ (parseMethodDescriptor yL_wouldCancel.desc).map (fun d => d.parameters.length) = some 3 := by decide +kernel
theorem i_L_key_X8 : ∀ w ∈ wsX80, w ∈ wsL_key ++ lkL := fun w h => List.mem_append_left _ (by unfold wsL_key; simp only [List.mem_cons, List.mem_append, h, true_or, or_true])
abbrev rm_L_key : Room := { frames := 8, cells := 1, slots := 6, locals := 140 }
set_option maxHeartbeats 4000000 in
set_option maxRecDepth 100000 in
theorem c_L_key (l : Launch) (hl0 : l.stackTraces = false) (D : va_G) (cy : Nat → ClassId) (lay : Nat → Nat) (o : Nat) {u : OU} {post : Int32 → OU → Prop} {a1 : Int32} (h : w_T_X7_key (fun v τ => post 0 (τ, Int32.toInt64 v, u.2.2)) (fun E τ => (E = xIO ∧ post 1 (τ, u.2))) u.1 a1) (sz : Nat) : Met l yL_key (wsL_key ++ lkL) rm_L_key (va_Pc [.ref (lay 0), .int a1, .ref o] (woI D cy lay o u sz)) (va_Qi post (woO D cy lay o) (woA lay o sz)) 1 6 (woA lay o sz) := by
  refine wo_ofH (cc := cL_key) (maxL := 4) (ret := some .int) (own := RL) (hh := [(0, 10, 13, 19)]) (I := woI D cy lay o u) (Qc := fun sz => va_Qi post (woO D cy lay o) (woA lay o sz)) (fr := woA lay o) woI_sz (by decide) rfl (Nat.le_of_ble_eq_true rfl) rfl ?_
  intro p e s m args below meth c ls hC hr hlocks htab hI hl
  obtain ⟨hT, Ga⟩ := wo_of hI.1
  have G : woG D cy lay o u s s.heap [] := ⟨hI.2.1.1, hI.2.1.2, va_S.rf⟩
  have hl : lv_has ls 4 [(0, .ref (lay 0)), (1, .int a1), (2, .ref o)] := hl
  refine lv_aload_n hC.1 hC.2.1 dL_key_0 rfl (lv_at hl 2 rfl) ?_
  refine lv_aload_n hC.1 hC.2.1 dL_key_1 rfl (lv_at hl 0 rfl) ?_
  refine lv_iload_n hC.1 hC.2.1 dL_key_2 rfl (lv_at hl 1 rfl) ?_
  refine wo_iC G (ag_runVT (As := [.int a1]) (rest := [.ref o]) hC hT Ga (c_T_X7_key l hl0 D cy lay h _) (cwV 1 hC.2.2.2.2 (gM_w gL_key_X7_key) rfl rfl rfl hdV_X7_key ⟨Nat.le_of_ble_eq_true rfl, Nat.le_of_ble_eq_true rfl⟩) (ag_recv hT Ga (by decide) e_ag k_X7) rfl hl.1 rfl (Nat.le_of_ble_eq_true rfl) dL_key_3 ⟨Nat.le_of_ble_eq_true rfl, Nat.le_of_ble_eq_true rfl⟩) (fun E9 ce9 q9 σ1 H locs h G hc1 hc2 hc3 => ?_) (fun v1 σ1 H locs h G => ?_)
  · (try dsimp only at h)
    obtain ⟨rfl, h⟩ := h
    refine vx_catch (own := RL) (name := xIO) hC.2.2.2.1 [] ⟨0, 10, 13, 19⟩ [] htab (fun z hz => by cases hz) (by decide) (by decide) (hC.2.2.2.2 _ lk0) (nest_use _ rfl (hT.2.1 _ (wm 3 rfl))) hc1 hc2 hc3 ?_
    refine lv_astore_n (lv' := [(3, .ref q9), (0, .ref (lay 0)), (1, .int a1), (2, .ref o)]) hC.1 hC.2.1 dL_key_13 rfl hl (by decide) rfl (fun ls hl => ?_)
    refine lv_iconst (v := 1) hC.1 hC.2.1 dL_key_14 (by decide) ?_
    refine W.widen (k := 1) (n := 6) (by decide) (by decide) ?_
    exact wo_iret hC hr hlocks G h dL_key_15
  (try dsimp only at h)
  refine lv_i2l (v := Int32.toInt64 v1) hC.1 hC.2.1 dL_key_6 rfl ?_
  refine wo_putn hC hT.1 G i_L_key_X8 (nest_use _ rfl (hT.2.1 _ (wm 6 rfl))) dL_key_7 (fun H locs G => ?_)
  refine lv_goto (tgt := 16) hC.1 hC.2.1 dL_key_10 (by decide) ?_
  refine lv_iconst (v := 0) hC.1 hC.2.1 dL_key_16 (by decide) ?_
  refine W.widen (k := 1) (n := 6) (by decide) (by decide) ?_
  exact wo_iret hC hr hlocks G h dL_key_17
theorem hdS_L_key : yL_key.cls ≠ "java/lang/invoke/MethodHandle" ∧ yL_key.cls ≠ "java/lang/invoke/VarHandle" ∧ (parseMethodDescriptor yL_key.desc).map (fun d => d.parameters.length) = some 3 := by decide +kernel
