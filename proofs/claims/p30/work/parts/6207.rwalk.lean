abbrev rm_X11_ofPlayerNow : Room := { frames := 4, cells := 1, slots := 16, locals := 88 }
theorem i_X11_ofPlayerNow_X11 : ∀ w ∈ wsX110, w ∈ wsX11_ofPlayerNow := fun _ h => List.mem_cons_of_mem _ (List.mem_append_left _ (List.mem_append_left _ (List.mem_append_left _ (List.mem_append_right _ h))))
theorem i_X11_ofPlayerNow_X9 : ∀ w ∈ wsX90, w ∈ wsX11_ofPlayerNow := fun _ h => List.mem_cons_of_mem _ (List.mem_append_left _ (List.mem_append_left _ (List.mem_append_right _ h)))
def w_X11_ofPlayerNow (Γ : RG) (post : Int32 → MS → Prop) (σ : MS) (a1 : Int32) (a2 : Int32) : Prop := w_lp_Jx4a65c_get_915e3 Γ (fun j2 σ1 => ((j2 < 10 ∧ j2 < Γ.1) ∧ ((a2 = 0 → post (σ1 (13 + j2) 0) σ1) ∧ (¬ a2 = 0 → ((a2 = 1 → post (σ1 (13 + j2) 1) σ1) ∧ (¬ a2 = 1 → ((a2 = 2 → post (σ1 (13 + j2) 2) σ1) ∧ (¬ a2 = 2 → ((a2 = 3 → post (σ1 (13 + j2) 3) σ1) ∧ (¬ a2 = 3 → ((a2 = 4 → post (σ1 (13 + j2) 4) σ1) ∧ (¬ a2 = 4 → ((a2 = 5 → post (σ1 (13 + j2) 5) σ1) ∧ (¬ a2 = 5 → w_X11_weddingsOf Γ (fun len11 f12 σ10 => (vp_in (a2 - 6) len11 ∧ post ((rw0 (mrg σ10 σ1) 64 f12) 64 (Int32.toNatClampNeg (a2 - 6))) (rw0 (mrg σ10 σ1) 64 f12))) σ1 a1)))))))))))))) σ a1
set_option maxHeartbeats 4000000 in
set_option maxRecDepth 100000 in
theorem c_X11_ofPlayerNow (l : Launch) (D : va_G) (cy : Nat → ClassId) (lay : Nat → Nat) (Γ : RG) {σ : MS} {post : Int32 → MS → Prop} {a1 : Int32} {a2 : Int32} (h : w_X11_ofPlayerNow Γ post σ a1 a2) (sz : Nat) : Met l yX11_ofPlayerNow wsX11_ofPlayerNow rm_X11_ofPlayerNow (va_Pc [.ref (lay 0), .int a1, .int a2] (rI D cy lay Γ σ sz)) (va_Qi post (rO D cy lay Γ) (rA cy lay Γ sz)) 1 16 (rA cy lay Γ sz) := by
  refine rg_ofW (cc := cX11_ofPlayerNow) (maxL := 4) (ret := some .int) (own := RX11) (Qc := fun sz => va_Qi post (rO D cy lay Γ) (rA cy lay Γ sz)) (by decide) rfl (Nat.le_of_ble_eq_true rfl) rfl ?_
  intro p e s m args below meth c ls hC hr hlocks hT G hl
  unfold w_X11_ofPlayerNow at h
  have hl : lv_has ls 4 [(0, .ref (lay 0)), (1, .int a1), (2, .int a2)] := hl
  refine lv_aload_n hC.1 hC.2.1 dX11_ofPlayerNow_0 rfl (lv_at hl 0 rfl) ?_
  refine rg_get hC hT G (by decide) r_mo k_X11 i_X11_ofPlayerNow_X11 3 (by decide) (wm 1 rfl) rfl dX11_ofPlayerNow_1 ?_
  refine lv_iload_n hC.1 hC.2.1 dX11_ofPlayerNow_4 rfl (lv_at hl 1 rfl) ?_
  refine rg_r (f := fun i => lay (13 + i)) G (rg_runV (As := [.int a1]) (rest := []) hC hT G (c_lp_Jx4a65c_get_915e3 l D cy lay Γ h _) (cwV 1 hC.2.2.2.2 gX11_ofPlayerNow_Jx4a65c_get_915e3 rfl rfl rfl hdV_Jx4a65c_get_915e3 ⟨Nat.le_of_ble_eq_true rfl, Nat.le_of_ble_eq_true rfl⟩) (rg_recv hT G (by decide) r_lp k_AL) rfl hl.1 rfl (Nat.le_of_ble_eq_true rfl) dX11_ofPlayerNow_5 ⟨Nat.le_of_ble_eq_true rfl, Nat.le_of_ble_eq_true rfl⟩) (fun j2 σ1 H locs h G => ?_)
  (try dsimp only at h)
  obtain ⟨hj3, h⟩ := h
  refine rg_cast hC hT k_X9 (wm 2 rfl) (rg_recv hT G (rk_pl hj3) (r_pl hj3) k_X9) dX11_ofPlayerNow_8 ?_
  refine lv_astore_n (lv' := [(3, .ref (lay (13 + j2))), (0, .ref (lay 0)), (1, .int a1), (2, .int a2)]) hC.1 hC.2.1 dX11_ofPlayerNow_11 rfl hl (by decide) rfl (fun ls hl => ?_)
  refine lv_iload_n hC.1 hC.2.1 dX11_ofPlayerNow_12 rfl (lv_at hl 3 rfl) ?_
  rcases Decidable.em (a2 = 0) with c4 | c4
  · replace h := h.1 c4
    refine lv_tableIn (off := 39) (tgt := 52) hC.1 hC.2.1 dX11_ofPlayerNow_13 (by rw [c4]; decide) (by rw [c4]; decide) (by rw [c4]; rfl) (by decide) ?_
    refine lv_aload_n hC.1 hC.2.1 dX11_ofPlayerNow_52 rfl (lv_at hl 0 rfl) ?_
    refine rg_getN hC hT G (rk_pl hj3) (r_pl hj3) k_X9 i_X11_ofPlayerNow_X9 0 (by decide) 2 rfl rfl dX11_ofPlayerNow_53 ?_
    refine W.widen (k := 1) (n := 16) (by decide) (by decide) ?_
    exact rg_iret hC hr hlocks G h dX11_ofPlayerNow_56
  · replace h := h.2 c4
    rcases Decidable.em (a2 = 1) with c5 | c5
    · replace h := h.1 c5
      refine lv_tableIn (off := 44) (tgt := 57) hC.1 hC.2.1 dX11_ofPlayerNow_13 (by rw [c5]; decide) (by rw [c5]; decide) (by rw [c5]; rfl) (by decide) ?_
      refine lv_aload_n hC.1 hC.2.1 dX11_ofPlayerNow_57 rfl (lv_at hl 0 rfl) ?_
      refine rg_getN hC hT G (rk_pl hj3) (r_pl hj3) k_X9 i_X11_ofPlayerNow_X9 1 (by decide) 3 rfl rfl dX11_ofPlayerNow_58 ?_
      refine W.widen (k := 1) (n := 16) (by decide) (by decide) ?_
      exact rg_iret hC hr hlocks G h dX11_ofPlayerNow_61
    · replace h := h.2 c5
      rcases Decidable.em (a2 = 2) with c6 | c6
      · replace h := h.1 c6
        refine lv_tableIn (off := 49) (tgt := 62) hC.1 hC.2.1 dX11_ofPlayerNow_13 (by rw [c6]; decide) (by rw [c6]; decide) (by rw [c6]; rfl) (by decide) ?_
        refine lv_aload_n hC.1 hC.2.1 dX11_ofPlayerNow_62 rfl (lv_at hl 0 rfl) ?_
        refine rg_getN hC hT G (rk_pl hj3) (r_pl hj3) k_X9 i_X11_ofPlayerNow_X9 2 (by decide) 4 rfl rfl dX11_ofPlayerNow_63 ?_
        refine W.widen (k := 1) (n := 16) (by decide) (by decide) ?_
        exact rg_iret hC hr hlocks G h dX11_ofPlayerNow_66
      · replace h := h.2 c6
        rcases Decidable.em (a2 = 3) with c7 | c7
        · replace h := h.1 c7
          refine lv_tableIn (off := 54) (tgt := 67) hC.1 hC.2.1 dX11_ofPlayerNow_13 (by rw [c7]; decide) (by rw [c7]; decide) (by rw [c7]; rfl) (by decide) ?_
          refine lv_aload_n hC.1 hC.2.1 dX11_ofPlayerNow_67 rfl (lv_at hl 0 rfl) ?_
          refine rg_getN hC hT G (rk_pl hj3) (r_pl hj3) k_X9 i_X11_ofPlayerNow_X9 3 (by decide) 5 rfl rfl dX11_ofPlayerNow_68 ?_
          refine W.widen (k := 1) (n := 16) (by decide) (by decide) ?_
          exact rg_iret hC hr hlocks G h dX11_ofPlayerNow_71
        · replace h := h.2 c7
          rcases Decidable.em (a2 = 4) with c8 | c8
          · replace h := h.1 c8
            refine lv_tableIn (off := 59) (tgt := 72) hC.1 hC.2.1 dX11_ofPlayerNow_13 (by rw [c8]; decide) (by rw [c8]; decide) (by rw [c8]; rfl) (by decide) ?_
            refine lv_aload_n hC.1 hC.2.1 dX11_ofPlayerNow_72 rfl (lv_at hl 0 rfl) ?_
            refine rg_getN hC hT G (rk_pl hj3) (r_pl hj3) k_X9 i_X11_ofPlayerNow_X9 4 (by decide) 6 rfl rfl dX11_ofPlayerNow_73 ?_
            refine W.widen (k := 1) (n := 16) (by decide) (by decide) ?_
            exact rg_iret hC hr hlocks G h dX11_ofPlayerNow_76
          · replace h := h.2 c8
            rcases Decidable.em (a2 = 5) with c9 | c9
            · replace h := h.1 c9
              refine lv_tableIn (off := 64) (tgt := 77) hC.1 hC.2.1 dX11_ofPlayerNow_13 (by rw [c9]; decide) (by rw [c9]; decide) (by rw [c9]; rfl) (by decide) ?_
              refine lv_aload_n hC.1 hC.2.1 dX11_ofPlayerNow_77 rfl (lv_at hl 0 rfl) ?_
              refine rg_getN hC hT G (rk_pl hj3) (r_pl hj3) k_X9 i_X11_ofPlayerNow_X9 5 (by decide) 7 rfl rfl dX11_ofPlayerNow_78 ?_
              refine W.widen (k := 1) (n := 16) (by decide) (by decide) ?_
              exact rg_iret hC hr hlocks G h dX11_ofPlayerNow_81
            · replace h := h.2 c9
              refine lv_tableOut (tgt := 82) hC.1 hC.2.1 dX11_ofPlayerNow_13 (tsw_out 6 rfl (by decide) (fun k hk => by rcases (show k = 0 ∨ k = 1 ∨ k = 2 ∨ k = 3 ∨ k = 4 ∨ k = 5 by omega) with rfl | rfl | rfl | rfl | rfl | rfl <;> assumption)) (by decide) ?_
              refine lv_aload_n hC.1 hC.2.1 dX11_ofPlayerNow_82 rfl (lv_at hl 1 rfl) ?_
              refine lv_iload_n hC.1 hC.2.1 dX11_ofPlayerNow_83 rfl (lv_at hl 2 rfl) ?_
              refine rg_aM (Q := fun lay => MQ below (va_Qi post (rO D cy lay Γ) (rA cy lay Γ s.heap.size)) args s 1 16 (rA cy lay Γ s.heap.size)) (ql_i hT.2.2.2) hT G tmO_n (k := 64) (by decide) (by decide) rfl (rg_runV (As := [.int a1]) (rest := []) hC hT G (c_X11_weddingsOf l D cy lay Γ h _) (cwV 1 hC.2.2.2.2 gX11_ofPlayerNow_X11_weddingsOf rfl rfl rfl hdV_X11_weddingsOf ⟨Nat.le_of_ble_eq_true rfl, Nat.le_of_ble_eq_true rfl⟩) (rg_recv hT G (by decide) r_mo k_X11) rfl hl.1 rfl (Nat.le_of_ble_eq_true rfl) dX11_ofPlayerNow_84 ⟨Nat.le_of_ble_eq_true rfl, Nat.le_of_ble_eq_true rfl⟩) (fun len11 f12 σ10 h lay hly hT H locs G => ?_)
              (try dsimp only at h)
              replace hl : lv_has ls 4 [(3, .ref (lay (13 + j2))), (0, .ref (lay 0)), (1, .int a1), (2, .int a2)] := by rw [hly (13 + j2) (by have := (hj3).1; omega), hly 0 (by decide)]; exact hl
              refine lv_iload_n hC.1 hC.2.1 dX11_ofPlayerNow_87 rfl (lv_at hl 3 rfl) ?_
              refine lv_bipush (v := 6) hC.1 hC.2.1 dX11_ofPlayerNow_88 (by decide) ?_
              refine lv_isub hC.1 hC.2.1 dX11_ofPlayerNow_90 ?_
              obtain ⟨hn14, h⟩ := h
              refine rg_iald hC hT G (by decide) (r_ti (by decide) rfl) hn14 dX11_ofPlayerNow_91 ?_
              refine W.widen (k := 1) (n := 16) (by decide) (by decide) ?_
              exact rg_iret hC hr hlocks (rG_drop G hT.2.2.2) h dX11_ofPlayerNow_92
theorem hdV_X11_ofPlayerNow : yX11_ofPlayerNow.cls = RX11 ∧ yX11_ofPlayerNow.cls ≠ "java/lang/invoke/MethodHandle" ∧ yX11_ofPlayerNow.cls ≠ "java/lang/invoke/VarHandle" ∧ (parseMethodDescriptor yX11_ofPlayerNow.desc).map (fun d => d.parameters.length) = some 2 := by decide +kernel
abbrev rm_X11_ofPlayer : Room := { frames := 5, cells := 1, slots := 16, locals := 111 }
theorem i_X11_ofPlayer_X11 : ∀ w ∈ wsX110, w ∈ wsX11_ofPlayer := fun _ h => List.mem_cons_of_mem _ (List.mem_append_left _ (List.mem_append_left _ (List.mem_append_left _ (List.mem_append_right _ h))))
def w_X11_ofPlayer (Γ : RG) (post : Int32 → MS → Prop) (σ : MS) (a1 : Int32) (a2 : Int32) : Prop := w_X11_isPlayer Γ (fun r2 σ1 => ((r2 = 0 → w_X11_refuse Γ (fun r12 σ11 => post r12 σ11) σ1 1) ∧ (¬ r2 = 0 → w_X11_is Γ (fun r5 σ4 => ((r5 = 0 → w_X11_refuse Γ (fun r8 σ7 => post r8 σ7) σ4 2) ∧ (¬ r5 = 0 → w_X11_ofPlayerNow Γ (fun r10 σ9 => post r10 σ9) σ4 a1 a2))) σ1 a2 0 8))) (up2 σ 0 0 0) a1
set_option maxHeartbeats 4000000 in
set_option maxRecDepth 100000 in
theorem c_X11_ofPlayer (l : Launch) (D : va_G) (cy : Nat → ClassId) (lay : Nat → Nat) (Γ : RG) {σ : MS} {post : Int32 → MS → Prop} {a1 : Int32} {a2 : Int32} (h : w_X11_ofPlayer Γ post σ a1 a2) (sz : Nat) : Met l yX11_ofPlayer wsX11_ofPlayer rm_X11_ofPlayer (va_Pc [.ref (lay 0), .int a1, .int a2] (rI D cy lay Γ σ sz)) (va_Qi post (rO D cy lay Γ) (rA cy lay Γ sz)) 1 16 (rA cy lay Γ sz) := by
  refine rg_ofW (cc := cX11_ofPlayer) (maxL := 3) (ret := some .int) (own := RX11) (Qc := fun sz => va_Qi post (rO D cy lay Γ) (rA cy lay Γ sz)) (by decide) rfl (Nat.le_of_ble_eq_true rfl) rfl ?_
  intro p e s m args below meth c ls hC hr hlocks hT G hl
  unfold w_X11_ofPlayer at h
  have hl : lv_has ls 3 [(0, .ref (lay 0)), (1, .int a1), (2, .int a2)] := hl
  refine lv_aload_n hC.1 hC.2.1 dX11_ofPlayer_0 rfl (lv_at hl 0 rfl) ?_
  refine lv_iconst (v := 0) hC.1 hC.2.1 dX11_ofPlayer_1 (by decide) ?_
  refine rg_put hC hT G (by decide) r_mo k_X11 i_X11_ofPlayer_X11 0 (by decide) (wm 1 rfl) rfl rfl (by simp) r_mo (by rw [up2_eq]; rfl) dX11_ofPlayer_2 (fun H locs G => ?_)
  refine lv_aload_n hC.1 hC.2.1 dX11_ofPlayer_5 rfl (lv_at hl 0 rfl) ?_
  refine lv_iload_n hC.1 hC.2.1 dX11_ofPlayer_6 rfl (lv_at hl 1 rfl) ?_
  refine rg_i G (rg_runV (As := [.int a1]) (rest := []) hC hT G (c_X11_isPlayer l D cy lay Γ h _) (cwV 1 hC.2.2.2.2 gX11_ofPlayer_X11_isPlayer rfl rfl rfl hdV_X11_isPlayer ⟨Nat.le_of_ble_eq_true rfl, Nat.le_of_ble_eq_true rfl⟩) (rg_recv hT G (by decide) r_mo k_X11) rfl hl.1 rfl (Nat.le_of_ble_eq_true rfl) dX11_ofPlayer_7 ⟨Nat.le_of_ble_eq_true rfl, Nat.le_of_ble_eq_true rfl⟩) (fun r2 σ1 H locs h G => ?_)
  (try dsimp only at h)
  refine lv_if_ne (tgt := 19) hC.1 hC.2.1 dX11_ofPlayer_10 (by decide) (fun c3 => ?_) (fun c3 => ?_)
  · replace h := h.2 c3
    refine lv_iload_n hC.1 hC.2.1 dX11_ofPlayer_19 rfl (lv_at hl 2 rfl) ?_
    refine lv_iconst (v := 0) hC.1 hC.2.1 dX11_ofPlayer_20 (by decide) ?_
    refine lv_bipush (v := 8) hC.1 hC.2.1 dX11_ofPlayer_21 (by decide) ?_
    refine rg_i G (rg_runS (As := [.int a2, .int 0, .int 8]) (rest := []) hC hT G (c_X11_is l D cy lay Γ h _) (va_cwS 3 hC.2.2.2.2 gX11_ofPlayer_X11_is rfl rfl rfl hdS_X11_is ⟨Nat.le_of_ble_eq_true rfl, Nat.le_of_ble_eq_true rfl⟩) rfl hl.1 rfl (Nat.le_of_ble_eq_true rfl) dX11_ofPlayer_23 ⟨Nat.le_of_ble_eq_true rfl, Nat.le_of_ble_eq_true rfl⟩) (fun r5 σ4 H locs h G => ?_)
    (try dsimp only at h)
    refine lv_if_eq (tgt := 38) hC.1 hC.2.1 dX11_ofPlayer_26 (by decide) (fun c6 => ?_) (fun c6 => ?_)
    · replace h := h.1 c6
      refine lv_aload_n hC.1 hC.2.1 dX11_ofPlayer_38 rfl (lv_at hl 0 rfl) ?_
      refine lv_iconst (v := 2) hC.1 hC.2.1 dX11_ofPlayer_39 (by decide) ?_
      refine rg_i G (rg_runV (As := [.int 2]) (rest := []) hC hT G (c_X11_refuse l D cy lay Γ h _) (cwV 1 hC.2.2.2.2 gX11_ofPlayer_X11_refuse rfl rfl rfl hdV_X11_refuse ⟨Nat.le_of_ble_eq_true rfl, Nat.le_of_ble_eq_true rfl⟩) (rg_recv hT G (by decide) r_mo k_X11) rfl hl.1 rfl (Nat.le_of_ble_eq_true rfl) dX11_ofPlayer_40 ⟨Nat.le_of_ble_eq_true rfl, Nat.le_of_ble_eq_true rfl⟩) (fun r8 σ7 H locs h G => ?_)
      (try dsimp only at h)
      refine W.widen (k := 1) (n := 16) (by decide) (by decide) ?_
      exact rg_iret hC hr hlocks G h dX11_ofPlayer_43
    · replace h := h.2 c6
      refine lv_aload_n hC.1 hC.2.1 dX11_ofPlayer_29 rfl (lv_at hl 0 rfl) ?_
      refine lv_iload_n hC.1 hC.2.1 dX11_ofPlayer_30 rfl (lv_at hl 1 rfl) ?_
      refine lv_iload_n hC.1 hC.2.1 dX11_ofPlayer_31 rfl (lv_at hl 2 rfl) ?_
      refine rg_i G (rg_runV (As := [.int a1, .int a2]) (rest := []) hC hT G (c_X11_ofPlayerNow l D cy lay Γ h _) (cwV 2 hC.2.2.2.2 gX11_ofPlayer_X11_ofPlayerNow rfl rfl rfl hdV_X11_ofPlayerNow ⟨Nat.le_of_ble_eq_true rfl, Nat.le_of_ble_eq_true rfl⟩) (rg_recv hT G (by decide) r_mo k_X11) rfl hl.1 rfl (Nat.le_of_ble_eq_true rfl) dX11_ofPlayer_32 ⟨Nat.le_of_ble_eq_true rfl, Nat.le_of_ble_eq_true rfl⟩) (fun r10 σ9 H locs h G => ?_)
      (try dsimp only at h)
      refine lv_goto (tgt := 43) hC.1 hC.2.1 dX11_ofPlayer_35 (by decide) ?_
      refine W.widen (k := 1) (n := 16) (by decide) (by decide) ?_
      exact rg_iret hC hr hlocks G h dX11_ofPlayer_43
  · replace h := h.1 c3
    refine lv_aload_n hC.1 hC.2.1 dX11_ofPlayer_13 rfl (lv_at hl 0 rfl) ?_
    refine lv_iconst (v := 1) hC.1 hC.2.1 dX11_ofPlayer_14 (by decide) ?_
    refine rg_i G (rg_runV (As := [.int 1]) (rest := []) hC hT G (c_X11_refuse l D cy lay Γ h _) (cwV 1 hC.2.2.2.2 gX11_ofPlayer_X11_refuse rfl rfl rfl hdV_X11_refuse ⟨Nat.le_of_ble_eq_true rfl, Nat.le_of_ble_eq_true rfl⟩) (rg_recv hT G (by decide) r_mo k_X11) rfl hl.1 rfl (Nat.le_of_ble_eq_true rfl) dX11_ofPlayer_15 ⟨Nat.le_of_ble_eq_true rfl, Nat.le_of_ble_eq_true rfl⟩) (fun r12 σ11 H locs h G => ?_)
    (try dsimp only at h)
    refine W.widen (k := 1) (n := 16) (by decide) (by decide) ?_
    exact rg_iret hC hr hlocks G h dX11_ofPlayer_18
theorem hdV_X11_ofPlayer : yX11_ofPlayer.cls = RX11 ∧ yX11_ofPlayer.cls ≠ "java/lang/invoke/MethodHandle" ∧ yX11_ofPlayer.cls ≠ "java/lang/invoke/VarHandle" ∧ (parseMethodDescriptor yX11_ofPlayer.desc).map (fun d => d.parameters.length) = some 2 := by decide +kernel
abbrev rm_X11_set : Room := { frames := 6, cells := 4, slots := 64, locals := 142 }
theorem i_X11_set_X11 : ∀ w ∈ wsX110, w ∈ wsX11_set := fun _ h => List.mem_cons_of_mem _ (List.mem_append_left _ (List.mem_append_left _ (List.mem_append_right _ h)))
def u_X11_set_22 (Γ : RG) (post : Int32 → MS → Prop) (a1 : Int32) (a2 : Int32) (σ : MS) : Prop := w_X11_refuse Γ (fun r3 σ2 => post r3 σ2) σ 1
set_option maxHeartbeats 4000000 in
set_option maxRecDepth 100000 in
theorem l_X11_set_22 {p : Program} {l : Launch} {e : Env} {s : State} {m : MethodId} {args : Array Value} {below : List Frame} {meth : Method} {c : Code} {D : va_G} {cy : Nat → ClassId} {lay : Nat → Nat} {Γ : RG} {post : Int32 → MS → Prop} (a1 : Int32) (a2 : Int32) (hC : CallFix p m c cX11_set 3 s args wsX11_set RX11) (hr : meth.sig.returnType = some .int) (hlocks : meth.locks = false) (hT : rT D cy lay Γ s) : ∀ (σ : MS), u_X11_set_22 Γ post a1 a2 σ → ∀ (H : Heap) (locs : List Loc) (ls : Array Slot), rG D cy lay Γ tn σ (rA cy lay Γ s.heap.size) s.heap H locs → lv_has ls 3 [(0, .ref (lay 0)), (1, .int a1), (2, .int a2)] → W p l e rm_X11_set s m args below meth c H locs 0 0 (MQ below (va_Qi post (rO D cy lay Γ) (rA cy lay Γ s.heap.size)) args s 4 64 (rA cy lay Γ s.heap.size)) (F0 m 22 ls []) := by
  intro σ h H locs ls G hl
  unfold u_X11_set_22 at h
  refine lv_aload_n hC.1 hC.2.1 dX11_set_22 rfl (lv_at hl 0 rfl) ?_
  refine lv_iconst (v := 1) hC.1 hC.2.1 dX11_set_23 (by decide) ?_
  refine rg_i G (rg_runV (As := [.int 1]) (rest := []) hC hT G (c_X11_refuse l D cy lay Γ h _) (cwV 1 hC.2.2.2.2 gX11_set_X11_refuse rfl rfl rfl hdV_X11_refuse ⟨Nat.le_of_ble_eq_true rfl, Nat.le_of_ble_eq_true rfl⟩) (rg_recv hT G (by decide) r_mo k_X11) rfl hl.1 rfl (Nat.le_of_ble_eq_true rfl) dX11_set_24 ⟨Nat.le_of_ble_eq_true rfl, Nat.le_of_ble_eq_true rfl⟩) (fun r3 σ2 H locs h G => ?_)
  (try dsimp only at h)
  refine W.widen (k := 4) (n := 64) (by decide) (by decide) ?_
  exact rg_iret hC hr hlocks G h dX11_set_27
def w_X11_set (Γ : RG) (post : Int32 → MS → Prop) (σ : MS) (a1 : Int32) (a2 : Int32) : Prop := ((a1 < 0 → u_X11_set_22 Γ post a1 a2 (up2 σ 0 0 0)) ∧ (¬ a1 < 0 → w_lp_Jx4a65c_size_8abf5 Γ (fun r5 σ4 => ((a1 < (1 <<< (r5 &&& 31)) → ((a2 = 0 → w_X11_bestSet Γ (fun len9 f10 σ8 => post (nI len9) (rw0 (mrg σ8 σ4) 64 f10)) σ4 a1) ∧ (¬ a2 = 0 → w_X11_minutesOf Γ (fun r13 σ12 => post r13 σ12) σ4 a1))) ∧ (¬ a1 < (1 <<< (r5 &&& 31)) → u_X11_set_22 Γ post a1 a2 σ4))) (up2 σ 0 0 0)))
set_option maxHeartbeats 4000000 in
set_option maxRecDepth 100000 in
theorem c_X11_set (l : Launch) (D : va_G) (cy : Nat → ClassId) (lay : Nat → Nat) (Γ : RG) {σ : MS} {post : Int32 → MS → Prop} {a1 : Int32} {a2 : Int32} (h : w_X11_set Γ post σ a1 a2) (sz : Nat) : Met l yX11_set wsX11_set rm_X11_set (va_Pc [.ref (lay 0), .int a1, .int a2] (rI D cy lay Γ σ sz)) (va_Qi post (rO D cy lay Γ) (rA cy lay Γ sz)) 4 64 (rA cy lay Γ sz) := by
  refine rg_ofW (cc := cX11_set) (maxL := 3) (ret := some .int) (own := RX11) (Qc := fun sz => va_Qi post (rO D cy lay Γ) (rA cy lay Γ sz)) (by decide) rfl (Nat.le_of_ble_eq_true rfl) rfl ?_
  intro p e s m args below meth c ls hC hr hlocks hT G hl
  unfold w_X11_set at h
  have hl : lv_has ls 3 [(0, .ref (lay 0)), (1, .int a1), (2, .int a2)] := hl
  refine lv_aload_n hC.1 hC.2.1 dX11_set_0 rfl (lv_at hl 0 rfl) ?_
  refine lv_iconst (v := 0) hC.1 hC.2.1 dX11_set_1 (by decide) ?_
  refine rg_put hC hT G (by decide) r_mo k_X11 i_X11_set_X11 0 (by decide) (wm 1 rfl) rfl rfl (by simp) r_mo (by rw [up2_eq]; rfl) dX11_set_2 (fun H locs G => ?_)
  refine lv_iload_n hC.1 hC.2.1 dX11_set_5 rfl (lv_at hl 1 rfl) ?_
  refine lv_if_lt (tgt := 22) hC.1 hC.2.1 dX11_set_6 (by decide) (fun c1 => ?_) (fun c1 => ?_)
  · replace h := h.1 c1
    exact l_X11_set_22 a1 a2 hC hr hlocks hT _ h _ _ _ G (lv_sub hl [0, 1, 2] rfl)
  · replace h := h.2 c1
    refine lv_iload_n hC.1 hC.2.1 dX11_set_9 rfl (lv_at hl 1 rfl) ?_
    refine lv_iconst (v := 1) hC.1 hC.2.1 dX11_set_10 (by decide) ?_
    refine lv_aload_n hC.1 hC.2.1 dX11_set_11 rfl (lv_at hl 0 rfl) ?_
    refine rg_get hC hT G (by decide) r_mo k_X11 i_X11_set_X11 3 (by decide) (wm 2 rfl) rfl dX11_set_12 ?_
    refine rg_i G (rg_runV (As := []) (rest := [.int 1, .int a1]) hC hT G (c_lp_Jx4a65c_size_8abf5 l D cy lay Γ h _) (cwV 0 hC.2.2.2.2 gX11_set_Jx4a65c_size_8abf5 rfl rfl rfl hdV_Jx4a65c_size_8abf5 ⟨Nat.le_of_ble_eq_true rfl, Nat.le_of_ble_eq_true rfl⟩) (rg_recv hT G (by decide) r_lp k_AL) rfl hl.1 rfl (Nat.le_of_ble_eq_true rfl) dX11_set_15 ⟨Nat.le_of_ble_eq_true rfl, Nat.le_of_ble_eq_true rfl⟩) (fun r5 σ4 H locs h G => ?_)
    (try dsimp only at h)
    refine lv_ishl hC.1 hC.2.1 dX11_set_18 ?_
    refine lv_icmp_lt (tgt := 28) hC.1 hC.2.1 dX11_set_19 (by decide) (fun c6 => ?_) (fun c6 => ?_)
    · replace h := h.1 c6
      refine lv_iload_n hC.1 hC.2.1 dX11_set_28 rfl (lv_at hl 2 rfl) ?_
      refine lv_if_eq (tgt := 40) hC.1 hC.2.1 dX11_set_29 (by decide) (fun c7 => ?_) (fun c7 => ?_)
      · replace h := h.1 c7
        refine lv_aload_n hC.1 hC.2.1 dX11_set_40 rfl (lv_at hl 0 rfl) ?_
        refine lv_iload_n hC.1 hC.2.1 dX11_set_41 rfl (lv_at hl 1 rfl) ?_
        refine rg_aM (Q := fun lay => MQ below (va_Qi post (rO D cy lay Γ) (rA cy lay Γ s.heap.size)) args s 4 64 (rA cy lay Γ s.heap.size)) (ql_i hT.2.2.2) hT G tmO_n (k := 64) (by decide) (by decide) rfl (rg_runV (As := [.int a1]) (rest := []) hC hT G (c_X11_bestSet l D cy lay Γ h _) (cwV 1 hC.2.2.2.2 gX11_set_X11_bestSet rfl rfl rfl hdV_X11_bestSet ⟨Nat.le_of_ble_eq_true rfl, Nat.le_of_ble_eq_true rfl⟩) (rg_recv hT G (by decide) r_mo k_X11) rfl hl.1 rfl (Nat.le_of_ble_eq_true rfl) dX11_set_42 ⟨Nat.le_of_ble_eq_true rfl, Nat.le_of_ble_eq_true rfl⟩) (fun len9 f10 σ8 h lay hly hT H locs G => ?_)
        (try dsimp only at h)
        replace hl : lv_has ls 3 [(0, .ref (lay 0)), (1, .int a1), (2, .int a2)] := by rw [hly 0 (by decide)]; exact hl
        refine rg_alen hC hT G (by decide) (r_ti (by decide) rfl) dX11_set_45 ?_
        refine W.widen (k := 4) (n := 64) (by decide) (by decide) ?_
        exact rg_iret hC hr hlocks (rG_drop G hT.2.2.2) h dX11_set_46
      · replace h := h.2 c7
        refine lv_aload_n hC.1 hC.2.1 dX11_set_32 rfl (lv_at hl 0 rfl) ?_
        refine lv_iload_n hC.1 hC.2.1 dX11_set_33 rfl (lv_at hl 1 rfl) ?_
        refine rg_i G (rg_runV (As := [.int a1]) (rest := []) hC hT G (c_X11_minutesOf l D cy lay Γ h _) (cwV 1 hC.2.2.2.2 gX11_set_X11_minutesOf rfl rfl rfl hdV_X11_minutesOf ⟨Nat.le_of_ble_eq_true rfl, Nat.le_of_ble_eq_true rfl⟩) (rg_recv hT G (by decide) r_mo k_X11) rfl hl.1 rfl (Nat.le_of_ble_eq_true rfl) dX11_set_34 ⟨Nat.le_of_ble_eq_true rfl, Nat.le_of_ble_eq_true rfl⟩) (fun r13 σ12 H locs h G => ?_)
        (try dsimp only at h)
        refine lv_goto (tgt := 46) hC.1 hC.2.1 dX11_set_37 (by decide) ?_
        refine W.widen (k := 4) (n := 64) (by decide) (by decide) ?_
        exact rg_iret hC hr hlocks G h dX11_set_46
    · replace h := h.2 c6
      exact l_X11_set_22 a1 a2 hC hr hlocks hT _ h _ _ _ G (lv_sub hl [0, 1, 2] rfl)
theorem hdV_X11_set : yX11_set.cls = RX11 ∧ yX11_set.cls ≠ "java/lang/invoke/MethodHandle" ∧ yX11_set.cls ≠ "java/lang/invoke/VarHandle" ∧ (parseMethodDescriptor yX11_set.desc).map (fun d => d.parameters.length) = some 2 := by decide +kernel
abbrev rm_X11_wouldLose : Room := { frames := 13, cells := 3, slots := 48, locals := 337 }
theorem i_X11_wouldLose_X11 : ∀ w ∈ wsX110, w ∈ wsX11_wouldLose := fun _ h => List.mem_cons_of_mem _ (List.mem_append_left _ (List.mem_append_left _ (List.mem_append_left _ (List.mem_append_left _ (List.mem_append_right _ h)))))
theorem i_X11_wouldLose_X9 : ∀ w ∈ wsX90, w ∈ wsX11_wouldLose := fun _ h => List.mem_cons_of_mem _ (List.mem_append_left _ (List.mem_append_left _ (List.mem_append_right _ h)))
theorem i_X11_wouldLose_X10 : ∀ w ∈ wsX100, w ∈ wsX11_wouldLose := fun _ h => List.mem_cons_of_mem _ (List.mem_append_left _ (List.mem_append_left _ (List.mem_append_left _ (List.mem_append_right _ h))))
def u_X11_wouldLose_199 (Γ : RG) (post : Int32 → MS → Prop) (a1 : Int32) (a2 : Int32) : Nat → MS → Int32 → Int32 → Nat → Nat → Nat → Prop
  | 0, _, _, _, _, _, _ => False
  | n + 1, σ, v8, v9, len9, len13, len17 => (((nI len9) ≤ v9 → post v8 σ) ∧ (¬ (nI len9) ≤ v9 → w_lw_Jx4a65c_get_915e3 Γ (fun j32 σ31 => ((j32 < 14 ∧ j32 < Γ.2.2.1) ∧ (vp_in v9 len9 ∧ w_lw_Jx4a65c_get_915e3 Γ (fun j36 σ35 => ((j36 < 14 ∧ j36 < Γ.2.2.1) ∧ (vp_in v9 len13 ∧ w_lw_Jx4a65c_get_915e3 Γ (fun j40 σ39 => ((j40 < 14 ∧ j40 < Γ.2.2.1) ∧ (vp_in v9 len17 ∧ (∀ y43 : Int32, y43 = (mrg σ39 (up2 (mrg σ35 (up2 (mrg σ31 σ) (33 + j32) 8 ((mrg σ31 σ) 64 (Int32.toNatClampNeg v9)))) (33 + j36) 7 ((mrg σ35 (up2 (mrg σ31 σ) (33 + j32) 8 ((mrg σ31 σ) 64 (Int32.toNatClampNeg v9)))) 65 (Int32.toNatClampNeg v9)))) 66 (Int32.toNatClampNeg v9) → u_X11_wouldLose_199 Γ post a1 a2 n (up2 (mrg σ39 (up2 (mrg σ35 (up2 (mrg σ31 σ) (33 + j32) 8 ((mrg σ31 σ) 64 (Int32.toNatClampNeg v9)))) (33 + j36) 7 ((mrg σ35 (up2 (mrg σ31 σ) (33 + j32) 8 ((mrg σ31 σ) 64 (Int32.toNatClampNeg v9)))) 65 (Int32.toNatClampNeg v9)))) (33 + j40) 11 y43) v8 (v9 + 1) len9 len13 len17)))) (up2 (mrg σ35 (up2 (mrg σ31 σ) (33 + j32) 8 ((mrg σ31 σ) 64 (Int32.toNatClampNeg v9)))) (33 + j36) 7 ((mrg σ35 (up2 (mrg σ31 σ) (33 + j32) 8 ((mrg σ31 σ) 64 (Int32.toNatClampNeg v9)))) 65 (Int32.toNatClampNeg v9))) v9))) (up2 (mrg σ31 σ) (33 + j32) 8 ((mrg σ31 σ) 64 (Int32.toNatClampNeg v9))) v9))) σ v9))
set_option maxHeartbeats 4000000 in
set_option maxRecDepth 100000 in
theorem l_X11_wouldLose_199 {p : Program} {l : Launch} {e : Env} {s : State} {m : MethodId} {args : Array Value} {below : List Frame} {meth : Method} {c : Code} {D : va_G} {cy : Nat → ClassId} {lay : Nat → Nat} {Γ : RG} {post : Int32 → MS → Prop} (a1 : Int32) (a2 : Int32) (hC : CallFix p m c cX11_wouldLose 10 s args wsX11_wouldLose RX11) (hr : meth.sig.returnType = some .int) (hlocks : meth.locks = false) (hT : rT D cy lay Γ s) : ∀ (n : Nat), ∀ (σ : MS) (v8 : Int32) (v9 : Int32) (len9 : Nat) (len13 : Nat) (len17 : Nat), u_X11_wouldLose_199 Γ post a1 a2 n σ v8 v9 len9 len13 len17 → ∀ (H : Heap) (locs : List Loc) (ls : Array Slot), rG D cy lay Γ (gU (gU (gU tn 64 (some (0, len9))) 65 (some (0, len13))) 66 (some (0, len17))) σ (rA cy lay Γ s.heap.size) s.heap H locs → lv_has ls 10 [(0, .ref (lay 0)), (1, .int a1), (2, .int a2), (3, .ref (lay 64)), (4, .ref (lay 65)), (5, .ref (lay 66)), (8, .int v8), (9, .int v9)] → W p l e rm_X11_wouldLose s m args below meth c H locs 3 48 (MQ below (va_Qi post (rO D cy lay Γ) (rA cy lay Γ s.heap.size)) args s 3 48 (rA cy lay Γ s.heap.size)) (F0 m 199 ls []) := by
  intro n
  induction n with
  | zero =>
    intro σ v8 v9 len9 len13 len17 h
    exact h.elim
  | succ n ih =>
    intro σ v8 v9 len9 len13 len17 h H locs ls G hl
    rw [u_X11_wouldLose_199] at h
    refine lv_iload hC.1 hC.2.1 dX11_wouldLose_199 (lv_at hl 7 rfl) ?_
    refine lv_aload_n hC.1 hC.2.1 dX11_wouldLose_201 rfl (lv_at hl 3 rfl) ?_
    refine rg_alen hC hT G (by decide) (r_ti (by decide) rfl) dX11_wouldLose_202 ?_
    refine lv_icmp_ge (tgt := 271) hC.1 hC.2.1 dX11_wouldLose_203 (by decide) (fun c30 => ?_) (fun c30 => ?_)
    · replace h := h.1 c30
      refine lv_iload hC.1 hC.2.1 dX11_wouldLose_271 (lv_at hl 6 rfl) ?_
      refine W.widen (k := 3) (n := 48) (by decide) (by decide) ?_
      exact rg_iret hC hr hlocks (rG_drop G hT.2.2.2) h dX11_wouldLose_273
    · replace h := h.2 c30
      refine lv_aload_n hC.1 hC.2.1 dX11_wouldLose_206 rfl (lv_at hl 0 rfl) ?_
      refine rg_get hC hT G (by decide) r_mo k_X11 i_X11_wouldLose_X11 5 (by decide) (wm 2 rfl) rfl dX11_wouldLose_207 ?_
      refine lv_iload hC.1 hC.2.1 dX11_wouldLose_210 (lv_at hl 7 rfl) ?_
      refine rg_rM (f := fun i => lay (33 + i)) hT G (rg_runV (As := [.int v9]) (rest := []) hC hT (rG_drop G hT.2.2.2) (c_lw_Jx4a65c_get_915e3 l D cy lay Γ h _) (cwV 1 hC.2.2.2.2 gX11_wouldLose_Jx4a65c_get_915e3 rfl rfl rfl hdV_Jx4a65c_get_915e3 ⟨Nat.le_of_ble_eq_true rfl, Nat.le_of_ble_eq_true rfl⟩) (rg_recv hT (rG_drop G hT.2.2.2) (by decide) r_lw k_AL) rfl hl.1 rfl (Nat.le_of_ble_eq_true rfl) dX11_wouldLose_212 ⟨Nat.le_of_ble_eq_true rfl, Nat.le_of_ble_eq_true rfl⟩) (fun j32 σ31 H locs h G => ?_)
      (try dsimp only at h)
      obtain ⟨hj33, h⟩ := h
      refine rg_cast hC hT k_X10 (wm 4 rfl) (rg_recv hT G (rk_wd hj33) (r_wd hj33) k_X10) dX11_wouldLose_215 ?_
      refine lv_aload_n hC.1 hC.2.1 dX11_wouldLose_218 rfl (lv_at hl 3 rfl) ?_
      refine lv_iload hC.1 hC.2.1 dX11_wouldLose_219 (lv_at hl 7 rfl) ?_
      obtain ⟨hn34, h⟩ := h
      refine rg_iald hC hT G (by decide) (r_ti (by decide) rfl) hn34 dX11_wouldLose_221 ?_
      refine rg_putN hC hT G (rk_wd hj33) (r_wd hj33) k_X10 i_X11_wouldLose_X10 8 (by decide) 18 rfl rfl rfl (by simp) (r_wd hj33) (by rw [up2_eq]; rfl) dX11_wouldLose_222 (fun H locs G => ?_)
      refine lv_aload_n hC.1 hC.2.1 dX11_wouldLose_225 rfl (lv_at hl 0 rfl) ?_
      refine rg_get hC hT G (by decide) r_mo k_X11 i_X11_wouldLose_X11 5 (by decide) (wm 2 rfl) rfl dX11_wouldLose_226 ?_
      refine lv_iload hC.1 hC.2.1 dX11_wouldLose_229 (lv_at hl 7 rfl) ?_
      refine rg_rM (f := fun i => lay (33 + i)) hT G (rg_runV (As := [.int v9]) (rest := []) hC hT (rG_drop G hT.2.2.2) (c_lw_Jx4a65c_get_915e3 l D cy lay Γ h _) (cwV 1 hC.2.2.2.2 gX11_wouldLose_Jx4a65c_get_915e3 rfl rfl rfl hdV_Jx4a65c_get_915e3 ⟨Nat.le_of_ble_eq_true rfl, Nat.le_of_ble_eq_true rfl⟩) (rg_recv hT (rG_drop G hT.2.2.2) (by decide) r_lw k_AL) rfl hl.1 rfl (Nat.le_of_ble_eq_true rfl) dX11_wouldLose_231 ⟨Nat.le_of_ble_eq_true rfl, Nat.le_of_ble_eq_true rfl⟩) (fun j36 σ35 H locs h G => ?_)
      (try dsimp only at h)
      obtain ⟨hj37, h⟩ := h
      refine rg_cast hC hT k_X10 (wm 4 rfl) (rg_recv hT G (rk_wd hj37) (r_wd hj37) k_X10) dX11_wouldLose_234 ?_
      refine lv_aload hC.1 hC.2.1 dX11_wouldLose_237 (lv_at hl 4 rfl) ?_
      refine lv_iload hC.1 hC.2.1 dX11_wouldLose_239 (lv_at hl 7 rfl) ?_
      obtain ⟨hn38, h⟩ := h
      refine rg_iald hC hT G (by decide) (r_ti (by decide) rfl) hn38 dX11_wouldLose_241 ?_
      refine rg_putN hC hT G (rk_wd hj37) (r_wd hj37) k_X10 i_X11_wouldLose_X10 7 (by decide) 17 rfl rfl rfl (by simp) (r_wd hj37) (by rw [up2_eq]; rfl) dX11_wouldLose_242 (fun H locs G => ?_)
      refine lv_aload_n hC.1 hC.2.1 dX11_wouldLose_245 rfl (lv_at hl 0 rfl) ?_
      refine rg_get hC hT G (by decide) r_mo k_X11 i_X11_wouldLose_X11 5 (by decide) (wm 2 rfl) rfl dX11_wouldLose_246 ?_
      refine lv_iload hC.1 hC.2.1 dX11_wouldLose_249 (lv_at hl 7 rfl) ?_
      refine rg_rM (f := fun i => lay (33 + i)) hT G (rg_runV (As := [.int v9]) (rest := []) hC hT (rG_drop G hT.2.2.2) (c_lw_Jx4a65c_get_915e3 l D cy lay Γ h _) (cwV 1 hC.2.2.2.2 gX11_wouldLose_Jx4a65c_get_915e3 rfl rfl rfl hdV_Jx4a65c_get_915e3 ⟨Nat.le_of_ble_eq_true rfl, Nat.le_of_ble_eq_true rfl⟩) (rg_recv hT (rG_drop G hT.2.2.2) (by decide) r_lw k_AL) rfl hl.1 rfl (Nat.le_of_ble_eq_true rfl) dX11_wouldLose_251 ⟨Nat.le_of_ble_eq_true rfl, Nat.le_of_ble_eq_true rfl⟩) (fun j40 σ39 H locs h G => ?_)
      (try dsimp only at h)
      obtain ⟨hj41, h⟩ := h
      refine rg_cast hC hT k_X10 (wm 4 rfl) (rg_recv hT G (rk_wd hj41) (r_wd hj41) k_X10) dX11_wouldLose_254 ?_
      refine lv_aload hC.1 hC.2.1 dX11_wouldLose_257 (lv_at hl 5 rfl) ?_
      refine lv_iload hC.1 hC.2.1 dX11_wouldLose_259 (lv_at hl 7 rfl) ?_
      obtain ⟨hn42, h⟩ := h
      refine rg_iald hC hT G (by decide) (r_ti (by decide) rfl) hn42 dX11_wouldLose_261 ?_
      refine lv_topi (fun y43 ey43 => ?_)
      replace h := h y43 ey43
      refine rg_putN hC hT G (rk_wd hj41) (r_wd hj41) k_X10 i_X11_wouldLose_X10 11 (by decide) 21 rfl rfl rfl (by simp) (r_wd hj41) (by rw [up2_eq]; rfl) dX11_wouldLose_262 (fun H locs G => ?_)
      refine lv_iinc (v := v9 + 1) (lv' := [(9, .int (v9 + 1)), (0, .ref (lay 0)), (1, .int a1), (2, .int a2), (3, .ref (lay 64)), (4, .ref (lay 65)), (5, .ref (lay 66)), (8, .int v8)]) hC.1 hC.2.1 dX11_wouldLose_265 hl (k := 7) rfl rfl (by decide) rfl (fun ls hl => ?_)
      refine lv_goto (tgt := 199) hC.1 hC.2.1 dX11_wouldLose_268 (by decide) ?_
      exact ih _ _ _ _ _ _ h _ _ _ G (lv_sub hl [1, 2, 3, 4, 5, 6, 7, 0] rfl)
def u_X11_wouldLose_68 (Γ : RG) (post : Int32 → MS → Prop) (a1 : Int32) (a2 : Int32) : Nat → MS → Int32 → Nat → Nat → Nat → Prop
  | 0, _, _, _, _, _ => False
  | n + 1, σ, v6, len9, len13, len17 => (((nI len9) ≤ v6 → w_lp_Jx4a65c_get_915e3 Γ (fun j21 σ20 => ((j21 < 10 ∧ j21 < Γ.1) ∧ (vp_in a2 366 ∧ w_X11_illNow Γ (fun r25 σ24 => w_lp_Jx4a65c_get_915e3 Γ (fun j27 σ26 => ((j27 < 10 ∧ j27 < Γ.1) ∧ (vp_in a2 366 ∧ (∃ k, u_X11_wouldLose_199 Γ post a1 a2 k (up2 (up2 (mrg σ26 (mrg σ24 (mrg σ20 σ))) (23 + j27) (Int32.toNatClampNeg a2) (vp_nar .boolean ((mrg σ20 σ) (23 + j21) (Int32.toNatClampNeg a2)))) 0 2 ((mrg σ20 σ) 0 2)) r25 0 len9 len13 len17)))) (mrg σ24 (mrg σ20 σ)) a1) (mrg σ20 σ) a1 a2))) σ a1) ∧ (¬ (nI len9) ≤ v6 → w_lw_Jx4a65c_get_915e3 Γ (fun j45 σ44 => ((j45 < 14 ∧ j45 < Γ.2.2.1) ∧ (vp_in v6 len9 ∧ w_lw_Jx4a65c_get_915e3 Γ (fun j49 σ48 => ((j49 < 14 ∧ j49 < Γ.2.2.1) ∧ (vp_in v6 len13 ∧ w_lw_Jx4a65c_get_915e3 Γ (fun j53 σ52 => ((j53 < 14 ∧ j53 < Γ.2.2.1) ∧ (∀ y55 : Int32, y55 = (mrg σ52 (up2 (mrg σ48 (up2 (mrg σ44 σ) 64 (Int32.toNatClampNeg v6) ((mrg σ44 σ) (33 + j45) 8))) 65 (Int32.toNatClampNeg v6) ((mrg σ48 (up2 (mrg σ44 σ) 64 (Int32.toNatClampNeg v6) ((mrg σ44 σ) (33 + j45) 8))) (33 + j49) 7))) (33 + j53) 11 → (vp_in v6 len17 ∧ u_X11_wouldLose_68 Γ post a1 a2 n (up2 (mrg σ52 (up2 (mrg σ48 (up2 (mrg σ44 σ) 64 (Int32.toNatClampNeg v6) ((mrg σ44 σ) (33 + j45) 8))) 65 (Int32.toNatClampNeg v6) ((mrg σ48 (up2 (mrg σ44 σ) 64 (Int32.toNatClampNeg v6) ((mrg σ44 σ) (33 + j45) 8))) (33 + j49) 7))) 66 (Int32.toNatClampNeg v6) y55) (v6 + 1) len9 len13 len17)))) (up2 (mrg σ48 (up2 (mrg σ44 σ) 64 (Int32.toNatClampNeg v6) ((mrg σ44 σ) (33 + j45) 8))) 65 (Int32.toNatClampNeg v6) ((mrg σ48 (up2 (mrg σ44 σ) 64 (Int32.toNatClampNeg v6) ((mrg σ44 σ) (33 + j45) 8))) (33 + j49) 7)) v6))) (up2 (mrg σ44 σ) 64 (Int32.toNatClampNeg v6) ((mrg σ44 σ) (33 + j45) 8)) v6))) σ v6))
set_option maxHeartbeats 4000000 in
set_option maxRecDepth 100000 in
theorem l_X11_wouldLose_68 {p : Program} {l : Launch} {e : Env} {s : State} {m : MethodId} {args : Array Value} {below : List Frame} {meth : Method} {c : Code} {D : va_G} {cy : Nat → ClassId} {lay : Nat → Nat} {Γ : RG} {post : Int32 → MS → Prop} (a1 : Int32) (a2 : Int32) (hC : CallFix p m c cX11_wouldLose 10 s args wsX11_wouldLose RX11) (hr : meth.sig.returnType = some .int) (hlocks : meth.locks = false) (hT : rT D cy lay Γ s) : ∀ (n : Nat), ∀ (σ : MS) (v6 : Int32) (len9 : Nat) (len13 : Nat) (len17 : Nat), u_X11_wouldLose_68 Γ post a1 a2 n σ v6 len9 len13 len17 → ∀ (H : Heap) (locs : List Loc) (ls : Array Slot), rG D cy lay Γ (gU (gU (gU tn 64 (some (0, len9))) 65 (some (0, len13))) 66 (some (0, len17))) σ (rA cy lay Γ s.heap.size) s.heap H locs → lv_has ls 10 [(0, .ref (lay 0)), (1, .int a1), (2, .int a2), (3, .ref (lay 64)), (4, .ref (lay 65)), (5, .ref (lay 66)), (6, .int v6)] → W p l e rm_X11_wouldLose s m args below meth c H locs 3 48 (MQ below (va_Qi post (rO D cy lay Γ) (rA cy lay Γ s.heap.size)) args s 3 48 (rA cy lay Γ s.heap.size)) (F0 m 68 ls []) := by
  intro n
  induction n with
  | zero =>
    intro σ v6 len9 len13 len17 h
    exact h.elim
  | succ n ih =>
    intro σ v6 len9 len13 len17 h H locs ls G hl
    rw [u_X11_wouldLose_68] at h
    refine lv_iload hC.1 hC.2.1 dX11_wouldLose_68 (lv_at hl 6 rfl) ?_
    refine lv_aload_n hC.1 hC.2.1 dX11_wouldLose_70 rfl (lv_at hl 3 rfl) ?_
    refine rg_alen hC hT G (by decide) (r_ti (by decide) rfl) dX11_wouldLose_71 ?_
    refine lv_icmp_ge (tgt := 140) hC.1 hC.2.1 dX11_wouldLose_72 (by decide) (fun c19 => ?_) (fun c19 => ?_)
    · replace h := h.1 c19
      refine lv_aload_n hC.1 hC.2.1 dX11_wouldLose_140 rfl (lv_at hl 0 rfl) ?_
      refine rg_get hC hT G (by decide) r_mo k_X11 i_X11_wouldLose_X11 3 (by decide) (wm 5 rfl) rfl dX11_wouldLose_141 ?_
      refine lv_iload_n hC.1 hC.2.1 dX11_wouldLose_144 rfl (lv_at hl 1 rfl) ?_
      refine rg_rM (f := fun i => lay (13 + i)) hT G (rg_runV (As := [.int a1]) (rest := []) hC hT (rG_drop G hT.2.2.2) (c_lp_Jx4a65c_get_915e3 l D cy lay Γ h _) (cwV 1 hC.2.2.2.2 gX11_wouldLose_Jx4a65c_get_915e3 rfl rfl rfl hdV_Jx4a65c_get_915e3 ⟨Nat.le_of_ble_eq_true rfl, Nat.le_of_ble_eq_true rfl⟩) (rg_recv hT (rG_drop G hT.2.2.2) (by decide) r_lp k_AL) rfl hl.1 rfl (Nat.le_of_ble_eq_true rfl) dX11_wouldLose_145 ⟨Nat.le_of_ble_eq_true rfl, Nat.le_of_ble_eq_true rfl⟩) (fun j21 σ20 H locs h G => ?_)
      (try dsimp only at h)
      obtain ⟨hj22, h⟩ := h
      refine rg_cast hC hT k_X9 (wm 6 rfl) (rg_recv hT G (rk_pl hj22) (r_pl hj22) k_X9) dX11_wouldLose_148 ?_
      refine rg_getN hC hT G (rk_pl hj22) (r_pl hj22) k_X9 i_X11_wouldLose_X9 6 (by decide) 8 rfl rfl dX11_wouldLose_151 ?_
      refine lv_iload_n hC.1 hC.2.1 dX11_wouldLose_154 rfl (lv_at hl 2 rfl) ?_
      obtain ⟨hn23, h⟩ := h
      refine rg_zald hC hT G (rk_of hj22) (r_of hj22) hn23 dX11_wouldLose_155 ?_
      refine lv_istore (lv' := [(6, .int ((mrg σ20 σ) (23 + j21) (Int32.toNatClampNeg a2))), (0, .ref (lay 0)), (1, .int a1), (2, .int a2), (3, .ref (lay 64)), (4, .ref (lay 65)), (5, .ref (lay 66))]) hC.1 hC.2.1 dX11_wouldLose_156 hl (by decide) rfl (fun ls hl => ?_)
      refine lv_aload_n hC.1 hC.2.1 dX11_wouldLose_158 rfl (lv_at hl 1 rfl) ?_
      refine rg_get hC hT G (by decide) r_mo k_X11 i_X11_wouldLose_X11 2 (by decide) (wm 7 rfl) rfl dX11_wouldLose_159 ?_
      refine lv_istore (lv' := [(7, .int ((mrg σ20 σ) 0 2)), (6, .int ((mrg σ20 σ) (23 + j21) (Int32.toNatClampNeg a2))), (0, .ref (lay 0)), (1, .int a1), (2, .int a2), (3, .ref (lay 64)), (4, .ref (lay 65)), (5, .ref (lay 66))]) hC.1 hC.2.1 dX11_wouldLose_162 hl (by decide) rfl (fun ls hl => ?_)
      refine lv_aload_n hC.1 hC.2.1 dX11_wouldLose_164 rfl (lv_at hl 2 rfl) ?_
      refine lv_iload_n hC.1 hC.2.1 dX11_wouldLose_165 rfl (lv_at hl 3 rfl) ?_
      refine lv_iload_n hC.1 hC.2.1 dX11_wouldLose_166 rfl (lv_at hl 4 rfl) ?_
      refine rg_iM hT G (rg_runV (As := [.int a1, .int a2]) (rest := []) hC hT (rG_drop G hT.2.2.2) (c_X11_illNow l D cy lay Γ h _) (cwV 2 hC.2.2.2.2 gX11_wouldLose_X11_illNow rfl rfl rfl hdV_X11_illNow ⟨Nat.le_of_ble_eq_true rfl, Nat.le_of_ble_eq_true rfl⟩) (rg_recv hT (rG_drop G hT.2.2.2) (by decide) r_mo k_X11) rfl hl.1 rfl (Nat.le_of_ble_eq_true rfl) dX11_wouldLose_167 ⟨Nat.le_of_ble_eq_true rfl, Nat.le_of_ble_eq_true rfl⟩) (fun r25 σ24 H locs h G => ?_)
      (try dsimp only at h)
      refine lv_istore (lv' := [(8, .int r25), (7, .int ((mrg σ20 σ) 0 2)), (6, .int ((mrg σ20 σ) (23 + j21) (Int32.toNatClampNeg a2))), (0, .ref (lay 0)), (1, .int a1), (2, .int a2), (3, .ref (lay 64)), (4, .ref (lay 65)), (5, .ref (lay 66))]) hC.1 hC.2.1 dX11_wouldLose_170 hl (by decide) rfl (fun ls hl => ?_)
      refine lv_aload_n hC.1 hC.2.1 dX11_wouldLose_172 rfl (lv_at hl 3 rfl) ?_
      refine rg_get hC hT G (by decide) r_mo k_X11 i_X11_wouldLose_X11 3 (by decide) (wm 5 rfl) rfl dX11_wouldLose_173 ?_
      refine lv_iload_n hC.1 hC.2.1 dX11_wouldLose_176 rfl (lv_at hl 4 rfl) ?_
      refine rg_rM (f := fun i => lay (13 + i)) hT G (rg_runV (As := [.int a1]) (rest := []) hC hT (rG_drop G hT.2.2.2) (c_lp_Jx4a65c_get_915e3 l D cy lay Γ h _) (cwV 1 hC.2.2.2.2 gX11_wouldLose_Jx4a65c_get_915e3 rfl rfl rfl hdV_Jx4a65c_get_915e3 ⟨Nat.le_of_ble_eq_true rfl, Nat.le_of_ble_eq_true rfl⟩) (rg_recv hT (rG_drop G hT.2.2.2) (by decide) r_lp k_AL) rfl hl.1 rfl (Nat.le_of_ble_eq_true rfl) dX11_wouldLose_177 ⟨Nat.le_of_ble_eq_true rfl, Nat.le_of_ble_eq_true rfl⟩) (fun j27 σ26 H locs h G => ?_)
      (try dsimp only at h)
      obtain ⟨hj28, h⟩ := h
      refine rg_cast hC hT k_X9 (wm 6 rfl) (rg_recv hT G (rk_pl hj28) (r_pl hj28) k_X9) dX11_wouldLose_180 ?_
      refine rg_getN hC hT G (rk_pl hj28) (r_pl hj28) k_X9 i_X11_wouldLose_X9 6 (by decide) 8 rfl rfl dX11_wouldLose_183 ?_
      refine lv_iload_n hC.1 hC.2.1 dX11_wouldLose_186 rfl (lv_at hl 5 rfl) ?_
      refine lv_iload hC.1 hC.2.1 dX11_wouldLose_187 (lv_at hl 2 rfl) ?_
      obtain ⟨hn29, h⟩ := h
      refine rg_zast hC hT G (rk_of hj28) (fun _ => (r_of hj28)) hn29 dX11_wouldLose_189 (fun H locs G => ?_)
      refine lv_aload_n hC.1 hC.2.1 dX11_wouldLose_190 rfl (lv_at hl 3 rfl) ?_
      refine lv_iload hC.1 hC.2.1 dX11_wouldLose_191 (lv_at hl 1 rfl) ?_
      refine rg_put hC hT G (by decide) r_mo k_X11 i_X11_wouldLose_X11 2 (by decide) (wm 7 rfl) rfl rfl (by simp) r_mo (by rw [up2_eq]; rfl) dX11_wouldLose_193 (fun H locs G => ?_)
      refine lv_iconst (v := 0) hC.1 hC.2.1 dX11_wouldLose_196 (by decide) ?_
      refine lv_istore (lv' := [(9, .int 0), (8, .int r25), (7, .int ((mrg σ20 σ) 0 2)), (6, .int ((mrg σ20 σ) (23 + j21) (Int32.toNatClampNeg a2))), (0, .ref (lay 0)), (1, .int a1), (2, .int a2), (3, .ref (lay 64)), (4, .ref (lay 65)), (5, .ref (lay 66))]) hC.1 hC.2.1 dX11_wouldLose_197 hl (by decide) rfl (fun ls hl => ?_)
      obtain ⟨n1, h⟩ := h
      exact l_X11_wouldLose_199 a1 a2 hC hr hlocks hT n1 _ _ _ _ _ _ h _ _ _ G (lv_sub hl [4, 5, 6, 7, 8, 9, 1, 0] rfl)
    · replace h := h.2 c19
      refine lv_aload_n hC.1 hC.2.1 dX11_wouldLose_75 rfl (lv_at hl 3 rfl) ?_
      refine lv_iload hC.1 hC.2.1 dX11_wouldLose_76 (lv_at hl 6 rfl) ?_
      refine lv_aload_n hC.1 hC.2.1 dX11_wouldLose_78 rfl (lv_at hl 0 rfl) ?_
      refine rg_get hC hT G (by decide) r_mo k_X11 i_X11_wouldLose_X11 5 (by decide) (wm 2 rfl) rfl dX11_wouldLose_79 ?_
      refine lv_iload hC.1 hC.2.1 dX11_wouldLose_82 (lv_at hl 6 rfl) ?_
      refine rg_rM (f := fun i => lay (33 + i)) hT G (rg_runV (As := [.int v6]) (rest := [.int v6, .ref (lay 64)]) hC hT (rG_drop G hT.2.2.2) (c_lw_Jx4a65c_get_915e3 l D cy lay Γ h _) (cwV 1 hC.2.2.2.2 gX11_wouldLose_Jx4a65c_get_915e3 rfl rfl rfl hdV_Jx4a65c_get_915e3 ⟨Nat.le_of_ble_eq_true rfl, Nat.le_of_ble_eq_true rfl⟩) (rg_recv hT (rG_drop G hT.2.2.2) (by decide) r_lw k_AL) rfl hl.1 rfl (Nat.le_of_ble_eq_true rfl) dX11_wouldLose_84 ⟨Nat.le_of_ble_eq_true rfl, Nat.le_of_ble_eq_true rfl⟩) (fun j45 σ44 H locs h G => ?_)
      (try dsimp only at h)
      obtain ⟨hj46, h⟩ := h
      refine rg_cast hC hT k_X10 (wm 4 rfl) (rg_recv hT G (rk_wd hj46) (r_wd hj46) k_X10) dX11_wouldLose_87 ?_
      refine rg_getN hC hT G (rk_wd hj46) (r_wd hj46) k_X10 i_X11_wouldLose_X10 8 (by decide) 18 rfl rfl dX11_wouldLose_90 ?_
      obtain ⟨hn47, h⟩ := h
      refine rg_iast hC hT G (by decide) (fun _ => (r_ti (by decide) rfl)) hn47 dX11_wouldLose_93 (fun H locs G => ?_)
      refine lv_aload hC.1 hC.2.1 dX11_wouldLose_94 (lv_at hl 4 rfl) ?_
      refine lv_iload hC.1 hC.2.1 dX11_wouldLose_96 (lv_at hl 6 rfl) ?_
      refine lv_aload_n hC.1 hC.2.1 dX11_wouldLose_98 rfl (lv_at hl 0 rfl) ?_
      refine rg_get hC hT G (by decide) r_mo k_X11 i_X11_wouldLose_X11 5 (by decide) (wm 2 rfl) rfl dX11_wouldLose_99 ?_
      refine lv_iload hC.1 hC.2.1 dX11_wouldLose_102 (lv_at hl 6 rfl) ?_
      refine rg_rM (f := fun i => lay (33 + i)) hT G (rg_runV (As := [.int v6]) (rest := [.int v6, .ref (lay 65)]) hC hT (rG_drop G hT.2.2.2) (c_lw_Jx4a65c_get_915e3 l D cy lay Γ h _) (cwV 1 hC.2.2.2.2 gX11_wouldLose_Jx4a65c_get_915e3 rfl rfl rfl hdV_Jx4a65c_get_915e3 ⟨Nat.le_of_ble_eq_true rfl, Nat.le_of_ble_eq_true rfl⟩) (rg_recv hT (rG_drop G hT.2.2.2) (by decide) r_lw k_AL) rfl hl.1 rfl (Nat.le_of_ble_eq_true rfl) dX11_wouldLose_104 ⟨Nat.le_of_ble_eq_true rfl, Nat.le_of_ble_eq_true rfl⟩) (fun j49 σ48 H locs h G => ?_)
      (try dsimp only at h)
      obtain ⟨hj50, h⟩ := h
      refine rg_cast hC hT k_X10 (wm 4 rfl) (rg_recv hT G (rk_wd hj50) (r_wd hj50) k_X10) dX11_wouldLose_107 ?_
      refine rg_getN hC hT G (rk_wd hj50) (r_wd hj50) k_X10 i_X11_wouldLose_X10 7 (by decide) 17 rfl rfl dX11_wouldLose_110 ?_
      obtain ⟨hn51, h⟩ := h
      refine rg_iast hC hT G (by decide) (fun _ => (r_ti (by decide) rfl)) hn51 dX11_wouldLose_113 (fun H locs G => ?_)
      refine lv_aload hC.1 hC.2.1 dX11_wouldLose_114 (lv_at hl 5 rfl) ?_
      refine lv_iload hC.1 hC.2.1 dX11_wouldLose_116 (lv_at hl 6 rfl) ?_
      refine lv_aload_n hC.1 hC.2.1 dX11_wouldLose_118 rfl (lv_at hl 0 rfl) ?_
      refine rg_get hC hT G (by decide) r_mo k_X11 i_X11_wouldLose_X11 5 (by decide) (wm 2 rfl) rfl dX11_wouldLose_119 ?_
      refine lv_iload hC.1 hC.2.1 dX11_wouldLose_122 (lv_at hl 6 rfl) ?_
      refine rg_rM (f := fun i => lay (33 + i)) hT G (rg_runV (As := [.int v6]) (rest := [.int v6, .ref (lay 66)]) hC hT (rG_drop G hT.2.2.2) (c_lw_Jx4a65c_get_915e3 l D cy lay Γ h _) (cwV 1 hC.2.2.2.2 gX11_wouldLose_Jx4a65c_get_915e3 rfl rfl rfl hdV_Jx4a65c_get_915e3 ⟨Nat.le_of_ble_eq_true rfl, Nat.le_of_ble_eq_true rfl⟩) (rg_recv hT (rG_drop G hT.2.2.2) (by decide) r_lw k_AL) rfl hl.1 rfl (Nat.le_of_ble_eq_true rfl) dX11_wouldLose_124 ⟨Nat.le_of_ble_eq_true rfl, Nat.le_of_ble_eq_true rfl⟩) (fun j53 σ52 H locs h G => ?_)
      (try dsimp only at h)
      obtain ⟨hj54, h⟩ := h
      refine rg_cast hC hT k_X10 (wm 4 rfl) (rg_recv hT G (rk_wd hj54) (r_wd hj54) k_X10) dX11_wouldLose_127 ?_
      refine rg_getN hC hT G (rk_wd hj54) (r_wd hj54) k_X10 i_X11_wouldLose_X10 11 (by decide) 21 rfl rfl dX11_wouldLose_130 ?_
      refine lv_topi (fun y55 ey55 => ?_)
      replace h := h y55 ey55
      obtain ⟨hn56, h⟩ := h
      refine rg_iast hC hT G (by decide) (fun _ => (r_ti (by decide) rfl)) hn56 dX11_wouldLose_133 (fun H locs G => ?_)
      refine lv_iinc (v := v6 + 1) (lv' := [(6, .int (v6 + 1)), (0, .ref (lay 0)), (1, .int a1), (2, .int a2), (3, .ref (lay 64)), (4, .ref (lay 65)), (5, .ref (lay 66))]) hC.1 hC.2.1 dX11_wouldLose_134 hl (k := 6) rfl rfl (by decide) rfl (fun ls hl => ?_)
      refine lv_goto (tgt := 68) hC.1 hC.2.1 dX11_wouldLose_137 (by decide) ?_
      exact ih _ _ _ _ _ h _ _ _ G (lv_sub hl [1, 2, 3, 4, 5, 6, 0] rfl)
def w_X11_wouldLose (Γ : RG) (post : Int32 → MS → Prop) (σ : MS) (a1 : Int32) (a2 : Int32) : Prop := w_X11_isPlayer Γ (fun r2 σ1 => ((r2 = 0 → w_X11_refuse Γ (fun r60 σ59 => post r60 σ59) σ1 1) ∧ (¬ r2 = 0 → w_X11_isDay Γ (fun r5 σ4 => ((r5 = 0 → w_X11_refuse Γ (fun r58 σ57 => post r58 σ57) σ4 2) ∧ (¬ r5 = 0 → w_lw_Jx4a65c_size_8abf5 Γ (fun r8 σ7 => (∃ len9 : Nat, r8 = nI len9 ∧ len9 ≤ 16 ∧ w_lw_Jx4a65c_size_8abf5 Γ (fun r12 σ11 => (∃ len13 : Nat, r12 = nI len13 ∧ len13 ≤ 16 ∧ w_lw_Jx4a65c_size_8abf5 Γ (fun r16 σ15 => (∃ len17 : Nat, r16 = nI len17 ∧ len17 ≤ 16 ∧ (∃ k, u_X11_wouldLose_68 Γ post a1 a2 k (rw0 (mrg σ15 (rw0 (mrg σ11 (rw0 σ7 64 (fun _ => 0))) 65 (fun _ => 0))) 66 (fun _ => 0)) 0 len9 len13 len17))) (rw0 (mrg σ11 (rw0 σ7 64 (fun _ => 0))) 65 (fun _ => 0)))) (rw0 σ7 64 (fun _ => 0)))) σ4))) σ1 a2))) (up2 σ 0 0 0) a1
set_option maxHeartbeats 4000000 in
set_option maxRecDepth 100000 in
theorem c_X11_wouldLose (l : Launch) (D : va_G) (cy : Nat → ClassId) (lay : Nat → Nat) (Γ : RG) {σ : MS} {post : Int32 → MS → Prop} {a1 : Int32} {a2 : Int32} (h : w_X11_wouldLose Γ post σ a1 a2) (sz : Nat) : Met l yX11_wouldLose wsX11_wouldLose rm_X11_wouldLose (va_Pc [.ref (lay 0), .int a1, .int a2] (rI D cy lay Γ σ sz)) (va_Qi post (rO D cy lay Γ) (rA cy lay Γ sz)) 3 48 (rA cy lay Γ sz) := by
  refine rg_ofW (cc := cX11_wouldLose) (maxL := 10) (ret := some .int) (own := RX11) (Qc := fun sz => va_Qi post (rO D cy lay Γ) (rA cy lay Γ sz)) (by decide) rfl (Nat.le_of_ble_eq_true rfl) rfl ?_
  intro p e s m args below meth c ls hC hr hlocks hT G hl
  unfold w_X11_wouldLose at h
  have hl : lv_has ls 10 [(0, .ref (lay 0)), (1, .int a1), (2, .int a2)] := hl
  refine lv_aload_n hC.1 hC.2.1 dX11_wouldLose_0 rfl (lv_at hl 0 rfl) ?_
  refine lv_iconst (v := 0) hC.1 hC.2.1 dX11_wouldLose_1 (by decide) ?_
  refine rg_put hC hT G (by decide) r_mo k_X11 i_X11_wouldLose_X11 0 (by decide) (wm 1 rfl) rfl rfl (by simp) r_mo (by rw [up2_eq]; rfl) dX11_wouldLose_2 (fun H locs G => ?_)
  refine lv_aload_n hC.1 hC.2.1 dX11_wouldLose_5 rfl (lv_at hl 0 rfl) ?_
  refine lv_iload_n hC.1 hC.2.1 dX11_wouldLose_6 rfl (lv_at hl 1 rfl) ?_
  refine rg_i G (rg_runV (As := [.int a1]) (rest := []) hC hT G (c_X11_isPlayer l D cy lay Γ h _) (cwV 1 hC.2.2.2.2 gX11_wouldLose_X11_isPlayer rfl rfl rfl hdV_X11_isPlayer ⟨Nat.le_of_ble_eq_true rfl, Nat.le_of_ble_eq_true rfl⟩) (rg_recv hT G (by decide) r_mo k_X11) rfl hl.1 rfl (Nat.le_of_ble_eq_true rfl) dX11_wouldLose_7 ⟨Nat.le_of_ble_eq_true rfl, Nat.le_of_ble_eq_true rfl⟩) (fun r2 σ1 H locs h G => ?_)
  (try dsimp only at h)
  refine lv_if_ne (tgt := 19) hC.1 hC.2.1 dX11_wouldLose_10 (by decide) (fun c3 => ?_) (fun c3 => ?_)
  · replace h := h.2 c3
    refine lv_aload_n hC.1 hC.2.1 dX11_wouldLose_19 rfl (lv_at hl 0 rfl) ?_
    refine lv_iload_n hC.1 hC.2.1 dX11_wouldLose_20 rfl (lv_at hl 2 rfl) ?_
    refine rg_i G (rg_runV (As := [.int a2]) (rest := []) hC hT G (c_X11_isDay l D cy lay Γ h _) (cwV 1 hC.2.2.2.2 gX11_wouldLose_X11_isDay rfl rfl rfl hdV_X11_isDay ⟨Nat.le_of_ble_eq_true rfl, Nat.le_of_ble_eq_true rfl⟩) (rg_recv hT G (by decide) r_mo k_X11) rfl hl.1 rfl (Nat.le_of_ble_eq_true rfl) dX11_wouldLose_21 ⟨Nat.le_of_ble_eq_true rfl, Nat.le_of_ble_eq_true rfl⟩) (fun r5 σ4 H locs h G => ?_)
    (try dsimp only at h)
    refine lv_if_ne (tgt := 33) hC.1 hC.2.1 dX11_wouldLose_24 (by decide) (fun c6 => ?_) (fun c6 => ?_)
    · replace h := h.2 c6
      refine lv_aload_n hC.1 hC.2.1 dX11_wouldLose_33 rfl (lv_at hl 0 rfl) ?_
      refine rg_get hC hT G (by decide) r_mo k_X11 i_X11_wouldLose_X11 5 (by decide) (wm 2 rfl) rfl dX11_wouldLose_34 ?_
      refine rg_i G (rg_runV (As := []) (rest := []) hC hT G (c_lw_Jx4a65c_size_8abf5 l D cy lay Γ h _) (cwV 0 hC.2.2.2.2 gX11_wouldLose_Jx4a65c_size_8abf5 rfl rfl rfl hdV_Jx4a65c_size_8abf5 ⟨Nat.le_of_ble_eq_true rfl, Nat.le_of_ble_eq_true rfl⟩) (rg_recv hT G (by decide) r_lw k_AL) rfl hl.1 rfl (Nat.le_of_ble_eq_true rfl) dX11_wouldLose_37 ⟨Nat.le_of_ble_eq_true rfl, Nat.le_of_ble_eq_true rfl⟩) (fun r8 σ7 H locs h G => ?_)
      (try dsimp only at h)
      obtain ⟨len9, hs10a, hs10b, h⟩ := h
      refine rg_newi (Q := fun lay => MQ below (va_Qi post (rO D cy lay Γ) (rA cy lay Γ s.heap.size)) args s 3 48 (rA cy lay Γ s.heap.size)) (ql_i hT.2.2.2) hC hT G tmO_n (k := 64) (by decide) (by decide) rfl (wm 3 rfl) (N := len9) (by rw [hs10a]; exact nI_pos (by omega)) (by rw [hs10a]; exact nI_clamp (by omega)) (by omega) (Nat.le_of_ble_eq_true rfl) (by show _ + len9 ≤ 48; omega) dX11_wouldLose_40 (fun lay hly hT H G => ?_)
      refine W.widen (k := 1) (n := 16) (by decide) (by show _ + len9 ≤ _; omega) ?_
      replace hl : lv_has ls 10 [(0, .ref (lay 0)), (1, .int a1), (2, .int a2)] := by rw [hly 0 (by decide)]; exact hl
      refine lv_astore_n (lv' := [(3, .ref (lay 64)), (0, .ref (lay 0)), (1, .int a1), (2, .int a2)]) hC.1 hC.2.1 dX11_wouldLose_42 rfl hl (by decide) rfl (fun ls hl => ?_)
      refine lv_aload_n hC.1 hC.2.1 dX11_wouldLose_43 rfl (lv_at hl 1 rfl) ?_
      refine rg_get hC hT G (by decide) r_mo k_X11 i_X11_wouldLose_X11 5 (by decide) (wm 2 rfl) rfl dX11_wouldLose_44 ?_
      refine rg_iM hT G (rg_runV (As := []) (rest := []) hC hT (rG_drop G hT.2.2.2) (c_lw_Jx4a65c_size_8abf5 l D cy lay Γ h _) (cwV 0 hC.2.2.2.2 gX11_wouldLose_Jx4a65c_size_8abf5 rfl rfl rfl hdV_Jx4a65c_size_8abf5 ⟨Nat.le_of_ble_eq_true rfl, Nat.le_of_ble_eq_true rfl⟩) (rg_recv hT (rG_drop G hT.2.2.2) (by decide) r_lw k_AL) rfl hl.1 rfl (Nat.le_of_ble_eq_true rfl) dX11_wouldLose_47 ⟨Nat.le_of_ble_eq_true rfl, Nat.le_of_ble_eq_true rfl⟩) (fun r12 σ11 H locs h G => ?_)
      (try dsimp only at h)
      obtain ⟨len13, hs14a, hs14b, h⟩ := h
      refine rg_newi (Q := fun lay => MQ below (va_Qi post (rO D cy lay Γ) (rA cy lay Γ s.heap.size)) args s 3 48 (rA cy lay Γ s.heap.size)) (ql_i hT.2.2.2) hC hT G (tmO_u tmO_n (Or.inl (Nat.le_of_ble_eq_true rfl))) (k := 65) (by decide) (by decide) rfl (wm 3 rfl) (N := len13) (by rw [hs14a]; exact nI_pos (by omega)) (by rw [hs14a]; exact nI_clamp (by omega)) (by omega) (Nat.le_of_ble_eq_true rfl) (by show _ + len13 ≤ 48; omega) dX11_wouldLose_50 (fun lay hly hT H G => ?_)
      refine W.widen (k := 2) (n := 32) (by decide) (by show _ + len13 ≤ _; omega) ?_
      replace hl : lv_has ls 10 [(3, .ref (lay 64)), (0, .ref (lay 0)), (1, .int a1), (2, .int a2)] := by rw [hly 64 (by decide), hly 0 (by decide)]; exact hl
      refine lv_astore (lv' := [(4, .ref (lay 65)), (3, .ref (lay 64)), (0, .ref (lay 0)), (1, .int a1), (2, .int a2)]) hC.1 hC.2.1 dX11_wouldLose_52 hl (by decide) rfl (fun ls hl => ?_)
      refine lv_aload_n hC.1 hC.2.1 dX11_wouldLose_54 rfl (lv_at hl 2 rfl) ?_
      refine rg_get hC hT G (by decide) r_mo k_X11 i_X11_wouldLose_X11 5 (by decide) (wm 2 rfl) rfl dX11_wouldLose_55 ?_
      refine rg_iM hT G (rg_runV (As := []) (rest := []) hC hT (rG_drop G hT.2.2.2) (c_lw_Jx4a65c_size_8abf5 l D cy lay Γ h _) (cwV 0 hC.2.2.2.2 gX11_wouldLose_Jx4a65c_size_8abf5 rfl rfl rfl hdV_Jx4a65c_size_8abf5 ⟨Nat.le_of_ble_eq_true rfl, Nat.le_of_ble_eq_true rfl⟩) (rg_recv hT (rG_drop G hT.2.2.2) (by decide) r_lw k_AL) rfl hl.1 rfl (Nat.le_of_ble_eq_true rfl) dX11_wouldLose_58 ⟨Nat.le_of_ble_eq_true rfl, Nat.le_of_ble_eq_true rfl⟩) (fun r16 σ15 H locs h G => ?_)
      (try dsimp only at h)
      obtain ⟨len17, hs18a, hs18b, h⟩ := h
      refine rg_newi (Q := fun lay => MQ below (va_Qi post (rO D cy lay Γ) (rA cy lay Γ s.heap.size)) args s 3 48 (rA cy lay Γ s.heap.size)) (ql_i hT.2.2.2) hC hT G (tmO_u (tmO_u tmO_n (Or.inl (Nat.le_of_ble_eq_true rfl))) (Or.inl (Nat.le_of_ble_eq_true rfl))) (k := 66) (by decide) (by decide) rfl (wm 3 rfl) (N := len17) (by rw [hs18a]; exact nI_pos (by omega)) (by rw [hs18a]; exact nI_clamp (by omega)) (by omega) (Nat.le_of_ble_eq_true rfl) (by show _ + len17 ≤ 48; omega) dX11_wouldLose_61 (fun lay hly hT H G => ?_)
      refine W.widen (k := 3) (n := 48) (by decide) (by show _ + len17 ≤ _; omega) ?_
      replace hl : lv_has ls 10 [(4, .ref (lay 65)), (3, .ref (lay 64)), (0, .ref (lay 0)), (1, .int a1), (2, .int a2)] := by rw [hly 65 (by decide), hly 64 (by decide), hly 0 (by decide)]; exact hl
      refine lv_astore (lv' := [(5, .ref (lay 66)), (4, .ref (lay 65)), (3, .ref (lay 64)), (0, .ref (lay 0)), (1, .int a1), (2, .int a2)]) hC.1 hC.2.1 dX11_wouldLose_63 hl (by decide) rfl (fun ls hl => ?_)
      refine lv_iconst (v := 0) hC.1 hC.2.1 dX11_wouldLose_65 (by decide) ?_
      refine lv_istore (lv' := [(6, .int 0), (5, .ref (lay 66)), (4, .ref (lay 65)), (3, .ref (lay 64)), (0, .ref (lay 0)), (1, .int a1), (2, .int a2)]) hC.1 hC.2.1 dX11_wouldLose_66 hl (by decide) rfl (fun ls hl => ?_)
      obtain ⟨n1, h⟩ := h
      exact l_X11_wouldLose_68 a1 a2 hC hr hlocks hT n1 _ _ _ _ _ h _ _ _ G (lv_sub hl [4, 5, 6, 3, 2, 1, 0] rfl)
    · replace h := h.1 c6
      refine lv_aload_n hC.1 hC.2.1 dX11_wouldLose_27 rfl (lv_at hl 0 rfl) ?_
      refine lv_iconst (v := 2) hC.1 hC.2.1 dX11_wouldLose_28 (by decide) ?_
      refine rg_i G (rg_runV (As := [.int 2]) (rest := []) hC hT G (c_X11_refuse l D cy lay Γ h _) (cwV 1 hC.2.2.2.2 gX11_wouldLose_X11_refuse rfl rfl rfl hdV_X11_refuse ⟨Nat.le_of_ble_eq_true rfl, Nat.le_of_ble_eq_true rfl⟩) (rg_recv hT G (by decide) r_mo k_X11) rfl hl.1 rfl (Nat.le_of_ble_eq_true rfl) dX11_wouldLose_29 ⟨Nat.le_of_ble_eq_true rfl, Nat.le_of_ble_eq_true rfl⟩) (fun r58 σ57 H locs h G => ?_)
      (try dsimp only at h)
      refine W.widen (k := 3) (n := 48) (by decide) (by decide) ?_
      exact rg_iret hC hr hlocks G h dX11_wouldLose_32
  · replace h := h.1 c3
    refine lv_aload_n hC.1 hC.2.1 dX11_wouldLose_13 rfl (lv_at hl 0 rfl) ?_
    refine lv_iconst (v := 1) hC.1 hC.2.1 dX11_wouldLose_14 (by decide) ?_
    refine rg_i G (rg_runV (As := [.int 1]) (rest := []) hC hT G (c_X11_refuse l D cy lay Γ h _) (cwV 1 hC.2.2.2.2 gX11_wouldLose_X11_refuse rfl rfl rfl hdV_X11_refuse ⟨Nat.le_of_ble_eq_true rfl, Nat.le_of_ble_eq_true rfl⟩) (rg_recv hT G (by decide) r_mo k_X11) rfl hl.1 rfl (Nat.le_of_ble_eq_true rfl) dX11_wouldLose_15 ⟨Nat.le_of_ble_eq_true rfl, Nat.le_of_ble_eq_true rfl⟩) (fun r60 σ59 H locs h G => ?_)
    (try dsimp only at h)
    refine W.widen (k := 3) (n := 48) (by decide) (by decide) ?_
    exact rg_iret hC hr hlocks G h dX11_wouldLose_18
theorem hdV_X11_wouldLose : yX11_wouldLose.cls = RX11 ∧ yX11_wouldLose.cls ≠ "java/lang/invoke/MethodHandle" ∧ yX11_wouldLose.cls ≠ "java/lang/invoke/VarHandle" ∧ (parseMethodDescriptor yX11_wouldLose.desc).map (fun d => d.parameters.length) = some 2 := by decide +kernel
abbrev rm_X11_playNow : Room := { frames := 6, cells := 4, slots := 64, locals := 133 }
theorem i_X11_playNow_X11 : ∀ w ∈ wsX110, w ∈ wsX11_playNow := fun _ h => List.mem_cons_of_mem _ (List.mem_append_left _ (List.mem_append_left _ (List.mem_append_left _ (List.mem_append_right _ h))))
theorem i_X11_playNow_X10 : ∀ w ∈ wsX100, w ∈ wsX11_playNow := fun _ h => List.mem_cons_of_mem _ (List.mem_append_left _ (List.mem_append_left _ (List.mem_append_right _ h)))
theorem i_X11_playNow_X9 : ∀ w ∈ wsX90, w ∈ wsX11_playNow := fun _ h => List.mem_cons_of_mem _ (List.mem_append_left _ (List.mem_append_right _ h))
def u_X11_playNow_108 (Γ : RG) (post : MS → Prop) (i1 : Nat) : Nat → MS → Int32 → Int32 → Nat → Prop
  | 0, _, _, _, _ => False
  | n + 1, σ, v3, v4, len11 => ((v3 ≤ v4 → post (up2 σ (33 + i1) 7 2)) ∧ (¬ v3 ≤ v4 → (vp_in v4 len11 ∧ (vp_in (σ 64 (Int32.toNatClampNeg v4)) 16 ∧ (vp_in (σ 64 (Int32.toNatClampNeg v4)) 16 ∧ u_X11_playNow_108 Γ post i1 n (up2 σ 10 (Int32.toNatClampNeg (σ 64 (Int32.toNatClampNeg v4))) ((σ 10 (Int32.toNatClampNeg (σ 64 (Int32.toNatClampNeg v4)))) + 1)) v3 (v4 + 1) len11)))))
set_option maxHeartbeats 4000000 in
set_option maxRecDepth 100000 in
theorem l_X11_playNow_108 {p : Program} {l : Launch} {e : Env} {s : State} {m : MethodId} {args : Array Value} {below : List Frame} {meth : Method} {c : Code} {D : va_G} {cy : Nat → ClassId} {lay : Nat → Nat} {Γ : RG} {post : MS → Prop} (i1 : Nat) (hC : CallFix p m c cX11_playNow 6 s args wsX11_playNow RX11) (hr : meth.sig.returnType = none) (hlocks : meth.locks = false) (hT : rT D cy lay Γ s) (hi1 : i1 < 14 ∧ i1 < Γ.2.2.1) : ∀ (n : Nat), ∀ (σ : MS) (v3 : Int32) (v4 : Int32) (len11 : Nat), u_X11_playNow_108 Γ post i1 n σ v3 v4 len11 → ∀ (H : Heap) (locs : List Loc) (ls : Array Slot), rG D cy lay Γ (gU tn 64 (some (0, len11))) σ (rA cy lay Γ s.heap.size) s.heap H locs → lv_has ls 6 [(0, .ref (lay 0)), (1, .ref (lay (33 + i1))), (2, .ref (lay 64)), (3, .int v3), (4, .int v4)] → W p l e rm_X11_playNow s m args below meth c H locs 4 64 (MQ below (va_Qv post (rO D cy lay Γ) (rA cy lay Γ s.heap.size)) args s 4 64 (rA cy lay Γ s.heap.size)) (F0 m 108 ls []) := by
  intro n
  induction n with
  | zero =>
    intro σ v3 v4 len11 h
    exact h.elim
  | succ n ih =>
    intro σ v3 v4 len11 h H locs ls G hl
    rw [u_X11_playNow_108] at h
    refine lv_iload hC.1 hC.2.1 dX11_playNow_108 (lv_at hl 4 rfl) ?_
    refine lv_iload_n hC.1 hC.2.1 dX11_playNow_110 rfl (lv_at hl 3 rfl) ?_
    refine lv_icmp_ge (tgt := 137) hC.1 hC.2.1 dX11_playNow_111 (by decide) (fun c14 => ?_) (fun c14 => ?_)
    · replace h := h.1 c14
      refine lv_aload_n hC.1 hC.2.1 dX11_playNow_137 rfl (lv_at hl 1 rfl) ?_
      refine lv_iconst (v := 2) hC.1 hC.2.1 dX11_playNow_138 (by decide) ?_
      refine rg_putN hC hT G (rk_wd hi1) (r_wd hi1) k_X10 i_X11_playNow_X10 7 (by decide) 17 rfl rfl rfl (by simp) (r_wd hi1) (by rw [up2_eq]; rfl) dX11_playNow_139 (fun H locs G => ?_)
      refine W.widen (k := 4) (n := 64) (by decide) (by decide) ?_
      exact rg_vret hC hr hlocks (rG_drop G hT.2.2.2) h dX11_playNow_142
    · replace h := h.2 c14
      refine lv_aload_n hC.1 hC.2.1 dX11_playNow_114 rfl (lv_at hl 2 rfl) ?_
      refine lv_iload hC.1 hC.2.1 dX11_playNow_115 (lv_at hl 4 rfl) ?_
      obtain ⟨hn15, h⟩ := h
      refine rg_iald hC hT G (by decide) (r_ti (by decide) rfl) hn15 dX11_playNow_117 ?_
      refine lv_istore (lv' := [(5, .int (σ 64 (Int32.toNatClampNeg v4))), (0, .ref (lay 0)), (1, .ref (lay (33 + i1))), (2, .ref (lay 64)), (3, .int v3), (4, .int v4)]) hC.1 hC.2.1 dX11_playNow_118 hl (by decide) rfl (fun ls hl => ?_)
      refine lv_aload_n hC.1 hC.2.1 dX11_playNow_120 rfl (lv_at hl 1 rfl) ?_
      refine rg_get hC hT G (by decide) r_mo k_X11 i_X11_playNow_X11 9 (by decide) (wm 4 rfl) rfl dX11_playNow_121 ?_
      refine lv_iload hC.1 hC.2.1 dX11_playNow_124 (lv_at hl 0 rfl) ?_
      refine lv_dup2_11 hC.1 hC.2.1 dX11_playNow_126 rfl rfl ?_
      obtain ⟨hn16, h⟩ := h
      refine rg_iald hC hT G (by decide) r_py hn16 dX11_playNow_127 ?_
      refine lv_iconst (v := 1) hC.1 hC.2.1 dX11_playNow_128 (by decide) ?_
      refine lv_iadd hC.1 hC.2.1 dX11_playNow_129 ?_
      obtain ⟨hn17, h⟩ := h
      refine rg_iast hC hT G (by decide) (fun _ => r_py) hn17 dX11_playNow_130 (fun H locs G => ?_)
      refine lv_iinc (v := v4 + 1) (lv' := [(4, .int (v4 + 1)), (5, .int (σ 64 (Int32.toNatClampNeg v4))), (0, .ref (lay 0)), (1, .ref (lay (33 + i1))), (2, .ref (lay 64)), (3, .int v3)]) hC.1 hC.2.1 dX11_playNow_131 hl (k := 5) rfl rfl (by decide) rfl (fun ls hl => ?_)
      refine lv_goto (tgt := 108) hC.1 hC.2.1 dX11_playNow_134 (by decide) ?_
      exact ih _ _ _ _ h _ _ _ G (lv_sub hl [2, 3, 4, 5, 0] rfl)
def u_X11_playNow_40 (Γ : RG) (post : MS → Prop) (i1 : Nat) : Nat → MS → Int32 → Prop
  | 0, _, _ => False
  | n + 1, σ, v2 => w_lp_Jx4a65c_size_8abf5 Γ (fun r8 σ7 => ((r8 ≤ v2 → w_X11_bestSet Γ (fun len11 f12 σ10 => (∃ k, u_X11_playNow_108 Γ post i1 k (rw0 (mrg σ10 σ7) 64 f12) (nI len11) 0 len11)) σ7 (σ7 (33 + i1) 8)) ∧ (¬ r8 ≤ v2 → w_X11_isIn Γ (fun r19 σ18 => ((r19 = 0 → u_X11_playNow_40 Γ post i1 n σ18 (v2 + 1)) ∧ (¬ r19 = 0 → w_lp_Jx4a65c_get_915e3 Γ (fun j22 σ21 => ((j22 < 10 ∧ j22 < Γ.1) ∧ w_X11_earnedAt Γ (fun r25 σ24 => u_X11_playNow_40 Γ post i1 n (up2 σ24 (13 + j22) 5 ((σ21 (13 + j22) 5) + r25)) (v2 + 1)) σ21 v2 i1)) σ18 v2))) σ7 (σ7 (33 + i1) 8) v2))) σ
set_option maxHeartbeats 4000000 in
set_option maxRecDepth 100000 in
theorem l_X11_playNow_40 {p : Program} {l : Launch} {e : Env} {s : State} {m : MethodId} {args : Array Value} {below : List Frame} {meth : Method} {c : Code} {D : va_G} {cy : Nat → ClassId} {lay : Nat → Nat} {Γ : RG} {post : MS → Prop} (i1 : Nat) (hC : CallFix p m c cX11_playNow 6 s args wsX11_playNow RX11) (hr : meth.sig.returnType = none) (hlocks : meth.locks = false) (hT : rT D cy lay Γ s) (hi1 : i1 < 14 ∧ i1 < Γ.2.2.1) : ∀ (n : Nat), ∀ (σ : MS) (v2 : Int32), u_X11_playNow_40 Γ post i1 n σ v2 → ∀ (H : Heap) (locs : List Loc) (ls : Array Slot), rG D cy lay Γ tn σ (rA cy lay Γ s.heap.size) s.heap H locs → lv_has ls 6 [(0, .ref (lay 0)), (1, .ref (lay (33 + i1))), (2, .int v2)] → W p l e rm_X11_playNow s m args below meth c H locs 0 0 (MQ below (va_Qv post (rO D cy lay Γ) (rA cy lay Γ s.heap.size)) args s 4 64 (rA cy lay Γ s.heap.size)) (F0 m 40 ls []) := by
  intro n
  induction n with
  | zero =>
    intro σ v2 h
    exact h.elim
  | succ n ih =>
    intro σ v2 h H locs ls G hl
    rw [u_X11_playNow_40] at h
    refine lv_iload_n hC.1 hC.2.1 dX11_playNow_40 rfl (lv_at hl 2 rfl) ?_
    refine lv_aload_n hC.1 hC.2.1 dX11_playNow_41 rfl (lv_at hl 0 rfl) ?_
    refine rg_get hC hT G (by decide) r_mo k_X11 i_X11_playNow_X11 3 (by decide) (wm 2 rfl) rfl dX11_playNow_42 ?_
    refine rg_i G (rg_runV (As := []) (rest := [.int v2]) hC hT G (c_lp_Jx4a65c_size_8abf5 l D cy lay Γ h _) (cwV 0 hC.2.2.2.2 gX11_playNow_Jx4a65c_size_8abf5 rfl rfl rfl hdV_Jx4a65c_size_8abf5 ⟨Nat.le_of_ble_eq_true rfl, Nat.le_of_ble_eq_true rfl⟩) (rg_recv hT G (by decide) r_lp k_AL) rfl hl.1 rfl (Nat.le_of_ble_eq_true rfl) dX11_playNow_45 ⟨Nat.le_of_ble_eq_true rfl, Nat.le_of_ble_eq_true rfl⟩) (fun r8 σ7 H locs h G => ?_)
    (try dsimp only at h)
    refine lv_icmp_ge (tgt := 93) hC.1 hC.2.1 dX11_playNow_48 (by decide) (fun c9 => ?_) (fun c9 => ?_)
    · replace h := h.1 c9
      refine lv_aload_n hC.1 hC.2.1 dX11_playNow_93 rfl (lv_at hl 0 rfl) ?_
      refine lv_aload_n hC.1 hC.2.1 dX11_playNow_94 rfl (lv_at hl 1 rfl) ?_
      refine rg_getN hC hT G (rk_wd hi1) (r_wd hi1) k_X10 i_X11_playNow_X10 8 (by decide) 18 rfl rfl dX11_playNow_95 ?_
      refine rg_aM (Q := fun lay => MQ below (va_Qv post (rO D cy lay Γ) (rA cy lay Γ s.heap.size)) args s 4 64 (rA cy lay Γ s.heap.size)) (ql_v hT.2.2.2) hT G tmO_n (k := 64) (by decide) (by decide) rfl (rg_runV (As := [.int (σ7 (33 + i1) 8)]) (rest := []) hC hT G (c_X11_bestSet l D cy lay Γ h _) (cwV 1 hC.2.2.2.2 gX11_playNow_X11_bestSet rfl rfl rfl hdV_X11_bestSet ⟨Nat.le_of_ble_eq_true rfl, Nat.le_of_ble_eq_true rfl⟩) (rg_recv hT G (by decide) r_mo k_X11) rfl hl.1 rfl (Nat.le_of_ble_eq_true rfl) dX11_playNow_98 ⟨Nat.le_of_ble_eq_true rfl, Nat.le_of_ble_eq_true rfl⟩) (fun len11 f12 σ10 h lay hly hT H locs G => ?_)
      (try dsimp only at h)
      replace hl : lv_has ls 6 [(0, .ref (lay 0)), (1, .ref (lay (33 + i1))), (2, .int v2)] := by rw [hly 0 (by decide), hly (33 + i1) (by have := (hi1).1; omega)]; exact hl
      refine lv_astore_n (lv' := [(2, .ref (lay 64)), (0, .ref (lay 0)), (1, .ref (lay (33 + i1)))]) hC.1 hC.2.1 dX11_playNow_101 rfl hl (by decide) rfl (fun ls hl => ?_)
      refine lv_aload_n hC.1 hC.2.1 dX11_playNow_102 rfl (lv_at hl 0 rfl) ?_
      refine rg_alen hC hT G (by decide) (r_ti (by decide) rfl) dX11_playNow_103 ?_
      refine lv_istore_n (lv' := [(3, .int (nI len11)), (2, .ref (lay 64)), (0, .ref (lay 0)), (1, .ref (lay (33 + i1)))]) hC.1 hC.2.1 dX11_playNow_104 rfl hl (by decide) rfl (fun ls hl => ?_)
      refine lv_iconst (v := 0) hC.1 hC.2.1 dX11_playNow_105 (by decide) ?_
      refine lv_istore (lv' := [(4, .int 0), (3, .int (nI len11)), (2, .ref (lay 64)), (0, .ref (lay 0)), (1, .ref (lay (33 + i1)))]) hC.1 hC.2.1 dX11_playNow_106 hl (by decide) rfl (fun ls hl => ?_)
      obtain ⟨n1, h⟩ := h
      exact l_X11_playNow_108 i1 hC hr hlocks hT hi1 n1 _ _ _ _ h _ _ _ G (lv_sub hl [3, 4, 2, 1, 0] rfl)
    · replace h := h.2 c9
      refine lv_aload_n hC.1 hC.2.1 dX11_playNow_51 rfl (lv_at hl 1 rfl) ?_
      refine rg_getN hC hT G (rk_wd hi1) (r_wd hi1) k_X10 i_X11_playNow_X10 8 (by decide) 18 rfl rfl dX11_playNow_52 ?_
      refine lv_iload_n hC.1 hC.2.1 dX11_playNow_55 rfl (lv_at hl 2 rfl) ?_
      refine rg_i G (rg_runS (As := [.int (σ7 (33 + i1) 8), .int v2]) (rest := []) hC hT G (c_X11_isIn l D cy lay Γ h _) (va_cwS 2 hC.2.2.2.2 gX11_playNow_X11_isIn rfl rfl rfl hdS_X11_isIn ⟨Nat.le_of_ble_eq_true rfl, Nat.le_of_ble_eq_true rfl⟩) rfl hl.1 rfl (Nat.le_of_ble_eq_true rfl) dX11_playNow_56 ⟨Nat.le_of_ble_eq_true rfl, Nat.le_of_ble_eq_true rfl⟩) (fun r19 σ18 H locs h G => ?_)
      (try dsimp only at h)
      refine lv_if_eq (tgt := 87) hC.1 hC.2.1 dX11_playNow_59 (by decide) (fun c20 => ?_) (fun c20 => ?_)
      · replace h := h.1 c20
        refine lv_iinc (v := v2 + 1) (lv' := [(2, .int (v2 + 1)), (0, .ref (lay 0)), (1, .ref (lay (33 + i1)))]) hC.1 hC.2.1 dX11_playNow_87 hl (k := 2) rfl rfl (by decide) rfl (fun ls hl => ?_)
        refine lv_goto (tgt := 40) hC.1 hC.2.1 dX11_playNow_90 (by decide) ?_
        exact ih _ _ h _ _ _ G (lv_sub hl [1, 2, 0] rfl)
      · replace h := h.2 c20
        refine lv_aload_n hC.1 hC.2.1 dX11_playNow_62 rfl (lv_at hl 0 rfl) ?_
        refine rg_get hC hT G (by decide) r_mo k_X11 i_X11_playNow_X11 3 (by decide) (wm 2 rfl) rfl dX11_playNow_63 ?_
        refine lv_iload_n hC.1 hC.2.1 dX11_playNow_66 rfl (lv_at hl 2 rfl) ?_
        refine rg_r (f := fun i => lay (13 + i)) G (rg_runV (As := [.int v2]) (rest := []) hC hT G (c_lp_Jx4a65c_get_915e3 l D cy lay Γ h _) (cwV 1 hC.2.2.2.2 gX11_playNow_Jx4a65c_get_915e3 rfl rfl rfl hdV_Jx4a65c_get_915e3 ⟨Nat.le_of_ble_eq_true rfl, Nat.le_of_ble_eq_true rfl⟩) (rg_recv hT G (by decide) r_lp k_AL) rfl hl.1 rfl (Nat.le_of_ble_eq_true rfl) dX11_playNow_67 ⟨Nat.le_of_ble_eq_true rfl, Nat.le_of_ble_eq_true rfl⟩) (fun j22 σ21 H locs h G => ?_)
        (try dsimp only at h)
        obtain ⟨hj23, h⟩ := h
        refine rg_cast hC hT k_X9 (wm 3 rfl) (rg_recv hT G (rk_pl hj23) (r_pl hj23) k_X9) dX11_playNow_70 ?_
        refine lv_dup hC.1 hC.2.1 dX11_playNow_73 rfl ?_
        refine rg_getN hC hT G (rk_pl hj23) (r_pl hj23) k_X9 i_X11_playNow_X9 5 (by decide) 7 rfl rfl dX11_playNow_74 ?_
        refine lv_aload_n hC.1 hC.2.1 dX11_playNow_77 rfl (lv_at hl 0 rfl) ?_
        refine lv_iload_n hC.1 hC.2.1 dX11_playNow_78 rfl (lv_at hl 2 rfl) ?_
        refine lv_aload_n hC.1 hC.2.1 dX11_playNow_79 rfl (lv_at hl 1 rfl) ?_
        refine rg_i G (rg_runV (As := [.int v2, .ref (lay (33 + i1))]) (rest := [.int (σ21 (13 + j22) 5), .ref (lay (13 + j22))]) hC hT G (c_X11_earnedAt l D cy lay Γ h hi1 _) (cwV 2 hC.2.2.2.2 gX11_playNow_X11_earnedAt rfl rfl rfl hdV_X11_earnedAt ⟨Nat.le_of_ble_eq_true rfl, Nat.le_of_ble_eq_true rfl⟩) (rg_recv hT G (by decide) r_mo k_X11) rfl hl.1 rfl (Nat.le_of_ble_eq_true rfl) dX11_playNow_80 ⟨Nat.le_of_ble_eq_true rfl, Nat.le_of_ble_eq_true rfl⟩) (fun r25 σ24 H locs h G => ?_)
        (try dsimp only at h)
        refine lv_iadd hC.1 hC.2.1 dX11_playNow_83 ?_
        refine rg_putN hC hT G (rk_pl hj23) (r_pl hj23) k_X9 i_X11_playNow_X9 5 (by decide) 7 rfl rfl rfl (by simp) (r_pl hj23) (by rw [up2_eq]; rfl) dX11_playNow_84 (fun H locs G => ?_)
        refine lv_iinc (v := v2 + 1) (lv' := [(2, .int (v2 + 1)), (0, .ref (lay 0)), (1, .ref (lay (33 + i1)))]) hC.1 hC.2.1 dX11_playNow_87 hl (k := 2) rfl rfl (by decide) rfl (fun ls hl => ?_)
        refine lv_goto (tgt := 40) hC.1 hC.2.1 dX11_playNow_90 (by decide) ?_
        exact ih _ _ h _ _ _ G (lv_sub hl [1, 2, 0] rfl)
def w_X11_playNow (Γ : RG) (post : MS → Prop) (σ : MS) (i1 : Nat) : Prop := w_X11_gain Γ (fun r2 σ1 => w_X10_quarters Γ (fun r4 σ3 => w_X11_fees Γ (fun r6 σ5 => (∃ k, u_X11_playNow_40 Γ post i1 k (up2 σ5 (33 + i1) 11 (((up2 σ1 0 2 ((σ 0 2) + r2)) (33 + i1) 9) + ((r4 * r6) / 4))) 0)) σ3 (σ3 (33 + i1) 8)) (up2 σ1 0 2 ((σ 0 2) + r2)) i1) σ i1
set_option maxHeartbeats 4000000 in
set_option maxRecDepth 100000 in
theorem c_X11_playNow (l : Launch) (D : va_G) (cy : Nat → ClassId) (lay : Nat → Nat) (Γ : RG) {σ : MS} {post : MS → Prop} {i1 : Nat} (h : w_X11_playNow Γ post σ i1) (hi1 : i1 < 14 ∧ i1 < Γ.2.2.1) (sz : Nat) : Met l yX11_playNow wsX11_playNow rm_X11_playNow (va_Pc [.ref (lay 0), .ref (lay (33 + i1))] (rI D cy lay Γ σ sz)) (va_Qv post (rO D cy lay Γ) (rA cy lay Γ sz)) 4 64 (rA cy lay Γ sz) := by
  refine rg_ofW (cc := cX11_playNow) (maxL := 6) (ret := none) (own := RX11) (Qc := fun sz => va_Qv post (rO D cy lay Γ) (rA cy lay Γ sz)) (by decide) rfl (Nat.le_of_ble_eq_true rfl) rfl ?_
  intro p e s m args below meth c ls hC hr hlocks hT G hl
  unfold w_X11_playNow at h
  have hl : lv_has ls 6 [(0, .ref (lay 0)), (1, .ref (lay (33 + i1)))] := hl
  refine lv_aload_n hC.1 hC.2.1 dX11_playNow_0 rfl (lv_at hl 0 rfl) ?_
  refine lv_dup hC.1 hC.2.1 dX11_playNow_1 rfl ?_
  refine rg_get hC hT G (by decide) r_mo k_X11 i_X11_playNow_X11 2 (by decide) (wm 1 rfl) rfl dX11_playNow_2 ?_
  refine lv_aload_n hC.1 hC.2.1 dX11_playNow_5 rfl (lv_at hl 0 rfl) ?_
  refine lv_aload_n hC.1 hC.2.1 dX11_playNow_6 rfl (lv_at hl 1 rfl) ?_
  refine rg_i G (rg_runV (As := [.ref (lay (33 + i1))]) (rest := [.int (σ 0 2), .ref (lay 0)]) hC hT G (c_X11_gain l D cy lay Γ h hi1 _) (cwV 1 hC.2.2.2.2 gX11_playNow_X11_gain rfl rfl rfl hdV_X11_gain ⟨Nat.le_of_ble_eq_true rfl, Nat.le_of_ble_eq_true rfl⟩) (rg_recv hT G (by decide) r_mo k_X11) rfl hl.1 rfl (Nat.le_of_ble_eq_true rfl) dX11_playNow_7 ⟨Nat.le_of_ble_eq_true rfl, Nat.le_of_ble_eq_true rfl⟩) (fun r2 σ1 H locs h G => ?_)
  (try dsimp only at h)
  refine lv_iadd hC.1 hC.2.1 dX11_playNow_10 ?_
  refine rg_put hC hT G (by decide) r_mo k_X11 i_X11_playNow_X11 2 (by decide) (wm 1 rfl) rfl rfl (by simp) r_mo (by rw [up2_eq]; rfl) dX11_playNow_11 (fun H locs G => ?_)
  refine lv_aload_n hC.1 hC.2.1 dX11_playNow_14 rfl (lv_at hl 1 rfl) ?_
  refine lv_aload_n hC.1 hC.2.1 dX11_playNow_15 rfl (lv_at hl 1 rfl) ?_
  refine rg_getN hC hT G (rk_wd hi1) (r_wd hi1) k_X10 i_X11_playNow_X10 9 (by decide) 19 rfl rfl dX11_playNow_16 ?_
  refine lv_aload_n hC.1 hC.2.1 dX11_playNow_19 rfl (lv_at hl 1 rfl) ?_
  refine rg_i G (rg_runV (As := []) (rest := [.int ((up2 σ1 0 2 ((σ 0 2) + r2)) (33 + i1) 9), .ref (lay (33 + i1))]) hC hT G (c_X10_quarters l D cy lay Γ h hi1 _) (cwV 0 hC.2.2.2.2 gX11_playNow_X10_quarters rfl rfl rfl hdV_X10_quarters ⟨Nat.le_of_ble_eq_true rfl, Nat.le_of_ble_eq_true rfl⟩) (rg_recv hT G (rk_wd hi1) (r_wd hi1) k_X10) rfl hl.1 rfl (Nat.le_of_ble_eq_true rfl) dX11_playNow_20 ⟨Nat.le_of_ble_eq_true rfl, Nat.le_of_ble_eq_true rfl⟩) (fun r4 σ3 H locs h G => ?_)
  (try dsimp only at h)
  refine lv_aload_n hC.1 hC.2.1 dX11_playNow_23 rfl (lv_at hl 0 rfl) ?_
  refine lv_aload_n hC.1 hC.2.1 dX11_playNow_24 rfl (lv_at hl 1 rfl) ?_
  refine rg_getN hC hT G (rk_wd hi1) (r_wd hi1) k_X10 i_X11_playNow_X10 8 (by decide) 18 rfl rfl dX11_playNow_25 ?_
  refine rg_i G (rg_runV (As := [.int (σ3 (33 + i1) 8)]) (rest := [.int r4, .int ((up2 σ1 0 2 ((σ 0 2) + r2)) (33 + i1) 9), .ref (lay (33 + i1))]) hC hT G (c_X11_fees l D cy lay Γ h _) (cwV 1 hC.2.2.2.2 gX11_playNow_X11_fees rfl rfl rfl hdV_X11_fees ⟨Nat.le_of_ble_eq_true rfl, Nat.le_of_ble_eq_true rfl⟩) (rg_recv hT G (by decide) r_mo k_X11) rfl hl.1 rfl (Nat.le_of_ble_eq_true rfl) dX11_playNow_28 ⟨Nat.le_of_ble_eq_true rfl, Nat.le_of_ble_eq_true rfl⟩) (fun r6 σ5 H locs h G => ?_)
  (try dsimp only at h)
  refine lv_imul hC.1 hC.2.1 dX11_playNow_31 ?_
  refine lv_iconst (v := 4) hC.1 hC.2.1 dX11_playNow_32 (by decide) ?_
  refine lv_idiv hC.1 hC.2.1 dX11_playNow_33 (by decide) ?_
  refine lv_iadd hC.1 hC.2.1 dX11_playNow_34 ?_
  refine rg_putN hC hT G (rk_wd hi1) (r_wd hi1) k_X10 i_X11_playNow_X10 11 (by decide) 21 rfl rfl rfl (by simp) (r_wd hi1) (by rw [up2_eq]; rfl) dX11_playNow_35 (fun H locs G => ?_)
  refine lv_iconst (v := 0) hC.1 hC.2.1 dX11_playNow_38 (by decide) ?_
  refine lv_istore_n (lv' := [(2, .int 0), (0, .ref (lay 0)), (1, .ref (lay (33 + i1)))]) hC.1 hC.2.1 dX11_playNow_39 rfl hl (by decide) rfl (fun ls hl => ?_)
  obtain ⟨n1, h⟩ := h
  exact l_X11_playNow_40 i1 hC hr hlocks hT hi1 n1 _ _ h _ _ _ G (lv_sub hl [1, 2, 0] rfl)
theorem hdV_X11_playNow : yX11_playNow.cls = RX11 ∧ yX11_playNow.cls ≠ "java/lang/invoke/MethodHandle" ∧ yX11_playNow.cls ≠ "java/lang/invoke/VarHandle" ∧ (parseMethodDescriptor yX11_playNow.desc).map (fun d => d.parameters.length) = some 1 := by decide +kernel
abbrev rm_X11_apart : Room := { frames := 4, cells := 11, slots := 176, locals := 88 }
theorem i_X11_apart_X11 : ∀ w ∈ wsX110, w ∈ wsX11_apart := fun _ h => List.mem_cons_of_mem _ (List.mem_append_left _ (List.mem_append_left _ (List.mem_append_right _ h)))
def u_X11_apart_22 (Γ : RG) (post : Int32 → MS → Prop) : Nat → MS → Int32 → Int32 → Int32 → Prop
  | 0, _, _, _, _ => False
  | n + 1, σ, v1, v2, v3 => w_lp_Jx4a65c_size_8abf5 Γ (fun r5 σ4 => ((r5 ≤ v3 → post (v1 - v2) σ4) ∧ (¬ r5 ≤ v3 → w_X11_weddingsOf Γ (fun len8 f9 σ7 => (vp_in 2 len8 ∧ u_X11_apart_22 Γ post n (rw0 (mrg σ7 σ4) 64 f9) (if v1 < ((rw0 (mrg σ7 σ4) 64 f9) 64 (Int32.toNatClampNeg 2)) then ((rw0 (mrg σ7 σ4) 64 f9) 64 (Int32.toNatClampNeg 2)) else v1) (if ((rw0 (mrg σ7 σ4) 64 f9) 64 (Int32.toNatClampNeg 2)) < v2 then ((rw0 (mrg σ7 σ4) 64 f9) 64 (Int32.toNatClampNeg 2)) else v2) (v3 + 1))) σ4 v3))) σ
set_option maxHeartbeats 4000000 in
set_option maxRecDepth 100000 in
theorem l_X11_apart_22 {p : Program} {l : Launch} {e : Env} {s : State} {m : MethodId} {args : Array Value} {below : List Frame} {meth : Method} {c : Code} {D : va_G} {cy : Nat → ClassId} {Γ : RG} {post : Int32 → MS → Prop} (hC : CallFix p m c cX11_apart 5 s args wsX11_apart RX11) (hr : meth.sig.returnType = some .int) (hlocks : meth.locks = false) : ∀ (n : Nat), ∀ (q : Nat) (lay : Nat → Nat), rT D cy lay Γ s → ∀ (σ : MS) (v1 : Int32) (v2 : Int32) (v3 : Int32), q + n * 1 + 0 ≤ 11 → u_X11_apart_22 Γ post n σ v1 v2 v3 → ∀ (H : Heap) (locs : List Loc) (ls : Array Slot), rG D cy lay Γ tn σ (rA cy lay Γ s.heap.size) s.heap H locs → lv_has ls 5 [(0, .ref (lay 0)), (1, .int v1), (2, .int v2), (3, .int v3)] → W p l e rm_X11_apart s m args below meth c H locs q (16 * (q)) (MQ below (va_Qi post (rO D cy lay Γ) (rA cy lay Γ s.heap.size)) args s 11 176 (rA cy lay Γ s.heap.size)) (F0 m 22 ls []) := by
  intro n
  induction n with
  | zero =>
    intro q lay hT σ v1 v2 v3 hq h
    exact h.elim
  | succ n ih =>
    intro q lay hT σ v1 v2 v3 hq h H locs ls G hl
    rw [u_X11_apart_22] at h
    refine lv_iload_n hC.1 hC.2.1 dX11_apart_22 rfl (lv_at hl 3 rfl) ?_
    refine lv_aload_n hC.1 hC.2.1 dX11_apart_23 rfl (lv_at hl 0 rfl) ?_
    refine rg_get hC hT G (by decide) r_mo k_X11 i_X11_apart_X11 3 (by decide) (wm 1 rfl) rfl dX11_apart_24 ?_
    refine rg_i G (rg_runV (As := []) (rest := [.int v3]) hC hT G (c_lp_Jx4a65c_size_8abf5 l D cy lay Γ h _) (cwV 0 hC.2.2.2.2 gX11_apart_Jx4a65c_size_8abf5 rfl rfl rfl hdV_Jx4a65c_size_8abf5 ⟨Nat.le_of_ble_eq_true rfl, Nat.le_of_ble_eq_true rfl⟩) (rg_recv hT G (by decide) r_lp k_AL) rfl hl.1 rfl (Nat.le_of_ble_eq_true rfl) dX11_apart_27 (show q + 0 ≤ 11 ∧ 16 * (q) + 0 ≤ 176 by omega)) (fun r5 σ4 H locs h G => ?_)
    (try dsimp only at h)
    refine lv_icmp_ge (tgt := 62) hC.1 hC.2.1 dX11_apart_30 (by decide) (fun c6 => ?_) (fun c6 => ?_)
    · replace h := h.1 c6
      refine lv_iload_n hC.1 hC.2.1 dX11_apart_62 rfl (lv_at hl 1 rfl) ?_
      refine lv_iload_n hC.1 hC.2.1 dX11_apart_63 rfl (lv_at hl 2 rfl) ?_
      refine lv_isub hC.1 hC.2.1 dX11_apart_64 ?_
      refine W.widen (k := 11) (n := 176) (by omega) (by omega) ?_
      exact rg_iret hC hr hlocks G h dX11_apart_65
    · replace h := h.2 c6
      refine lv_aload_n hC.1 hC.2.1 dX11_apart_33 rfl (lv_at hl 0 rfl) ?_
      refine lv_iload_n hC.1 hC.2.1 dX11_apart_34 rfl (lv_at hl 3 rfl) ?_
      refine rg_aM (Q := fun lay => MQ below (va_Qi post (rO D cy lay Γ) (rA cy lay Γ s.heap.size)) args s 11 176 (rA cy lay Γ s.heap.size)) (ql_i hT.2.2.2) hT G tmO_n (k := 64) (by decide) (by decide) rfl (rg_runV (As := [.int v3]) (rest := []) hC hT G (c_X11_weddingsOf l D cy lay Γ h _) (cwV 1 hC.2.2.2.2 gX11_apart_X11_weddingsOf rfl rfl rfl hdV_X11_weddingsOf ⟨Nat.le_of_ble_eq_true rfl, Nat.le_of_ble_eq_true rfl⟩) (rg_recv hT G (by decide) r_mo k_X11) rfl hl.1 rfl (Nat.le_of_ble_eq_true rfl) dX11_apart_35 (show q + 1 ≤ 11 ∧ 16 * (q) + 16 ≤ 176 by omega)) (fun len8 f9 σ7 h lay hly hT H locs G => ?_)
      (try dsimp only at h)
      replace hl : lv_has ls 5 [(0, .ref (lay 0)), (1, .int v1), (2, .int v2), (3, .int v3)] := by rw [hly 0 (by decide)]; exact hl
      refine lv_iconst (v := 2) hC.1 hC.2.1 dX11_apart_38 (by decide) ?_
      obtain ⟨hn11, h⟩ := h
      refine rg_iald hC hT G (by decide) (r_ti (by decide) rfl) hn11 dX11_apart_39 ?_
      refine lv_istore (lv' := [(4, .int ((rw0 (mrg σ7 σ4) 64 f9) 64 (Int32.toNatClampNeg 2))), (0, .ref (lay 0)), (1, .int v1), (2, .int v2), (3, .int v3)]) hC.1 hC.2.1 dX11_apart_40 hl (by decide) rfl (fun ls hl => ?_)
      refine lv_iload_n hC.1 hC.2.1 dX11_apart_42 rfl (lv_at hl 2 rfl) ?_
      refine lv_iload hC.1 hC.2.1 dX11_apart_43 (lv_at hl 0 rfl) ?_
      refine va_mmax hC.1 hC.2.1 (hC.2.2.1.trans hl.1.symm) hC.2.2.2.1 (hC.2.2.2.2 _ (wm 2 rfl)) (hC.2.2.2.2 _ (wm 3 rfl)) (hC.2.2.2.2 _ (wm 4 rfl)) (hC.2.2.2.2 _ (wm 5 rfl)) (by first | exact Nat.le_of_ble_eq_true rfl | (show _ ≤ 11; omega) | (show _ ≤ 176; omega)) (by first | exact Nat.le_of_ble_eq_true rfl | (show _ ≤ 11; omega) | (show _ ≤ 176; omega)) (by first | exact Nat.le_of_ble_eq_true rfl | (show _ ≤ 11; omega) | (show _ ≤ 176; omega)) (by first | exact Nat.le_of_ble_eq_true rfl | (show _ ≤ 11; omega) | (show _ ≤ 176; omega)) dX11_apart_45 ?_
      refine lv_istore_n (lv' := [(1, .int (if v1 < ((rw0 (mrg σ7 σ4) 64 f9) 64 (Int32.toNatClampNeg 2)) then ((rw0 (mrg σ7 σ4) 64 f9) 64 (Int32.toNatClampNeg 2)) else v1)), (4, .int ((rw0 (mrg σ7 σ4) 64 f9) 64 (Int32.toNatClampNeg 2))), (0, .ref (lay 0)), (2, .int v2), (3, .int v3)]) hC.1 hC.2.1 dX11_apart_48 rfl hl (by decide) rfl (fun ls hl => ?_)
      refine lv_iload_n hC.1 hC.2.1 dX11_apart_49 rfl (lv_at hl 3 rfl) ?_
      refine lv_iload hC.1 hC.2.1 dX11_apart_50 (lv_at hl 1 rfl) ?_
      refine va_mmin hC.1 hC.2.1 (hC.2.2.1.trans hl.1.symm) hC.2.2.2.1 (hC.2.2.2.2 _ (wm 6 rfl)) (hC.2.2.2.2 _ (wm 7 rfl)) (hC.2.2.2.2 _ (wm 4 rfl)) (hC.2.2.2.2 _ (wm 8 rfl)) (by first | exact Nat.le_of_ble_eq_true rfl | (show _ ≤ 11; omega) | (show _ ≤ 176; omega)) (by first | exact Nat.le_of_ble_eq_true rfl | (show _ ≤ 11; omega) | (show _ ≤ 176; omega)) (by first | exact Nat.le_of_ble_eq_true rfl | (show _ ≤ 11; omega) | (show _ ≤ 176; omega)) (by first | exact Nat.le_of_ble_eq_true rfl | (show _ ≤ 11; omega) | (show _ ≤ 176; omega)) dX11_apart_52 ?_
      refine lv_istore_n (lv' := [(2, .int (if ((rw0 (mrg σ7 σ4) 64 f9) 64 (Int32.toNatClampNeg 2)) < v2 then ((rw0 (mrg σ7 σ4) 64 f9) 64 (Int32.toNatClampNeg 2)) else v2)), (1, .int (if v1 < ((rw0 (mrg σ7 σ4) 64 f9) 64 (Int32.toNatClampNeg 2)) then ((rw0 (mrg σ7 σ4) 64 f9) 64 (Int32.toNatClampNeg 2)) else v1)), (4, .int ((rw0 (mrg σ7 σ4) 64 f9) 64 (Int32.toNatClampNeg 2))), (0, .ref (lay 0)), (3, .int v3)]) hC.1 hC.2.1 dX11_apart_55 rfl hl (by decide) rfl (fun ls hl => ?_)
      refine lv_iinc (v := v3 + 1) (lv' := [(3, .int (v3 + 1)), (2, .int (if ((rw0 (mrg σ7 σ4) 64 f9) 64 (Int32.toNatClampNeg 2)) < v2 then ((rw0 (mrg σ7 σ4) 64 f9) 64 (Int32.toNatClampNeg 2)) else v2)), (1, .int (if v1 < ((rw0 (mrg σ7 σ4) 64 f9) 64 (Int32.toNatClampNeg 2)) then ((rw0 (mrg σ7 σ4) 64 f9) 64 (Int32.toNatClampNeg 2)) else v1)), (4, .int ((rw0 (mrg σ7 σ4) 64 f9) 64 (Int32.toNatClampNeg 2))), (0, .ref (lay 0))]) hC.1 hC.2.1 dX11_apart_56 hl (k := 4) rfl rfl (by decide) rfl (fun ls hl => ?_)
      refine lv_goto (tgt := 22) hC.1 hC.2.1 dX11_apart_59 (by decide) ?_
      refine W.widen (k := q + 1) (n := 16 * (q + 1)) (by omega) (by omega) ?_
      exact ih (q + 1) lay hT _ _ _ _ (by omega) h _ _ _ (rG_drop G hT.2.2.2) (lv_sub hl [4, 2, 1, 0] rfl)
def w_X11_apart (Γ : RG) (post : Int32 → MS → Prop) (σ : MS) : Prop := w_lp_Jx4a65c_isEmpty_aae02 Γ (fun r2 σ1 => ((r2 = 0 → (∃ k, k ≤ 11 ∧ u_X11_apart_22 Γ post k σ1 0 9999 0)) ∧ (¬ r2 = 0 → (∃ k, k ≤ 11 ∧ u_X11_apart_22 Γ post k σ1 0 0 0)))) σ
set_option maxHeartbeats 4000000 in
set_option maxRecDepth 100000 in
theorem c_X11_apart (l : Launch) (D : va_G) (cy : Nat → ClassId) (lay : Nat → Nat) (Γ : RG) {σ : MS} {post : Int32 → MS → Prop} (h : w_X11_apart Γ post σ) (sz : Nat) : Met l yX11_apart wsX11_apart rm_X11_apart (va_Pc [.ref (lay 0)] (rI D cy lay Γ σ sz)) (va_Qi post (rO D cy lay Γ) (rA cy lay Γ sz)) 11 176 (rA cy lay Γ sz) := by
  refine rg_ofW (cc := cX11_apart) (maxL := 5) (ret := some .int) (own := RX11) (Qc := fun sz => va_Qi post (rO D cy lay Γ) (rA cy lay Γ sz)) (by decide) rfl (Nat.le_of_ble_eq_true rfl) rfl ?_
  intro p e s m args below meth c ls hC hr hlocks hT G hl
  unfold w_X11_apart at h
  have hl : lv_has ls 5 [(0, .ref (lay 0))] := hl
  refine lv_iconst (v := 0) hC.1 hC.2.1 dX11_apart_0 (by decide) ?_
  refine lv_istore_n (lv' := [(1, .int 0), (0, .ref (lay 0))]) hC.1 hC.2.1 dX11_apart_1 rfl hl (by decide) rfl (fun ls hl => ?_)
  refine lv_aload_n hC.1 hC.2.1 dX11_apart_2 rfl (lv_at hl 1 rfl) ?_
  refine rg_get hC hT G (by decide) r_mo k_X11 i_X11_apart_X11 3 (by decide) (wm 1 rfl) rfl dX11_apart_3 ?_
  refine rg_i G (rg_runV (As := []) (rest := []) hC hT G (c_lp_Jx4a65c_isEmpty_aae02 l D cy lay Γ h _) (cwV 0 hC.2.2.2.2 gX11_apart_Jx4a65c_isEmpty_aae02 rfl rfl rfl hdV_Jx4a65c_isEmpty_aae02 ⟨Nat.le_of_ble_eq_true rfl, Nat.le_of_ble_eq_true rfl⟩) (rg_recv hT G (by decide) r_lp k_AL) rfl hl.1 rfl (Nat.le_of_ble_eq_true rfl) dX11_apart_6 (show 0 + 0 ≤ 11 ∧ 0 + 0 ≤ 176 by omega)) (fun r2 σ1 H locs h G => ?_)
  (try dsimp only at h)
  refine lv_if_eq (tgt := 16) hC.1 hC.2.1 dX11_apart_9 (by decide) (fun c3 => ?_) (fun c3 => ?_)
  · replace h := h.1 c3
    refine lv_sipush (v := 9999) hC.1 hC.2.1 dX11_apart_16 (by decide) ?_
    refine lv_istore_n (lv' := [(2, .int 9999), (1, .int 0), (0, .ref (lay 0))]) hC.1 hC.2.1 dX11_apart_19 rfl hl (by decide) rfl (fun ls hl => ?_)
    refine lv_iconst (v := 0) hC.1 hC.2.1 dX11_apart_20 (by decide) ?_
    refine lv_istore_n (lv' := [(3, .int 0), (2, .int 9999), (1, .int 0), (0, .ref (lay 0))]) hC.1 hC.2.1 dX11_apart_21 rfl hl (by decide) rfl (fun ls hl => ?_)
    refine W.widen (k := 0) (n := 0) (by omega) (by omega) ?_
    obtain ⟨n1, hk1, h⟩ := h
    exact l_X11_apart_22 hC hr hlocks n1 0 lay hT _ _ _ _ (by omega) h _ _ _ G (lv_sub hl [3, 2, 1, 0] rfl)
  · replace h := h.2 c3
    refine lv_iconst (v := 0) hC.1 hC.2.1 dX11_apart_12 (by decide) ?_
    refine lv_goto (tgt := 19) hC.1 hC.2.1 dX11_apart_13 (by decide) ?_
    refine lv_istore_n (lv' := [(2, .int 0), (1, .int 0), (0, .ref (lay 0))]) hC.1 hC.2.1 dX11_apart_19 rfl hl (by decide) rfl (fun ls hl => ?_)
    refine lv_iconst (v := 0) hC.1 hC.2.1 dX11_apart_20 (by decide) ?_
    refine lv_istore_n (lv' := [(3, .int 0), (2, .int 0), (1, .int 0), (0, .ref (lay 0))]) hC.1 hC.2.1 dX11_apart_21 rfl hl (by decide) rfl (fun ls hl => ?_)
    refine W.widen (k := 0) (n := 0) (by omega) (by omega) ?_
    obtain ⟨n1, hk1, h⟩ := h
    exact l_X11_apart_22 hC hr hlocks n1 0 lay hT _ _ _ _ (by omega) h _ _ _ G (lv_sub hl [3, 2, 1, 0] rfl)
theorem hdV_X11_apart : yX11_apart.cls = RX11 ∧ yX11_apart.cls ≠ "java/lang/invoke/MethodHandle" ∧ yX11_apart.cls ≠ "java/lang/invoke/VarHandle" ∧ (parseMethodDescriptor yX11_apart.desc).map (fun d => d.parameters.length) = some 0 := by decide +kernel
