abbrev rm_X7_areSharesSound : Room := { frames := 1, cells := 0, slots := 0, locals := 23 }
theorem i_X7_areSharesSound_X7 : ∀ w ∈ wsX70, w ∈ wsX7_areSharesSound := fun _ h => List.mem_cons_of_mem _ (List.mem_append_left _ (List.mem_append_right _ h))
def u_X7_areSharesSound_4 (post : Int32 → MS → Prop) : Nat → MS → Int32 → Int32 → Prop
  | 0, _, _, _ => False
  | n + 1, σ, v1, v2 => ((16 ≤ v2 → ((1000 < v1 → post 0 σ) ∧ (¬ 1000 < v1 → post 1 σ))) ∧ (¬ 16 ≤ v2 → (vp_in v2 16 ∧ w_X7_shareOf (fun r5 σ4 => u_X7_areSharesSound_4 post n σ4 (v1 + r5) (v2 + 1)) σ (Int32.toNatClampNeg v2))))
set_option maxHeartbeats 4000000 in
set_option maxRecDepth 100000 in
theorem l_X7_areSharesSound_4 {p : Program} {l : Launch} {e : Env} {s : State} {m : MethodId} {args : Array Value} {below : List Frame} {meth : Method} {c : Code} {D : va_G} {cy : Nat → ClassId} {lay : Nat → Nat} {post : Int32 → MS → Prop} (hC : CallFix p m c cX7_areSharesSound 3 s args wsX7_areSharesSound RX7) (hr : meth.sig.returnType = some .boolean) (hlocks : meth.locks = false) (hT : agT D cy lay s) : ∀ (n : Nat), ∀ (σ : MS) (v1 : Int32) (v2 : Int32), u_X7_areSharesSound_4 post n σ v1 v2 → ∀ (H : Heap) (locs : List Loc) (ls : Array Slot), agG D cy lay σ (agA lay s.heap.size) s.heap H locs → lv_has ls 3 [(0, .ref (lay 0)), (1, .int v1), (2, .int v2)] → W p l e rm_X7_areSharesSound s m args below meth c H locs 0 0 (MQ below (va_Qi post (agO D cy lay) (agA lay s.heap.size)) args s 0 0 (agA lay s.heap.size)) (F0 m 4 ls []) := by
  intro n
  induction n with
  | zero =>
    intro σ v1 v2 h
    exact h.elim
  | succ n ih =>
    intro σ v1 v2 h H locs ls G hl
    rw [u_X7_areSharesSound_4] at h
    refine lv_iload_n hC.1 hC.2.1 dX7_areSharesSound_4 rfl (lv_at hl 2 rfl) ?_
    refine lv_bipush (v := 16) hC.1 hC.2.1 dX7_areSharesSound_5 (by decide) ?_
    refine lv_icmp_ge (tgt := 29) hC.1 hC.2.1 dX7_areSharesSound_7 (by decide) (fun c1 => ?_) (fun c1 => ?_)
    · replace h := h.1 c1
      refine lv_iload_n hC.1 hC.2.1 dX7_areSharesSound_29 rfl (lv_at hl 1 rfl) ?_
      refine lv_sipush (v := 1000) hC.1 hC.2.1 dX7_areSharesSound_30 (by decide) ?_
      refine lv_icmp_gt (tgt := 40) hC.1 hC.2.1 dX7_areSharesSound_33 (by decide) (fun c2 => ?_) (fun c2 => ?_)
      · replace h := h.1 c2
        refine lv_iconst (v := 0) hC.1 hC.2.1 dX7_areSharesSound_40 (by decide) ?_
        exact ag_zret hC hr hlocks G rfl h dX7_areSharesSound_41
      · replace h := h.2 c2
        refine lv_iconst (v := 1) hC.1 hC.2.1 dX7_areSharesSound_36 (by decide) ?_
        refine lv_goto (tgt := 41) hC.1 hC.2.1 dX7_areSharesSound_37 (by decide) ?_
        exact ag_zret hC hr hlocks G rfl h dX7_areSharesSound_41
    · replace h := h.2 c1
      refine lv_iload_n hC.1 hC.2.1 dX7_areSharesSound_10 rfl (lv_at hl 1 rfl) ?_
      refine lv_aload_n hC.1 hC.2.1 dX7_areSharesSound_11 rfl (lv_at hl 0 rfl) ?_
      refine lv_aload_n hC.1 hC.2.1 dX7_areSharesSound_12 rfl (lv_at hl 0 rfl) ?_
      refine ag_get hC hT G (by decide) e_ag k_X7 i_X7_areSharesSound_X7 1 (by decide) (wm 1 rfl) rfl dX7_areSharesSound_13 ?_
      refine lv_iload_n hC.1 hC.2.1 dX7_areSharesSound_16 rfl (lv_at hl 2 rfl) ?_
      obtain ⟨hn3, h⟩ := h
      refine ag_aald hC hT G (by decide) _ rfl e_sgs hn3 dX7_areSharesSound_17 ?_
      refine ag_i G (ag_runV (As := [.ref (lay (39 + (Int32.toNatClampNeg v2)))]) (rest := [.int v1]) hC hT G (c_X7_shareOf l D cy lay h (vlt hn3) _) (cwV 1 hC.2.2.2.2 gX7_areSharesSound_X7_shareOf rfl rfl rfl hdV_X7_shareOf ⟨Nat.le_of_ble_eq_true rfl, Nat.le_of_ble_eq_true rfl⟩) (ag_recv hT G (by decide) e_ag k_X7) rfl hl.1 rfl (Nat.le_of_ble_eq_true rfl) dX7_areSharesSound_18 ⟨Nat.le_of_ble_eq_true rfl, Nat.le_of_ble_eq_true rfl⟩) (fun r5 σ4 H locs h G => ?_)
      (try dsimp only at h)
      refine lv_iadd hC.1 hC.2.1 dX7_areSharesSound_21 ?_
      refine lv_istore_n (lv' := [(1, .int (v1 + r5)), (0, .ref (lay 0)), (2, .int v2)]) hC.1 hC.2.1 dX7_areSharesSound_22 rfl hl (by decide) rfl (fun ls hl => ?_)
      refine lv_iinc (v := v2 + 1) (lv' := [(2, .int (v2 + 1)), (1, .int (v1 + r5)), (0, .ref (lay 0))]) hC.1 hC.2.1 dX7_areSharesSound_23 hl (k := 2) rfl rfl (by decide) rfl (fun ls hl => ?_)
      refine lv_goto (tgt := 4) hC.1 hC.2.1 dX7_areSharesSound_26 (by decide) ?_
      exact ih _ _ _ h _ _ _ G (lv_sub hl [2, 1, 0] rfl)
def w_X7_areSharesSound (post : Int32 → MS → Prop) (σ : MS) : Prop := (∃ k, u_X7_areSharesSound_4 post k σ 0 0)
set_option maxHeartbeats 4000000 in
set_option maxRecDepth 100000 in
theorem c_X7_areSharesSound (l : Launch) (D : va_G) (cy : Nat → ClassId) (lay : Nat → Nat) {σ : MS} {post : Int32 → MS → Prop} (h : w_X7_areSharesSound post σ) (sz : Nat) : Met l yX7_areSharesSound wsX7_areSharesSound rm_X7_areSharesSound (va_Pc [.ref (lay 0)] (agI D cy lay σ sz)) (va_Qi post (agO D cy lay) (agA lay sz)) 0 0 (agA lay sz) := by
  refine ag_ofW (cc := cX7_areSharesSound) (maxL := 3) (ret := some .boolean) (own := RX7) (Qc := fun sz => va_Qi post (agO D cy lay) (agA lay sz)) (by decide) rfl (Nat.le_of_ble_eq_true rfl) rfl ?_
  intro p e s m args below meth c ls hC hr hlocks hT G hl
  unfold w_X7_areSharesSound at h
  have hl : lv_has ls 3 [(0, .ref (lay 0))] := hl
  refine lv_iconst (v := 0) hC.1 hC.2.1 dX7_areSharesSound_0 (by decide) ?_
  refine lv_istore_n (lv' := [(1, .int 0), (0, .ref (lay 0))]) hC.1 hC.2.1 dX7_areSharesSound_1 rfl hl (by decide) rfl (fun ls hl => ?_)
  refine lv_iconst (v := 0) hC.1 hC.2.1 dX7_areSharesSound_2 (by decide) ?_
  refine lv_istore_n (lv' := [(2, .int 0), (1, .int 0), (0, .ref (lay 0))]) hC.1 hC.2.1 dX7_areSharesSound_3 rfl hl (by decide) rfl (fun ls hl => ?_)
  obtain ⟨n1, h⟩ := h
  exact l_X7_areSharesSound_4 hC hr hlocks hT n1 _ _ _ h _ _ _ G (lv_sub hl [2, 1, 0] rfl)
theorem hdV_X7_areSharesSound : yX7_areSharesSound.cls = RX7 ∧ yX7_areSharesSound.cls ≠ "java/lang/invoke/MethodHandle" ∧ yX7_areSharesSound.cls ≠ "java/lang/invoke/VarHandle" ∧ (parseMethodDescriptor yX7_areSharesSound.desc).map (fun d => d.parameters.length) = some 0 := by decide +kernel
abbrev rm_X7_isSound : Room := { frames := 3, cells := 0, slots := 0, locals := 65 }
def w_X7_isSound (post : Int32 → MS → Prop) (σ : MS) : Prop := w_X7_areFixedOnesSound (fun r2 σ1 => ((r2 = 0 → post 0 σ1) ∧ (¬ r2 = 0 → w_X7_isCashSound (fun r5 σ4 => ((r5 = 0 → post 0 σ4) ∧ (¬ r5 = 0 → w_X7_areHoursSound (fun r8 σ7 => ((r8 = 0 → post 0 σ7) ∧ (¬ r8 = 0 → w_X7_areSharesSound (fun r11 σ10 => ((r11 = 0 → post 0 σ10) ∧ (¬ r11 = 0 → post 1 σ10))) σ7))) σ4))) σ1))) σ
set_option maxHeartbeats 4000000 in
set_option maxRecDepth 100000 in
theorem c_X7_isSound (l : Launch) (D : va_G) (cy : Nat → ClassId) (lay : Nat → Nat) {σ : MS} {post : Int32 → MS → Prop} (h : w_X7_isSound post σ) (sz : Nat) : Met l yX7_isSound wsX7_isSound rm_X7_isSound (va_Pc [.ref (lay 0)] (agI D cy lay σ sz)) (va_Qi post (agO D cy lay) (agA lay sz)) 0 0 (agA lay sz) := by
  refine ag_ofW (cc := cX7_isSound) (maxL := 1) (ret := some .boolean) (own := RX7) (Qc := fun sz => va_Qi post (agO D cy lay) (agA lay sz)) (by decide) rfl (Nat.le_of_ble_eq_true rfl) rfl ?_
  intro p e s m args below meth c ls hC hr hlocks hT G hl
  unfold w_X7_isSound at h
  have hl : lv_has ls 1 [(0, .ref (lay 0))] := hl
  refine lv_aload_n hC.1 hC.2.1 dX7_isSound_0 rfl (lv_at hl 0 rfl) ?_
  refine ag_i G (ag_runV (As := []) (rest := []) hC hT G (c_X7_areFixedOnesSound l D cy lay h _) (cwV 0 hC.2.2.2.2 gX7_isSound_X7_areFixedOnesSound rfl rfl rfl hdV_X7_areFixedOnesSound ⟨Nat.le_of_ble_eq_true rfl, Nat.le_of_ble_eq_true rfl⟩) (ag_recv hT G (by decide) e_ag k_X7) rfl hl.1 rfl (Nat.le_of_ble_eq_true rfl) dX7_isSound_1 ⟨Nat.le_of_ble_eq_true rfl, Nat.le_of_ble_eq_true rfl⟩) (fun r2 σ1 H locs h G => ?_)
  (try dsimp only at h)
  refine lv_if_eq (tgt := 32) hC.1 hC.2.1 dX7_isSound_4 (by decide) (fun c3 => ?_) (fun c3 => ?_)
  · replace h := h.1 c3
    refine lv_iconst (v := 0) hC.1 hC.2.1 dX7_isSound_32 (by decide) ?_
    exact ag_zret hC hr hlocks G rfl h dX7_isSound_33
  · replace h := h.2 c3
    refine lv_aload_n hC.1 hC.2.1 dX7_isSound_7 rfl (lv_at hl 0 rfl) ?_
    refine ag_i G (ag_runV (As := []) (rest := []) hC hT G (c_X7_isCashSound l D cy lay h _) (cwV 0 hC.2.2.2.2 gX7_isSound_X7_isCashSound rfl rfl rfl hdV_X7_isCashSound ⟨Nat.le_of_ble_eq_true rfl, Nat.le_of_ble_eq_true rfl⟩) (ag_recv hT G (by decide) e_ag k_X7) rfl hl.1 rfl (Nat.le_of_ble_eq_true rfl) dX7_isSound_8 ⟨Nat.le_of_ble_eq_true rfl, Nat.le_of_ble_eq_true rfl⟩) (fun r5 σ4 H locs h G => ?_)
    (try dsimp only at h)
    refine lv_if_eq (tgt := 32) hC.1 hC.2.1 dX7_isSound_11 (by decide) (fun c6 => ?_) (fun c6 => ?_)
    · replace h := h.1 c6
      refine lv_iconst (v := 0) hC.1 hC.2.1 dX7_isSound_32 (by decide) ?_
      exact ag_zret hC hr hlocks G rfl h dX7_isSound_33
    · replace h := h.2 c6
      refine lv_aload_n hC.1 hC.2.1 dX7_isSound_14 rfl (lv_at hl 0 rfl) ?_
      refine ag_i G (ag_runV (As := []) (rest := []) hC hT G (c_X7_areHoursSound l D cy lay h _) (cwV 0 hC.2.2.2.2 gX7_isSound_X7_areHoursSound rfl rfl rfl hdV_X7_areHoursSound ⟨Nat.le_of_ble_eq_true rfl, Nat.le_of_ble_eq_true rfl⟩) (ag_recv hT G (by decide) e_ag k_X7) rfl hl.1 rfl (Nat.le_of_ble_eq_true rfl) dX7_isSound_15 ⟨Nat.le_of_ble_eq_true rfl, Nat.le_of_ble_eq_true rfl⟩) (fun r8 σ7 H locs h G => ?_)
      (try dsimp only at h)
      refine lv_if_eq (tgt := 32) hC.1 hC.2.1 dX7_isSound_18 (by decide) (fun c9 => ?_) (fun c9 => ?_)
      · replace h := h.1 c9
        refine lv_iconst (v := 0) hC.1 hC.2.1 dX7_isSound_32 (by decide) ?_
        exact ag_zret hC hr hlocks G rfl h dX7_isSound_33
      · replace h := h.2 c9
        refine lv_aload_n hC.1 hC.2.1 dX7_isSound_21 rfl (lv_at hl 0 rfl) ?_
        refine ag_i G (ag_runV (As := []) (rest := []) hC hT G (c_X7_areSharesSound l D cy lay h _) (cwV 0 hC.2.2.2.2 gX7_isSound_X7_areSharesSound rfl rfl rfl hdV_X7_areSharesSound ⟨Nat.le_of_ble_eq_true rfl, Nat.le_of_ble_eq_true rfl⟩) (ag_recv hT G (by decide) e_ag k_X7) rfl hl.1 rfl (Nat.le_of_ble_eq_true rfl) dX7_isSound_22 ⟨Nat.le_of_ble_eq_true rfl, Nat.le_of_ble_eq_true rfl⟩) (fun r11 σ10 H locs h G => ?_)
        (try dsimp only at h)
        refine lv_if_eq (tgt := 32) hC.1 hC.2.1 dX7_isSound_25 (by decide) (fun c12 => ?_) (fun c12 => ?_)
        · replace h := h.1 c12
          refine lv_iconst (v := 0) hC.1 hC.2.1 dX7_isSound_32 (by decide) ?_
          exact ag_zret hC hr hlocks G rfl h dX7_isSound_33
        · replace h := h.2 c12
          refine lv_iconst (v := 1) hC.1 hC.2.1 dX7_isSound_28 (by decide) ?_
          refine lv_goto (tgt := 33) hC.1 hC.2.1 dX7_isSound_29 (by decide) ?_
          exact ag_zret hC hr hlocks G rfl h dX7_isSound_33
theorem hdV_X7_isSound : yX7_isSound.cls = RX7 ∧ yX7_isSound.cls ≠ "java/lang/invoke/MethodHandle" ∧ yX7_isSound.cls ≠ "java/lang/invoke/VarHandle" ∧ (parseMethodDescriptor yX7_isSound.desc).map (fun d => d.parameters.length) = some 0 := by decide +kernel
abbrev rm_X7_playOut : Room := { frames := 3, cells := 0, slots := 0, locals := 70 }
theorem i_X7_playOut_X6 : ∀ w ∈ wsX60, w ∈ wsX7_playOut := fun _ h => List.mem_cons_of_mem _ (List.mem_append_left _ (List.mem_append_left _ (List.mem_append_left _ (List.mem_append_left _ (List.mem_append_left _ (List.mem_append_right _ h))))))
theorem i_X7_playOut_X7 : ∀ w ∈ wsX70, w ∈ wsX7_playOut := fun _ h => List.mem_cons_of_mem _ (List.mem_append_left _ (List.mem_append_left _ (List.mem_append_left _ (List.mem_append_left _ (List.mem_append_right _ h)))))
theorem i_X7_playOut_X1 : ∀ w ∈ wsX10, w ∈ wsX7_playOut := fun _ h => List.mem_cons_of_mem _ (List.mem_append_left _ (List.mem_append_left _ (List.mem_append_right _ h)))
theorem i_X7_playOut_X5 : ∀ w ∈ wsX50, w ∈ wsX7_playOut := fun _ h => List.mem_cons_of_mem _ (List.mem_append_left _ (List.mem_append_right _ h))
theorem i_X7_playOut_X3 : ∀ w ∈ wsX30, w ∈ wsX7_playOut := fun _ h => List.mem_cons_of_mem _ (List.mem_append_left _ (List.mem_append_left _ (List.mem_append_left _ (List.mem_append_right _ h))))
def u_X7_playOut_138 (post : MS → Prop) (i1 : Nat) : Nat → MS → Int32 → Prop
  | 0, _, _ => False
  | n + 1, σ, v2 => (((σ 10 1) ≤ v2 → post (up2 σ (73 + i1) 7 2)) ∧ (¬ (σ 10 1) ≤ v2 → (vp_in v2 16 ∧ (vp_in (σ 11 (Int32.toNatClampNeg v2)) 16 ∧ u_X7_playOut_138 post i1 n (up2 σ (39 + (Int32.toNatClampNeg (σ 11 (Int32.toNatClampNeg v2)))) 3 ((σ (39 + (Int32.toNatClampNeg (σ 11 (Int32.toNatClampNeg v2)))) 3) + 1)) (v2 + 1)))))
set_option maxHeartbeats 4000000 in
set_option maxRecDepth 100000 in
theorem l_X7_playOut_138 {p : Program} {l : Launch} {e : Env} {s : State} {m : MethodId} {args : Array Value} {below : List Frame} {meth : Method} {c : Code} {D : va_G} {cy : Nat → ClassId} {lay : Nat → Nat} {post : MS → Prop} (i1 : Nat) (hC : CallFix p m c cX7_playOut 4 s args wsX7_playOut RX7) (hr : meth.sig.returnType = none) (hlocks : meth.locks = false) (hT : agT D cy lay s) (hi1 : i1 < 14) : ∀ (n : Nat), ∀ (σ : MS) (v2 : Int32), u_X7_playOut_138 post i1 n σ v2 → ∀ (H : Heap) (locs : List Loc) (ls : Array Slot), agG D cy lay σ (agA lay s.heap.size) s.heap H locs → lv_has ls 4 [(0, .ref (lay 0)), (1, .ref (lay (73 + i1))), (2, .int v2)] → W p l e rm_X7_playOut s m args below meth c H locs 0 0 (MQ below (va_Qv post (agO D cy lay) (agA lay s.heap.size)) args s 0 0 (agA lay s.heap.size)) (F0 m 138 ls []) := by
  intro n
  induction n with
  | zero =>
    intro σ v2 h
    exact h.elim
  | succ n ih =>
    intro σ v2 h H locs ls G hl
    rw [u_X7_playOut_138] at h
    refine lv_iload_n hC.1 hC.2.1 dX7_playOut_138 rfl (lv_at hl 2 rfl) ?_
    refine lv_aload_n hC.1 hC.2.1 dX7_playOut_139 rfl (lv_at hl 0 rfl) ?_
    refine ag_get hC hT G (by decide) e_ag k_X7 i_X7_playOut_X7 14 (by decide) (wm 11 rfl) rfl dX7_playOut_140 ?_
    refine ag_get hC hT G (by decide) e_bs k_X1 i_X7_playOut_X1 1 (by decide) (wm 13 rfl) rfl dX7_playOut_143 ?_
    refine lv_icmp_ge (tgt := 178) hC.1 hC.2.1 dX7_playOut_146 (by decide) (fun c8 => ?_) (fun c8 => ?_)
    · replace h := h.1 c8
      refine lv_aload_n hC.1 hC.2.1 dX7_playOut_178 rfl (lv_at hl 1 rfl) ?_
      refine lv_iconst (v := 2) hC.1 hC.2.1 dX7_playOut_179 (by decide) ?_
      refine ag_put hC hT G (k_wd hi1) (e_wd hi1) k_X6 i_X7_playOut_X6 7 (by decide) (wm 16 rfl) rfl rfl (by simp) (e_wd hi1) rfl dX7_playOut_180 (fun H locs G => ?_)
      exact ag_vret hC hr hlocks G h dX7_playOut_183
    · replace h := h.2 c8
      refine lv_aload_n hC.1 hC.2.1 dX7_playOut_149 rfl (lv_at hl 0 rfl) ?_
      refine ag_get hC hT G (by decide) e_ag k_X7 i_X7_playOut_X7 1 (by decide) (wm 12 rfl) rfl dX7_playOut_150 ?_
      refine lv_aload_n hC.1 hC.2.1 dX7_playOut_153 rfl (lv_at hl 0 rfl) ?_
      refine ag_get hC hT G (by decide) e_ag k_X7 i_X7_playOut_X7 14 (by decide) (wm 11 rfl) rfl dX7_playOut_154 ?_
      refine ag_get hC hT G (by decide) e_bs k_X1 i_X7_playOut_X1 0 (by decide) (wm 14 rfl) rfl dX7_playOut_157 ?_
      refine lv_iload_n hC.1 hC.2.1 dX7_playOut_160 rfl (lv_at hl 2 rfl) ?_
      obtain ⟨hn9, h⟩ := h
      refine ag_iald hC hT G (by decide) e_row hn9 dX7_playOut_161 ?_
      obtain ⟨hn10, h⟩ := h
      refine ag_aald hC hT G (by decide) _ rfl e_sgs hn10 dX7_playOut_162 ?_
      refine lv_dup hC.1 hC.2.1 dX7_playOut_163 rfl ?_
      refine ag_get hC hT G (k_sg (vlt hn10)) (e_sg (vlt hn10)) k_X5 i_X7_playOut_X5 3 (by decide) (wm 15 rfl) rfl dX7_playOut_164 ?_
      refine lv_iconst (v := 1) hC.1 hC.2.1 dX7_playOut_167 (by decide) ?_
      refine lv_iadd hC.1 hC.2.1 dX7_playOut_168 ?_
      refine ag_put hC hT G (k_sg (vlt hn10)) (e_sg (vlt hn10)) k_X5 i_X7_playOut_X5 3 (by decide) (wm 15 rfl) rfl rfl (by simp) (e_sg (vlt hn10)) rfl dX7_playOut_169 (fun H locs G => ?_)
      refine lv_iinc (v := v2 + 1) (lv' := [(2, .int (v2 + 1)), (0, .ref (lay 0)), (1, .ref (lay (73 + i1)))]) hC.1 hC.2.1 dX7_playOut_172 hl (k := 2) rfl rfl (by decide) rfl (fun ls hl => ?_)
      refine lv_goto (tgt := 138) hC.1 hC.2.1 dX7_playOut_175 (by decide) ?_
      exact ih _ _ h _ _ _ G (lv_sub hl [1, 2, 0] rfl)
def u_X7_playOut_22 (post : MS → Prop) (i1 : Nat) : Nat → MS → Int32 → Prop
  | 0, _, _ => False
  | n + 1, σ, v2 => (((σ 0 6) ≤ v2 → w_X7_playableFor (fun r6 σ5 => w_X1_choose (fun σ7 => (∃ k, u_X7_playOut_138 post i1 k σ7 0)) σ5 r6) σ (σ (73 + i1) 8)) ∧ (¬ (σ 0 6) ≤ v2 → w_X7_has (fun r12 σ11 => ((r12 = 0 → u_X7_playOut_22 post i1 n σ11 (v2 + 1)) ∧ (¬ r12 = 0 → (vp_in v2 10 ∧ w_X7_wageAt (fun r16 σ15 => (vp_in v2 10 ∧ (vp_in v2 10 ∧ (∀ y19 : Int32, y19 = (up2 (up2 σ15 0 10 ((σ15 0 10) - r16)) (29 + (Int32.toNatClampNeg v2)) 5 (((up2 σ15 0 10 ((σ15 0 10) - r16)) (29 + (Int32.toNatClampNeg v2)) 5) + r16)) (29 + (Int32.toNatClampNeg v2)) 6 → (vp_in v2 10 ∧ (∀ y21 : Int32, y21 = (up2 (up2 (up2 σ15 0 10 ((σ15 0 10) - r16)) (29 + (Int32.toNatClampNeg v2)) 5 (((up2 σ15 0 10 ((σ15 0 10) - r16)) (29 + (Int32.toNatClampNeg v2)) 5) + r16)) (29 + (Int32.toNatClampNeg v2)) 6 (y19 + 1)) (29 + (Int32.toNatClampNeg v2)) 7 → (∀ y22 : Int32, y22 = (up2 (up2 (up2 σ15 0 10 ((σ15 0 10) - r16)) (29 + (Int32.toNatClampNeg v2)) 5 (((up2 σ15 0 10 ((σ15 0 10) - r16)) (29 + (Int32.toNatClampNeg v2)) 5) + r16)) (29 + (Int32.toNatClampNeg v2)) 6 (y19 + 1)) (73 + i1) 4 → u_X7_playOut_22 post i1 n (up2 (up2 (up2 (up2 σ15 0 10 ((σ15 0 10) - r16)) (29 + (Int32.toNatClampNeg v2)) 5 (((up2 σ15 0 10 ((σ15 0 10) - r16)) (29 + (Int32.toNatClampNeg v2)) 5) + r16)) (29 + (Int32.toNatClampNeg v2)) 6 (y19 + 1)) (29 + (Int32.toNatClampNeg v2)) 7 (y21 + y22)) (v2 + 1)))))))) σ11 (Int32.toNatClampNeg v2) i1)))) σ (σ (73 + i1) 8) v2))
set_option maxHeartbeats 4000000 in
set_option maxRecDepth 100000 in
theorem l_X7_playOut_22 {p : Program} {l : Launch} {e : Env} {s : State} {m : MethodId} {args : Array Value} {below : List Frame} {meth : Method} {c : Code} {D : va_G} {cy : Nat → ClassId} {lay : Nat → Nat} {post : MS → Prop} (i1 : Nat) (hC : CallFix p m c cX7_playOut 4 s args wsX7_playOut RX7) (hr : meth.sig.returnType = none) (hlocks : meth.locks = false) (hT : agT D cy lay s) (hi1 : i1 < 14) : ∀ (n : Nat), ∀ (σ : MS) (v2 : Int32), u_X7_playOut_22 post i1 n σ v2 → ∀ (H : Heap) (locs : List Loc) (ls : Array Slot), agG D cy lay σ (agA lay s.heap.size) s.heap H locs → lv_has ls 4 [(0, .ref (lay 0)), (1, .ref (lay (73 + i1))), (2, .int v2)] → W p l e rm_X7_playOut s m args below meth c H locs 0 0 (MQ below (va_Qv post (agO D cy lay) (agA lay s.heap.size)) args s 0 0 (agA lay s.heap.size)) (F0 m 22 ls []) := by
  intro n
  induction n with
  | zero =>
    intro σ v2 h
    exact h.elim
  | succ n ih =>
    intro σ v2 h H locs ls G hl
    rw [u_X7_playOut_22] at h
    refine lv_iload_n hC.1 hC.2.1 dX7_playOut_22 rfl (lv_at hl 2 rfl) ?_
    refine lv_aload_n hC.1 hC.2.1 dX7_playOut_23 rfl (lv_at hl 0 rfl) ?_
    refine ag_get hC hT G (by decide) e_ag k_X7 i_X7_playOut_X7 6 (by decide) (wm 3 rfl) rfl dX7_playOut_24 ?_
    refine lv_icmp_ge (tgt := 117) hC.1 hC.2.1 dX7_playOut_27 (by decide) (fun c4 => ?_) (fun c4 => ?_)
    · replace h := h.1 c4
      refine lv_aload_n hC.1 hC.2.1 dX7_playOut_117 rfl (lv_at hl 0 rfl) ?_
      refine ag_get hC hT G (by decide) e_ag k_X7 i_X7_playOut_X7 14 (by decide) (wm 11 rfl) rfl dX7_playOut_118 ?_
      refine lv_aload_n hC.1 hC.2.1 dX7_playOut_121 rfl (lv_at hl 0 rfl) ?_
      refine ag_get hC hT G (by decide) e_ag k_X7 i_X7_playOut_X7 1 (by decide) (wm 12 rfl) rfl dX7_playOut_122 ?_
      refine lv_aload_n hC.1 hC.2.1 dX7_playOut_125 rfl (lv_at hl 0 rfl) ?_
      refine lv_aload_n hC.1 hC.2.1 dX7_playOut_126 rfl (lv_at hl 1 rfl) ?_
      refine ag_get hC hT G (k_wd hi1) (e_wd hi1) k_X6 i_X7_playOut_X6 8 (by decide) (wm 4 rfl) rfl dX7_playOut_127 ?_
      refine ag_i G (ag_runV (As := [.int (σ (73 + i1) 8)]) (rest := [.ref (lay 2), .ref (lay 10)]) hC hT G (c_X7_playableFor l D cy lay h _) (cwV 1 hC.2.2.2.2 gX7_playOut_X7_playableFor rfl rfl rfl hdV_X7_playableFor ⟨Nat.le_of_ble_eq_true rfl, Nat.le_of_ble_eq_true rfl⟩) (ag_recv hT G (by decide) e_ag k_X7) rfl hl.1 rfl (Nat.le_of_ble_eq_true rfl) dX7_playOut_130 ⟨Nat.le_of_ble_eq_true rfl, Nat.le_of_ble_eq_true rfl⟩) (fun r6 σ5 H locs h G => ?_)
      (try dsimp only at h)
      refine ag_v G (ag_runV (As := [.ref (lay 2), .int r6]) (rest := []) hC hT G (c_X1_choose l D cy lay h _) (cwV 2 hC.2.2.2.2 gX7_playOut_X1_choose rfl rfl rfl hdV_X1_choose ⟨Nat.le_of_ble_eq_true rfl, Nat.le_of_ble_eq_true rfl⟩) (ag_recv hT G (by decide) e_bs k_X1) rfl hl.1 rfl (Nat.le_of_ble_eq_true rfl) dX7_playOut_133 ⟨Nat.le_of_ble_eq_true rfl, Nat.le_of_ble_eq_true rfl⟩) (fun σ7 H locs h G => ?_)
      (try dsimp only at h)
      refine lv_iconst (v := 0) hC.1 hC.2.1 dX7_playOut_136 (by decide) ?_
      refine lv_istore_n (lv' := [(2, .int 0), (0, .ref (lay 0)), (1, .ref (lay (73 + i1)))]) hC.1 hC.2.1 dX7_playOut_137 rfl hl (by decide) rfl (fun ls hl => ?_)
      obtain ⟨n1, h⟩ := h
      exact l_X7_playOut_138 i1 hC hr hlocks hT hi1 n1 _ _ h _ _ _ G (lv_sub hl [1, 2, 0] rfl)
    · replace h := h.2 c4
      refine lv_aload_n hC.1 hC.2.1 dX7_playOut_30 rfl (lv_at hl 1 rfl) ?_
      refine ag_get hC hT G (k_wd hi1) (e_wd hi1) k_X6 i_X7_playOut_X6 8 (by decide) (wm 4 rfl) rfl dX7_playOut_31 ?_
      refine lv_iload_n hC.1 hC.2.1 dX7_playOut_34 rfl (lv_at hl 2 rfl) ?_
      refine ag_i G (ag_runS (As := [.int (σ (73 + i1) 8), .int v2]) (rest := []) hC hT G (c_X7_has l D cy lay h _) (va_cwS 2 hC.2.2.2.2 gX7_playOut_X7_has rfl rfl rfl hdS_X7_has ⟨Nat.le_of_ble_eq_true rfl, Nat.le_of_ble_eq_true rfl⟩) rfl hl.1 rfl (Nat.le_of_ble_eq_true rfl) dX7_playOut_35 ⟨Nat.le_of_ble_eq_true rfl, Nat.le_of_ble_eq_true rfl⟩) (fun r12 σ11 H locs h G => ?_)
      (try dsimp only at h)
      refine lv_if_eq (tgt := 111) hC.1 hC.2.1 dX7_playOut_38 (by decide) (fun c13 => ?_) (fun c13 => ?_)
      · replace h := h.1 c13
        refine lv_iinc (v := v2 + 1) (lv' := [(2, .int (v2 + 1)), (0, .ref (lay 0)), (1, .ref (lay (73 + i1)))]) hC.1 hC.2.1 dX7_playOut_111 hl (k := 2) rfl rfl (by decide) rfl (fun ls hl => ?_)
        refine lv_goto (tgt := 22) hC.1 hC.2.1 dX7_playOut_114 (by decide) ?_
        exact ih _ _ h _ _ _ G (lv_sub hl [1, 2, 0] rfl)
      · replace h := h.2 c13
        refine lv_aload_n hC.1 hC.2.1 dX7_playOut_41 rfl (lv_at hl 0 rfl) ?_
        refine lv_aload_n hC.1 hC.2.1 dX7_playOut_42 rfl (lv_at hl 0 rfl) ?_
        refine ag_get hC hT G (by decide) e_ag k_X7 i_X7_playOut_X7 0 (by decide) (wm 5 rfl) rfl dX7_playOut_43 ?_
        refine lv_iload_n hC.1 hC.2.1 dX7_playOut_46 rfl (lv_at hl 2 rfl) ?_
        obtain ⟨hn14, h⟩ := h
        refine ag_aald hC hT G (by decide) _ rfl e_pls hn14 dX7_playOut_47 ?_
        refine lv_aload_n hC.1 hC.2.1 dX7_playOut_48 rfl (lv_at hl 1 rfl) ?_
        refine ag_i G (ag_runV (As := [.ref (lay (29 + (Int32.toNatClampNeg v2))), .ref (lay (73 + i1))]) (rest := []) hC hT G (c_X7_wageAt l D cy lay h (vlt hn14) hi1 _) (cwV 2 hC.2.2.2.2 gX7_playOut_X7_wageAt rfl rfl rfl hdV_X7_wageAt ⟨Nat.le_of_ble_eq_true rfl, Nat.le_of_ble_eq_true rfl⟩) (ag_recv hT G (by decide) e_ag k_X7) rfl hl.1 rfl (Nat.le_of_ble_eq_true rfl) dX7_playOut_49 ⟨Nat.le_of_ble_eq_true rfl, Nat.le_of_ble_eq_true rfl⟩) (fun r16 σ15 H locs h G => ?_)
        (try dsimp only at h)
        refine lv_istore_n (lv' := [(3, .int r16), (0, .ref (lay 0)), (1, .ref (lay (73 + i1))), (2, .int v2)]) hC.1 hC.2.1 dX7_playOut_52 rfl hl (by decide) rfl (fun ls hl => ?_)
        refine lv_aload_n hC.1 hC.2.1 dX7_playOut_53 rfl (lv_at hl 1 rfl) ?_
        refine lv_dup hC.1 hC.2.1 dX7_playOut_54 rfl ?_
        refine ag_get hC hT G (by decide) e_ag k_X7 i_X7_playOut_X7 10 (by decide) (wm 6 rfl) rfl dX7_playOut_55 ?_
        refine lv_iload_n hC.1 hC.2.1 dX7_playOut_58 rfl (lv_at hl 0 rfl) ?_
        refine lv_isub hC.1 hC.2.1 dX7_playOut_59 ?_
        refine ag_put hC hT G (by decide) e_ag k_X7 i_X7_playOut_X7 10 (by decide) (wm 6 rfl) rfl rfl (by simp) e_ag rfl dX7_playOut_60 (fun H locs G => ?_)
        refine lv_aload_n hC.1 hC.2.1 dX7_playOut_63 rfl (lv_at hl 1 rfl) ?_
        refine ag_get hC hT G (by decide) e_ag k_X7 i_X7_playOut_X7 0 (by decide) (wm 5 rfl) rfl dX7_playOut_64 ?_
        refine lv_iload_n hC.1 hC.2.1 dX7_playOut_67 rfl (lv_at hl 3 rfl) ?_
        obtain ⟨hn17, h⟩ := h
        refine ag_aald hC hT G (by decide) _ rfl e_pls hn17 dX7_playOut_68 ?_
        refine lv_dup hC.1 hC.2.1 dX7_playOut_69 rfl ?_
        refine ag_get hC hT G (k_pl (vlt hn17)) (e_pl (vlt hn17)) k_X3 i_X7_playOut_X3 5 (by decide) (wm 7 rfl) rfl dX7_playOut_70 ?_
        refine lv_iload_n hC.1 hC.2.1 dX7_playOut_73 rfl (lv_at hl 0 rfl) ?_
        refine lv_iadd hC.1 hC.2.1 dX7_playOut_74 ?_
        refine ag_put hC hT G (k_pl (vlt hn17)) (e_pl (vlt hn17)) k_X3 i_X7_playOut_X3 5 (by decide) (wm 7 rfl) rfl rfl (by simp) (e_pl (vlt hn17)) rfl dX7_playOut_75 (fun H locs G => ?_)
        refine lv_aload_n hC.1 hC.2.1 dX7_playOut_78 rfl (lv_at hl 1 rfl) ?_
        refine ag_get hC hT G (by decide) e_ag k_X7 i_X7_playOut_X7 0 (by decide) (wm 5 rfl) rfl dX7_playOut_79 ?_
        refine lv_iload_n hC.1 hC.2.1 dX7_playOut_82 rfl (lv_at hl 3 rfl) ?_
        obtain ⟨hn18, h⟩ := h
        refine ag_aald hC hT G (by decide) _ rfl e_pls hn18 dX7_playOut_83 ?_
        refine lv_dup hC.1 hC.2.1 dX7_playOut_84 rfl ?_
        refine ag_get hC hT G (k_pl (vlt hn18)) (e_pl (vlt hn18)) k_X3 i_X7_playOut_X3 6 (by decide) (wm 8 rfl) rfl dX7_playOut_85 ?_
        refine lv_topi (fun y19 ey19 => ?_)
        replace h := h y19 ey19
        refine lv_iconst (v := 1) hC.1 hC.2.1 dX7_playOut_88 (by decide) ?_
        refine lv_iadd hC.1 hC.2.1 dX7_playOut_89 ?_
        refine ag_put hC hT G (k_pl (vlt hn18)) (e_pl (vlt hn18)) k_X3 i_X7_playOut_X3 6 (by decide) (wm 8 rfl) rfl rfl (by simp) (e_pl (vlt hn18)) rfl dX7_playOut_90 (fun H locs G => ?_)
        refine lv_aload_n hC.1 hC.2.1 dX7_playOut_93 rfl (lv_at hl 1 rfl) ?_
        refine ag_get hC hT G (by decide) e_ag k_X7 i_X7_playOut_X7 0 (by decide) (wm 5 rfl) rfl dX7_playOut_94 ?_
        refine lv_iload_n hC.1 hC.2.1 dX7_playOut_97 rfl (lv_at hl 3 rfl) ?_
        obtain ⟨hn20, h⟩ := h
        refine ag_aald hC hT G (by decide) _ rfl e_pls hn20 dX7_playOut_98 ?_
        refine lv_dup hC.1 hC.2.1 dX7_playOut_99 rfl ?_
        refine ag_get hC hT G (k_pl (vlt hn20)) (e_pl (vlt hn20)) k_X3 i_X7_playOut_X3 7 (by decide) (wm 9 rfl) rfl dX7_playOut_100 ?_
        refine lv_topi (fun y21 ey21 => ?_)
        replace h := h y21 ey21
        refine lv_aload_n hC.1 hC.2.1 dX7_playOut_103 rfl (lv_at hl 2 rfl) ?_
        refine ag_get hC hT G (k_wd hi1) (e_wd hi1) k_X6 i_X7_playOut_X6 4 (by decide) (wm 10 rfl) rfl dX7_playOut_104 ?_
        refine lv_topi (fun y22 ey22 => ?_)
        replace h := h y22 ey22
        refine lv_iadd hC.1 hC.2.1 dX7_playOut_107 ?_
        refine ag_put hC hT G (k_pl (vlt hn20)) (e_pl (vlt hn20)) k_X3 i_X7_playOut_X3 7 (by decide) (wm 9 rfl) rfl rfl (by simp) (e_pl (vlt hn20)) rfl dX7_playOut_108 (fun H locs G => ?_)
        refine lv_iinc (v := v2 + 1) (lv' := [(2, .int (v2 + 1)), (3, .int r16), (0, .ref (lay 0)), (1, .ref (lay (73 + i1)))]) hC.1 hC.2.1 dX7_playOut_111 hl (k := 3) rfl rfl (by decide) rfl (fun ls hl => ?_)
        refine lv_goto (tgt := 22) hC.1 hC.2.1 dX7_playOut_114 (by decide) ?_
        exact ih _ _ h _ _ _ G (lv_sub hl [2, 3, 0] rfl)
def w_X7_playOut (post : MS → Prop) (σ : MS) (i1 : Nat) : Prop := w_X7_extraOf (fun r2 σ1 => w_X7_getPaid (fun σ3 => (∃ k, u_X7_playOut_22 post i1 k σ3 0)) σ1 i1 (((σ (73 + i1) 9) - (σ (73 + i1) 11)) + r2)) σ i1
set_option maxHeartbeats 4000000 in
set_option maxRecDepth 100000 in
theorem c_X7_playOut (l : Launch) (D : va_G) (cy : Nat → ClassId) (lay : Nat → Nat) {σ : MS} {post : MS → Prop} {i1 : Nat} (h : w_X7_playOut post σ i1) (hi1 : i1 < 14) (sz : Nat) : Met l yX7_playOut wsX7_playOut rm_X7_playOut (va_Pc [.ref (lay 0), .ref (lay (73 + i1))] (agI D cy lay σ sz)) (va_Qv post (agO D cy lay) (agA lay sz)) 0 0 (agA lay sz) := by
  refine ag_ofW (cc := cX7_playOut) (maxL := 4) (ret := none) (own := RX7) (Qc := fun sz => va_Qv post (agO D cy lay) (agA lay sz)) (by decide) rfl (Nat.le_of_ble_eq_true rfl) rfl ?_
  intro p e s m args below meth c ls hC hr hlocks hT G hl
  unfold w_X7_playOut at h
  have hl : lv_has ls 4 [(0, .ref (lay 0)), (1, .ref (lay (73 + i1)))] := hl
  refine lv_aload_n hC.1 hC.2.1 dX7_playOut_0 rfl (lv_at hl 0 rfl) ?_
  refine lv_aload_n hC.1 hC.2.1 dX7_playOut_1 rfl (lv_at hl 1 rfl) ?_
  refine lv_aload_n hC.1 hC.2.1 dX7_playOut_2 rfl (lv_at hl 1 rfl) ?_
  refine ag_get hC hT G (k_wd hi1) (e_wd hi1) k_X6 i_X7_playOut_X6 9 (by decide) (wm 1 rfl) rfl dX7_playOut_3 ?_
  refine lv_aload_n hC.1 hC.2.1 dX7_playOut_6 rfl (lv_at hl 1 rfl) ?_
  refine ag_get hC hT G (k_wd hi1) (e_wd hi1) k_X6 i_X7_playOut_X6 11 (by decide) (wm 2 rfl) rfl dX7_playOut_7 ?_
  refine lv_isub hC.1 hC.2.1 dX7_playOut_10 ?_
  refine lv_aload_n hC.1 hC.2.1 dX7_playOut_11 rfl (lv_at hl 0 rfl) ?_
  refine lv_aload_n hC.1 hC.2.1 dX7_playOut_12 rfl (lv_at hl 1 rfl) ?_
  refine ag_i G (ag_runV (As := [.ref (lay (73 + i1))]) (rest := [.int ((σ (73 + i1) 9) - (σ (73 + i1) 11)), .ref (lay (73 + i1)), .ref (lay 0)]) hC hT G (c_X7_extraOf l D cy lay h hi1 _) (cwV 1 hC.2.2.2.2 gX7_playOut_X7_extraOf rfl rfl rfl hdV_X7_extraOf ⟨Nat.le_of_ble_eq_true rfl, Nat.le_of_ble_eq_true rfl⟩) (ag_recv hT G (by decide) e_ag k_X7) rfl hl.1 rfl (Nat.le_of_ble_eq_true rfl) dX7_playOut_13 ⟨Nat.le_of_ble_eq_true rfl, Nat.le_of_ble_eq_true rfl⟩) (fun r2 σ1 H locs h G => ?_)
  (try dsimp only at h)
  refine lv_iadd hC.1 hC.2.1 dX7_playOut_16 ?_
  refine ag_v G (ag_runV (As := [.ref (lay (73 + i1)), .int (((σ (73 + i1) 9) - (σ (73 + i1) 11)) + r2)]) (rest := []) hC hT G (c_X7_getPaid l D cy lay h hi1 _) (cwV 2 hC.2.2.2.2 gX7_playOut_X7_getPaid rfl rfl rfl hdV_X7_getPaid ⟨Nat.le_of_ble_eq_true rfl, Nat.le_of_ble_eq_true rfl⟩) (ag_recv hT G (by decide) e_ag k_X7) rfl hl.1 rfl (Nat.le_of_ble_eq_true rfl) dX7_playOut_17 ⟨Nat.le_of_ble_eq_true rfl, Nat.le_of_ble_eq_true rfl⟩) (fun σ3 H locs h G => ?_)
  (try dsimp only at h)
  refine lv_iconst (v := 0) hC.1 hC.2.1 dX7_playOut_20 (by decide) ?_
  refine lv_istore_n (lv' := [(2, .int 0), (0, .ref (lay 0)), (1, .ref (lay (73 + i1)))]) hC.1 hC.2.1 dX7_playOut_21 rfl hl (by decide) rfl (fun ls hl => ?_)
  obtain ⟨n1, h⟩ := h
  exact l_X7_playOut_22 i1 hC hr hlocks hT hi1 n1 _ _ h _ _ _ G (lv_sub hl [1, 2, 0] rfl)
theorem hdV_X7_playOut : yX7_playOut.cls = RX7 ∧ yX7_playOut.cls ≠ "java/lang/invoke/MethodHandle" ∧ yX7_playOut.cls ≠ "java/lang/invoke/VarHandle" ∧ (parseMethodDescriptor yX7_playOut.desc).map (fun d => d.parameters.length) = some 1 := by decide +kernel
abbrev rm_X7_endToday : Room := { frames := 4, cells := 0, slots := 0, locals := 93 }
theorem i_X7_endToday_X7 : ∀ w ∈ wsX70, w ∈ wsX7_endToday := fun _ h => List.mem_cons_of_mem _ (List.mem_append_left _ (List.mem_append_left _ (List.mem_append_left _ (List.mem_append_left _ (List.mem_append_left _ (List.mem_append_right _ h))))))
theorem i_X7_endToday_X6 : ∀ w ∈ wsX60, w ∈ wsX7_endToday := fun _ h => List.mem_cons_of_mem _ (List.mem_append_left _ (List.mem_append_left _ (List.mem_append_left _ (List.mem_append_left _ (List.mem_append_right _ h)))))
def u_X7_endToday_57 (post : MS → Prop) : Nat → MS → Int32 → Prop
  | 0, _, _ => False
  | n + 1, σ, v1 => (((σ 0 8) ≤ v1 → post σ) ∧ (¬ (σ 0 8) ≤ v1 → (vp_in v1 14 ∧ (((σ (73 + (Int32.toNatClampNeg v1)) 1) = (σ 0 9) → (vp_in v1 14 ∧ (((σ (73 + (Int32.toNatClampNeg v1)) 7) = 0 → (vp_in v1 14 ∧ u_X7_endToday_57 post n (up2 σ (73 + (Int32.toNatClampNeg v1)) 7 3) (v1 + 1))) ∧ (¬ (σ (73 + (Int32.toNatClampNeg v1)) 7) = 0 → u_X7_endToday_57 post n σ (v1 + 1))))) ∧ (¬ (σ (73 + (Int32.toNatClampNeg v1)) 1) = (σ 0 9) → u_X7_endToday_57 post n σ (v1 + 1))))))
set_option maxHeartbeats 4000000 in
set_option maxRecDepth 100000 in
theorem l_X7_endToday_57 {p : Program} {l : Launch} {e : Env} {s : State} {m : MethodId} {args : Array Value} {below : List Frame} {meth : Method} {c : Code} {D : va_G} {cy : Nat → ClassId} {lay : Nat → Nat} {post : MS → Prop} (hC : CallFix p m c cX7_endToday 2 s args wsX7_endToday RX7) (hr : meth.sig.returnType = none) (hlocks : meth.locks = false) (hT : agT D cy lay s) : ∀ (n : Nat), ∀ (σ : MS) (v1 : Int32), u_X7_endToday_57 post n σ v1 → ∀ (H : Heap) (locs : List Loc) (ls : Array Slot), agG D cy lay σ (agA lay s.heap.size) s.heap H locs → lv_has ls 2 [(0, .ref (lay 0)), (1, .int v1)] → W p l e rm_X7_endToday s m args below meth c H locs 0 0 (MQ below (va_Qv post (agO D cy lay) (agA lay s.heap.size)) args s 0 0 (agA lay s.heap.size)) (F0 m 57 ls []) := by
  intro n
  induction n with
  | zero =>
    intro σ v1 h
    exact h.elim
  | succ n ih =>
    intro σ v1 h H locs ls G hl
    rw [u_X7_endToday_57] at h
    refine lv_iload_n hC.1 hC.2.1 dX7_endToday_57 rfl (lv_at hl 1 rfl) ?_
    refine lv_aload_n hC.1 hC.2.1 dX7_endToday_58 rfl (lv_at hl 0 rfl) ?_
    refine ag_get hC hT G (by decide) e_ag k_X7 i_X7_endToday_X7 8 (by decide) (wm 1 rfl) rfl dX7_endToday_59 ?_
    refine lv_icmp_ge (tgt := 109) hC.1 hC.2.1 dX7_endToday_62 (by decide) (fun c2 => ?_) (fun c2 => ?_)
    · replace h := h.1 c2
      exact ag_vret hC hr hlocks G h dX7_endToday_109
    · replace h := h.2 c2
      refine lv_aload_n hC.1 hC.2.1 dX7_endToday_65 rfl (lv_at hl 0 rfl) ?_
      refine ag_get hC hT G (by decide) e_ag k_X7 i_X7_endToday_X7 3 (by decide) (wm 2 rfl) rfl dX7_endToday_66 ?_
      refine lv_iload_n hC.1 hC.2.1 dX7_endToday_69 rfl (lv_at hl 1 rfl) ?_
      obtain ⟨hn3, h⟩ := h
      refine ag_aald hC hT G (by decide) _ rfl e_wds hn3 dX7_endToday_70 ?_
      refine ag_get hC hT G (k_wd (vlt hn3)) (e_wd (vlt hn3)) k_X6 i_X7_endToday_X6 1 (by decide) (wm 3 rfl) rfl dX7_endToday_71 ?_
      refine lv_aload_n hC.1 hC.2.1 dX7_endToday_74 rfl (lv_at hl 0 rfl) ?_
      refine ag_get hC hT G (by decide) e_ag k_X7 i_X7_endToday_X7 9 (by decide) (wm 4 rfl) rfl dX7_endToday_75 ?_
      refine lv_icmp_ne (tgt := 103) hC.1 hC.2.1 dX7_endToday_78 (by decide) (fun c4 => ?_) (fun c4 => ?_)
      · replace h := h.2 c4
        refine lv_iinc (v := v1 + 1) (lv' := [(1, .int (v1 + 1)), (0, .ref (lay 0))]) hC.1 hC.2.1 dX7_endToday_103 hl (k := 1) rfl rfl (by decide) rfl (fun ls hl => ?_)
        refine lv_goto (tgt := 57) hC.1 hC.2.1 dX7_endToday_106 (by decide) ?_
        exact ih _ _ h _ _ _ G (lv_sub hl [1, 0] rfl)
      · replace h := h.1 c4
        refine lv_aload_n hC.1 hC.2.1 dX7_endToday_81 rfl (lv_at hl 0 rfl) ?_
        refine ag_get hC hT G (by decide) e_ag k_X7 i_X7_endToday_X7 3 (by decide) (wm 2 rfl) rfl dX7_endToday_82 ?_
        refine lv_iload_n hC.1 hC.2.1 dX7_endToday_85 rfl (lv_at hl 1 rfl) ?_
        obtain ⟨hn5, h⟩ := h
        refine ag_aald hC hT G (by decide) _ rfl e_wds hn5 dX7_endToday_86 ?_
        refine ag_get hC hT G (k_wd (vlt hn5)) (e_wd (vlt hn5)) k_X6 i_X7_endToday_X6 7 (by decide) (wm 5 rfl) rfl dX7_endToday_87 ?_
        refine lv_if_ne (tgt := 103) hC.1 hC.2.1 dX7_endToday_90 (by decide) (fun c6 => ?_) (fun c6 => ?_)
        · replace h := h.2 c6
          refine lv_iinc (v := v1 + 1) (lv' := [(1, .int (v1 + 1)), (0, .ref (lay 0))]) hC.1 hC.2.1 dX7_endToday_103 hl (k := 1) rfl rfl (by decide) rfl (fun ls hl => ?_)
          refine lv_goto (tgt := 57) hC.1 hC.2.1 dX7_endToday_106 (by decide) ?_
          exact ih _ _ h _ _ _ G (lv_sub hl [1, 0] rfl)
        · replace h := h.1 c6
          refine lv_aload_n hC.1 hC.2.1 dX7_endToday_93 rfl (lv_at hl 0 rfl) ?_
          refine ag_get hC hT G (by decide) e_ag k_X7 i_X7_endToday_X7 3 (by decide) (wm 2 rfl) rfl dX7_endToday_94 ?_
          refine lv_iload_n hC.1 hC.2.1 dX7_endToday_97 rfl (lv_at hl 1 rfl) ?_
          obtain ⟨hn7, h⟩ := h
          refine ag_aald hC hT G (by decide) _ rfl e_wds hn7 dX7_endToday_98 ?_
          refine lv_iconst (v := 3) hC.1 hC.2.1 dX7_endToday_99 (by decide) ?_
          refine ag_put hC hT G (k_wd (vlt hn7)) (e_wd (vlt hn7)) k_X6 i_X7_endToday_X6 7 (by decide) (wm 5 rfl) rfl rfl (by simp) (e_wd (vlt hn7)) rfl dX7_endToday_100 (fun H locs G => ?_)
          refine lv_iinc (v := v1 + 1) (lv' := [(1, .int (v1 + 1)), (0, .ref (lay 0))]) hC.1 hC.2.1 dX7_endToday_103 hl (k := 1) rfl rfl (by decide) rfl (fun ls hl => ?_)
          refine lv_goto (tgt := 57) hC.1 hC.2.1 dX7_endToday_106 (by decide) ?_
          exact ih _ _ h _ _ _ G (lv_sub hl [1, 0] rfl)
def u_X7_endToday_2 (post : MS → Prop) : Nat → MS → Int32 → Prop
  | 0, _, _ => False
  | n + 1, σ, v1 => (((σ 0 8) ≤ v1 → (∃ k, u_X7_endToday_57 post k σ 0)) ∧ (¬ (σ 0 8) ≤ v1 → (vp_in v1 14 ∧ (((σ (73 + (Int32.toNatClampNeg v1)) 1) = (σ 0 9) → (vp_in v1 14 ∧ (((σ (73 + (Int32.toNatClampNeg v1)) 7) = 1 → (vp_in v1 14 ∧ w_X7_playOut (fun σ13 => u_X7_endToday_2 post n σ13 (v1 + 1)) σ (Int32.toNatClampNeg v1))) ∧ (¬ (σ (73 + (Int32.toNatClampNeg v1)) 7) = 1 → u_X7_endToday_2 post n σ (v1 + 1))))) ∧ (¬ (σ (73 + (Int32.toNatClampNeg v1)) 1) = (σ 0 9) → u_X7_endToday_2 post n σ (v1 + 1))))))
set_option maxHeartbeats 4000000 in
set_option maxRecDepth 100000 in
theorem l_X7_endToday_2 {p : Program} {l : Launch} {e : Env} {s : State} {m : MethodId} {args : Array Value} {below : List Frame} {meth : Method} {c : Code} {D : va_G} {cy : Nat → ClassId} {lay : Nat → Nat} {post : MS → Prop} (hC : CallFix p m c cX7_endToday 2 s args wsX7_endToday RX7) (hr : meth.sig.returnType = none) (hlocks : meth.locks = false) (hT : agT D cy lay s) : ∀ (n : Nat), ∀ (σ : MS) (v1 : Int32), u_X7_endToday_2 post n σ v1 → ∀ (H : Heap) (locs : List Loc) (ls : Array Slot), agG D cy lay σ (agA lay s.heap.size) s.heap H locs → lv_has ls 2 [(0, .ref (lay 0)), (1, .int v1)] → W p l e rm_X7_endToday s m args below meth c H locs 0 0 (MQ below (va_Qv post (agO D cy lay) (agA lay s.heap.size)) args s 0 0 (agA lay s.heap.size)) (F0 m 2 ls []) := by
  intro n
  induction n with
  | zero =>
    intro σ v1 h
    exact h.elim
  | succ n ih =>
    intro σ v1 h H locs ls G hl
    rw [u_X7_endToday_2] at h
    refine lv_iload_n hC.1 hC.2.1 dX7_endToday_2 rfl (lv_at hl 1 rfl) ?_
    refine lv_aload_n hC.1 hC.2.1 dX7_endToday_3 rfl (lv_at hl 0 rfl) ?_
    refine ag_get hC hT G (by decide) e_ag k_X7 i_X7_endToday_X7 8 (by decide) (wm 1 rfl) rfl dX7_endToday_4 ?_
    refine lv_icmp_ge (tgt := 55) hC.1 hC.2.1 dX7_endToday_7 (by decide) (fun c1 => ?_) (fun c1 => ?_)
    · replace h := h.1 c1
      refine lv_iconst (v := 0) hC.1 hC.2.1 dX7_endToday_55 (by decide) ?_
      refine lv_istore_n (lv' := [(1, .int 0), (0, .ref (lay 0))]) hC.1 hC.2.1 dX7_endToday_56 rfl hl (by decide) rfl (fun ls hl => ?_)
      obtain ⟨n1, h⟩ := h
      exact l_X7_endToday_57 hC hr hlocks hT n1 _ _ h _ _ _ G (lv_sub hl [1, 0] rfl)
    · replace h := h.2 c1
      refine lv_aload_n hC.1 hC.2.1 dX7_endToday_10 rfl (lv_at hl 0 rfl) ?_
      refine ag_get hC hT G (by decide) e_ag k_X7 i_X7_endToday_X7 3 (by decide) (wm 2 rfl) rfl dX7_endToday_11 ?_
      refine lv_iload_n hC.1 hC.2.1 dX7_endToday_14 rfl (lv_at hl 1 rfl) ?_
      obtain ⟨hn8, h⟩ := h
      refine ag_aald hC hT G (by decide) _ rfl e_wds hn8 dX7_endToday_15 ?_
      refine ag_get hC hT G (k_wd (vlt hn8)) (e_wd (vlt hn8)) k_X6 i_X7_endToday_X6 1 (by decide) (wm 3 rfl) rfl dX7_endToday_16 ?_
      refine lv_aload_n hC.1 hC.2.1 dX7_endToday_19 rfl (lv_at hl 0 rfl) ?_
      refine ag_get hC hT G (by decide) e_ag k_X7 i_X7_endToday_X7 9 (by decide) (wm 4 rfl) rfl dX7_endToday_20 ?_
      refine lv_icmp_ne (tgt := 49) hC.1 hC.2.1 dX7_endToday_23 (by decide) (fun c9 => ?_) (fun c9 => ?_)
      · replace h := h.2 c9
        refine lv_iinc (v := v1 + 1) (lv' := [(1, .int (v1 + 1)), (0, .ref (lay 0))]) hC.1 hC.2.1 dX7_endToday_49 hl (k := 1) rfl rfl (by decide) rfl (fun ls hl => ?_)
        refine lv_goto (tgt := 2) hC.1 hC.2.1 dX7_endToday_52 (by decide) ?_
        exact ih _ _ h _ _ _ G (lv_sub hl [1, 0] rfl)
      · replace h := h.1 c9
        refine lv_aload_n hC.1 hC.2.1 dX7_endToday_26 rfl (lv_at hl 0 rfl) ?_
        refine ag_get hC hT G (by decide) e_ag k_X7 i_X7_endToday_X7 3 (by decide) (wm 2 rfl) rfl dX7_endToday_27 ?_
        refine lv_iload_n hC.1 hC.2.1 dX7_endToday_30 rfl (lv_at hl 1 rfl) ?_
        obtain ⟨hn10, h⟩ := h
        refine ag_aald hC hT G (by decide) _ rfl e_wds hn10 dX7_endToday_31 ?_
        refine ag_get hC hT G (k_wd (vlt hn10)) (e_wd (vlt hn10)) k_X6 i_X7_endToday_X6 7 (by decide) (wm 5 rfl) rfl dX7_endToday_32 ?_
        refine lv_iconst (v := 1) hC.1 hC.2.1 dX7_endToday_35 (by decide) ?_
        refine lv_icmp_ne (tgt := 49) hC.1 hC.2.1 dX7_endToday_36 (by decide) (fun c11 => ?_) (fun c11 => ?_)
        · replace h := h.2 c11
          refine lv_iinc (v := v1 + 1) (lv' := [(1, .int (v1 + 1)), (0, .ref (lay 0))]) hC.1 hC.2.1 dX7_endToday_49 hl (k := 1) rfl rfl (by decide) rfl (fun ls hl => ?_)
          refine lv_goto (tgt := 2) hC.1 hC.2.1 dX7_endToday_52 (by decide) ?_
          exact ih _ _ h _ _ _ G (lv_sub hl [1, 0] rfl)
        · replace h := h.1 c11
          refine lv_aload_n hC.1 hC.2.1 dX7_endToday_39 rfl (lv_at hl 0 rfl) ?_
          refine lv_aload_n hC.1 hC.2.1 dX7_endToday_40 rfl (lv_at hl 0 rfl) ?_
          refine ag_get hC hT G (by decide) e_ag k_X7 i_X7_endToday_X7 3 (by decide) (wm 2 rfl) rfl dX7_endToday_41 ?_
          refine lv_iload_n hC.1 hC.2.1 dX7_endToday_44 rfl (lv_at hl 1 rfl) ?_
          obtain ⟨hn12, h⟩ := h
          refine ag_aald hC hT G (by decide) _ rfl e_wds hn12 dX7_endToday_45 ?_
          refine ag_v G (ag_runV (As := [.ref (lay (73 + (Int32.toNatClampNeg v1)))]) (rest := []) hC hT G (c_X7_playOut l D cy lay h (vlt hn12) _) (cwV 1 hC.2.2.2.2 gX7_endToday_X7_playOut rfl rfl rfl hdV_X7_playOut ⟨Nat.le_of_ble_eq_true rfl, Nat.le_of_ble_eq_true rfl⟩) (ag_recv hT G (by decide) e_ag k_X7) rfl hl.1 rfl (Nat.le_of_ble_eq_true rfl) dX7_endToday_46 ⟨Nat.le_of_ble_eq_true rfl, Nat.le_of_ble_eq_true rfl⟩) (fun σ13 H locs h G => ?_)
          (try dsimp only at h)
          refine lv_iinc (v := v1 + 1) (lv' := [(1, .int (v1 + 1)), (0, .ref (lay 0))]) hC.1 hC.2.1 dX7_endToday_49 hl (k := 1) rfl rfl (by decide) rfl (fun ls hl => ?_)
          refine lv_goto (tgt := 2) hC.1 hC.2.1 dX7_endToday_52 (by decide) ?_
          exact ih _ _ h _ _ _ G (lv_sub hl [1, 0] rfl)
def w_X7_endToday (post : MS → Prop) (σ : MS) : Prop := (∃ k, u_X7_endToday_2 post k σ 0)
set_option maxHeartbeats 4000000 in
set_option maxRecDepth 100000 in
theorem c_X7_endToday (l : Launch) (D : va_G) (cy : Nat → ClassId) (lay : Nat → Nat) {σ : MS} {post : MS → Prop} (h : w_X7_endToday post σ) (sz : Nat) : Met l yX7_endToday wsX7_endToday rm_X7_endToday (va_Pc [.ref (lay 0)] (agI D cy lay σ sz)) (va_Qv post (agO D cy lay) (agA lay sz)) 0 0 (agA lay sz) := by
  refine ag_ofW (cc := cX7_endToday) (maxL := 2) (ret := none) (own := RX7) (Qc := fun sz => va_Qv post (agO D cy lay) (agA lay sz)) (by decide) rfl (Nat.le_of_ble_eq_true rfl) rfl ?_
  intro p e s m args below meth c ls hC hr hlocks hT G hl
  unfold w_X7_endToday at h
  have hl : lv_has ls 2 [(0, .ref (lay 0))] := hl
  refine lv_iconst (v := 0) hC.1 hC.2.1 dX7_endToday_0 (by decide) ?_
  refine lv_istore_n (lv' := [(1, .int 0), (0, .ref (lay 0))]) hC.1 hC.2.1 dX7_endToday_1 rfl hl (by decide) rfl (fun ls hl => ?_)
  obtain ⟨n1, h⟩ := h
  exact l_X7_endToday_2 hC hr hlocks hT n1 _ _ h _ _ _ G (lv_sub hl [1, 0] rfl)
theorem hdV_X7_endToday : yX7_endToday.cls = RX7 ∧ yX7_endToday.cls ≠ "java/lang/invoke/MethodHandle" ∧ yX7_endToday.cls ≠ "java/lang/invoke/VarHandle" ∧ (parseMethodDescriptor yX7_endToday.desc).map (fun d => d.parameters.length) = some 0 := by decide +kernel
abbrev rm_X7_loseThoseWhoWaited : Room := { frames := 0, cells := 0, slots := 0, locals := 0 }
theorem i_X7_loseThoseWhoWaited_X7 : ∀ w ∈ wsX70, w ∈ wsX7_loseThoseWhoWaited := fun _ h => List.mem_cons_of_mem _ (List.mem_append_left _ (List.mem_append_right _ h))
theorem i_X7_loseThoseWhoWaited_X6 : ∀ w ∈ wsX60, w ∈ wsX7_loseThoseWhoWaited := fun _ h => List.mem_cons_of_mem _ (List.mem_append_right _ h)
def u_X7_loseThoseWhoWaited_2 (post : MS → Prop) : Nat → MS → Int32 → Prop
  | 0, _, _ => False
  | n + 1, σ, v1 => (((σ 0 8) ≤ v1 → post σ) ∧ (¬ (σ 0 8) ≤ v1 → (vp_in v1 14 ∧ (((σ (73 + (Int32.toNatClampNeg v1)) 7) = 0 → (vp_in v1 14 ∧ (((σ 0 9) < ((σ (73 + (Int32.toNatClampNeg v1)) 6) + 5) → u_X7_loseThoseWhoWaited_2 post n σ (v1 + 1)) ∧ (¬ (σ 0 9) < ((σ (73 + (Int32.toNatClampNeg v1)) 6) + 5) → (vp_in v1 14 ∧ u_X7_loseThoseWhoWaited_2 post n (up2 σ (73 + (Int32.toNatClampNeg v1)) 7 3) (v1 + 1)))))) ∧ (¬ (σ (73 + (Int32.toNatClampNeg v1)) 7) = 0 → u_X7_loseThoseWhoWaited_2 post n σ (v1 + 1))))))
set_option maxHeartbeats 4000000 in
set_option maxRecDepth 100000 in
theorem l_X7_loseThoseWhoWaited_2 {p : Program} {l : Launch} {e : Env} {s : State} {m : MethodId} {args : Array Value} {below : List Frame} {meth : Method} {c : Code} {D : va_G} {cy : Nat → ClassId} {lay : Nat → Nat} {post : MS → Prop} (hC : CallFix p m c cX7_loseThoseWhoWaited 2 s args wsX7_loseThoseWhoWaited RX7) (hr : meth.sig.returnType = none) (hlocks : meth.locks = false) (hT : agT D cy lay s) : ∀ (n : Nat), ∀ (σ : MS) (v1 : Int32), u_X7_loseThoseWhoWaited_2 post n σ v1 → ∀ (H : Heap) (locs : List Loc) (ls : Array Slot), agG D cy lay σ (agA lay s.heap.size) s.heap H locs → lv_has ls 2 [(0, .ref (lay 0)), (1, .int v1)] → W p l e rm_X7_loseThoseWhoWaited s m args below meth c H locs 0 0 (MQ below (va_Qv post (agO D cy lay) (agA lay s.heap.size)) args s 0 0 (agA lay s.heap.size)) (F0 m 2 ls []) := by
  intro n
  induction n with
  | zero =>
    intro σ v1 h
    exact h.elim
  | succ n ih =>
    intro σ v1 h H locs ls G hl
    rw [u_X7_loseThoseWhoWaited_2] at h
    refine lv_iload_n hC.1 hC.2.1 dX7_loseThoseWhoWaited_2 rfl (lv_at hl 1 rfl) ?_
    refine lv_aload_n hC.1 hC.2.1 dX7_loseThoseWhoWaited_3 rfl (lv_at hl 0 rfl) ?_
    refine ag_get hC hT G (by decide) e_ag k_X7 i_X7_loseThoseWhoWaited_X7 8 (by decide) (wm 1 rfl) rfl dX7_loseThoseWhoWaited_4 ?_
    refine lv_icmp_ge (tgt := 56) hC.1 hC.2.1 dX7_loseThoseWhoWaited_7 (by decide) (fun c1 => ?_) (fun c1 => ?_)
    · replace h := h.1 c1
      exact ag_vret hC hr hlocks G h dX7_loseThoseWhoWaited_56
    · replace h := h.2 c1
      refine lv_aload_n hC.1 hC.2.1 dX7_loseThoseWhoWaited_10 rfl (lv_at hl 0 rfl) ?_
      refine ag_get hC hT G (by decide) e_ag k_X7 i_X7_loseThoseWhoWaited_X7 3 (by decide) (wm 2 rfl) rfl dX7_loseThoseWhoWaited_11 ?_
      refine lv_iload_n hC.1 hC.2.1 dX7_loseThoseWhoWaited_14 rfl (lv_at hl 1 rfl) ?_
      obtain ⟨hn2, h⟩ := h
      refine ag_aald hC hT G (by decide) _ rfl e_wds hn2 dX7_loseThoseWhoWaited_15 ?_
      refine ag_get hC hT G (k_wd (vlt hn2)) (e_wd (vlt hn2)) k_X6 i_X7_loseThoseWhoWaited_X6 7 (by decide) (wm 3 rfl) rfl dX7_loseThoseWhoWaited_16 ?_
      refine lv_if_ne (tgt := 50) hC.1 hC.2.1 dX7_loseThoseWhoWaited_19 (by decide) (fun c3 => ?_) (fun c3 => ?_)
      · replace h := h.2 c3
        refine lv_iinc (v := v1 + 1) (lv' := [(1, .int (v1 + 1)), (0, .ref (lay 0))]) hC.1 hC.2.1 dX7_loseThoseWhoWaited_50 hl (k := 1) rfl rfl (by decide) rfl (fun ls hl => ?_)
        refine lv_goto (tgt := 2) hC.1 hC.2.1 dX7_loseThoseWhoWaited_53 (by decide) ?_
        exact ih _ _ h _ _ _ G (lv_sub hl [1, 0] rfl)
      · replace h := h.1 c3
        refine lv_aload_n hC.1 hC.2.1 dX7_loseThoseWhoWaited_22 rfl (lv_at hl 0 rfl) ?_
        refine ag_get hC hT G (by decide) e_ag k_X7 i_X7_loseThoseWhoWaited_X7 3 (by decide) (wm 2 rfl) rfl dX7_loseThoseWhoWaited_23 ?_
        refine lv_iload_n hC.1 hC.2.1 dX7_loseThoseWhoWaited_26 rfl (lv_at hl 1 rfl) ?_
        obtain ⟨hn4, h⟩ := h
        refine ag_aald hC hT G (by decide) _ rfl e_wds hn4 dX7_loseThoseWhoWaited_27 ?_
        refine ag_get hC hT G (k_wd (vlt hn4)) (e_wd (vlt hn4)) k_X6 i_X7_loseThoseWhoWaited_X6 6 (by decide) (wm 4 rfl) rfl dX7_loseThoseWhoWaited_28 ?_
        refine lv_iconst (v := 5) hC.1 hC.2.1 dX7_loseThoseWhoWaited_31 (by decide) ?_
        refine lv_iadd hC.1 hC.2.1 dX7_loseThoseWhoWaited_32 ?_
        refine lv_aload_n hC.1 hC.2.1 dX7_loseThoseWhoWaited_33 rfl (lv_at hl 0 rfl) ?_
        refine ag_get hC hT G (by decide) e_ag k_X7 i_X7_loseThoseWhoWaited_X7 9 (by decide) (wm 5 rfl) rfl dX7_loseThoseWhoWaited_34 ?_
        refine lv_icmp_gt (tgt := 50) hC.1 hC.2.1 dX7_loseThoseWhoWaited_37 (by decide) (fun c5 => ?_) (fun c5 => ?_)
        · replace h := h.1 c5
          refine lv_iinc (v := v1 + 1) (lv' := [(1, .int (v1 + 1)), (0, .ref (lay 0))]) hC.1 hC.2.1 dX7_loseThoseWhoWaited_50 hl (k := 1) rfl rfl (by decide) rfl (fun ls hl => ?_)
          refine lv_goto (tgt := 2) hC.1 hC.2.1 dX7_loseThoseWhoWaited_53 (by decide) ?_
          exact ih _ _ h _ _ _ G (lv_sub hl [1, 0] rfl)
        · replace h := h.2 c5
          refine lv_aload_n hC.1 hC.2.1 dX7_loseThoseWhoWaited_40 rfl (lv_at hl 0 rfl) ?_
          refine ag_get hC hT G (by decide) e_ag k_X7 i_X7_loseThoseWhoWaited_X7 3 (by decide) (wm 2 rfl) rfl dX7_loseThoseWhoWaited_41 ?_
          refine lv_iload_n hC.1 hC.2.1 dX7_loseThoseWhoWaited_44 rfl (lv_at hl 1 rfl) ?_
          obtain ⟨hn6, h⟩ := h
          refine ag_aald hC hT G (by decide) _ rfl e_wds hn6 dX7_loseThoseWhoWaited_45 ?_
          refine lv_iconst (v := 3) hC.1 hC.2.1 dX7_loseThoseWhoWaited_46 (by decide) ?_
          refine ag_put hC hT G (k_wd (vlt hn6)) (e_wd (vlt hn6)) k_X6 i_X7_loseThoseWhoWaited_X6 7 (by decide) (wm 3 rfl) rfl rfl (by simp) (e_wd (vlt hn6)) rfl dX7_loseThoseWhoWaited_47 (fun H locs G => ?_)
          refine lv_iinc (v := v1 + 1) (lv' := [(1, .int (v1 + 1)), (0, .ref (lay 0))]) hC.1 hC.2.1 dX7_loseThoseWhoWaited_50 hl (k := 1) rfl rfl (by decide) rfl (fun ls hl => ?_)
          refine lv_goto (tgt := 2) hC.1 hC.2.1 dX7_loseThoseWhoWaited_53 (by decide) ?_
          exact ih _ _ h _ _ _ G (lv_sub hl [1, 0] rfl)
def w_X7_loseThoseWhoWaited (post : MS → Prop) (σ : MS) : Prop := (∃ k, u_X7_loseThoseWhoWaited_2 post k σ 0)
set_option maxHeartbeats 4000000 in
set_option maxRecDepth 100000 in
theorem c_X7_loseThoseWhoWaited (l : Launch) (D : va_G) (cy : Nat → ClassId) (lay : Nat → Nat) {σ : MS} {post : MS → Prop} (h : w_X7_loseThoseWhoWaited post σ) (sz : Nat) : Met l yX7_loseThoseWhoWaited wsX7_loseThoseWhoWaited rm_X7_loseThoseWhoWaited (va_Pc [.ref (lay 0)] (agI D cy lay σ sz)) (va_Qv post (agO D cy lay) (agA lay sz)) 0 0 (agA lay sz) := by
  refine ag_ofW (cc := cX7_loseThoseWhoWaited) (maxL := 2) (ret := none) (own := RX7) (Qc := fun sz => va_Qv post (agO D cy lay) (agA lay sz)) (by decide) rfl (Nat.le_of_ble_eq_true rfl) rfl ?_
  intro p e s m args below meth c ls hC hr hlocks hT G hl
  unfold w_X7_loseThoseWhoWaited at h
  have hl : lv_has ls 2 [(0, .ref (lay 0))] := hl
  refine lv_iconst (v := 0) hC.1 hC.2.1 dX7_loseThoseWhoWaited_0 (by decide) ?_
  refine lv_istore_n (lv' := [(1, .int 0), (0, .ref (lay 0))]) hC.1 hC.2.1 dX7_loseThoseWhoWaited_1 rfl hl (by decide) rfl (fun ls hl => ?_)
  obtain ⟨n1, h⟩ := h
  exact l_X7_loseThoseWhoWaited_2 hC hr hlocks hT n1 _ _ h _ _ _ G (lv_sub hl [1, 0] rfl)
theorem hdV_X7_loseThoseWhoWaited : yX7_loseThoseWhoWaited.cls = RX7 ∧ yX7_loseThoseWhoWaited.cls ≠ "java/lang/invoke/MethodHandle" ∧ yX7_loseThoseWhoWaited.cls ≠ "java/lang/invoke/VarHandle" ∧ (parseMethodDescriptor yX7_loseThoseWhoWaited.desc).map (fun d => d.parameters.length) = some 0 := by decide +kernel
abbrev rm_N_X7_checkTown : Room := { frames := 1, cells := 0, slots := 0, locals := 20 }
def w_N_X7_checkTown (post : MS → Prop) (σ : MS) (a0 : Int32) : Prop := w_X7_isTown (fun r2 σ1 => ((r2 = 0 → False) ∧ (¬ r2 = 0 → post σ1))) σ a0
set_option maxHeartbeats 4000000 in
set_option maxRecDepth 100000 in
theorem c_N_X7_checkTown (l : Launch) (D : va_G) (cy : Nat → ClassId) (lay : Nat → Nat) {σ : MS} {post : MS → Prop} {a0 : Int32} (h : w_N_X7_checkTown post σ a0) (sz : Nat) : Met l yX7_checkTown wsX7_checkTown rm_N_X7_checkTown (va_Pc [.int a0] (agI D cy lay σ sz)) (va_Qv post (agO D cy lay) (agA lay sz)) 0 0 (agA lay sz) := by
  refine ag_ofW (cc := cX7_checkTown) (maxL := 1) (ret := none) (own := RX7) (Qc := fun sz => va_Qv post (agO D cy lay) (agA lay sz)) (by decide) rfl (Nat.le_of_ble_eq_true rfl) rfl ?_
  intro p e s m args below meth c ls hC hr hlocks hT G hl
  unfold w_N_X7_checkTown at h
  have hl : lv_has ls 1 [(0, .int a0)] := hl
  refine lv_iload_n hC.1 hC.2.1 dX7_checkTown_0 rfl (lv_at hl 0 rfl) ?_
  refine ag_i G (ag_runS (As := [.int a0]) (rest := []) hC hT G (c_X7_isTown l D cy lay h _) (va_cwS 1 hC.2.2.2.2 gX7_checkTown_X7_isTown rfl rfl rfl hdS_X7_isTown ⟨Nat.le_of_ble_eq_true rfl, Nat.le_of_ble_eq_true rfl⟩) rfl hl.1 rfl (Nat.le_of_ble_eq_true rfl) dX7_checkTown_1 ⟨Nat.le_of_ble_eq_true rfl, Nat.le_of_ble_eq_true rfl⟩) (fun r2 σ1 H locs h G => ?_)
  (try dsimp only at h)
  refine lv_if_ne (tgt := 17) hC.1 hC.2.1 dX7_checkTown_4 (by decide) (fun c3 => ?_) (fun c3 => ?_)
  · replace h := h.2 c3
    exact ag_vret hC hr hlocks G h dX7_checkTown_17
  · replace h := h.1 c3
    exact h.elim
theorem hdS_X7_checkTown : yX7_checkTown.cls ≠ "java/lang/invoke/MethodHandle" ∧ yX7_checkTown.cls ≠ "java/lang/invoke/VarHandle" ∧ (parseMethodDescriptor yX7_checkTown.desc).map (fun d => d.parameters.length) = some 1 := by decide +kernel
abbrev rm_N_X7_checkSong : Room := { frames := 0, cells := 0, slots := 0, locals := 0 }
def u_N_X7_checkSong_10 (post : MS → Prop) (a0 : Int32) (σ : MS) : Prop := False
set_option maxHeartbeats 4000000 in
set_option maxRecDepth 100000 in
theorem l_N_X7_checkSong_10 {p : Program} {l : Launch} {e : Env} {s : State} {m : MethodId} {args : Array Value} {below : List Frame} {meth : Method} {c : Code} {D : va_G} {cy : Nat → ClassId} {lay : Nat → Nat} {post : MS → Prop} (a0 : Int32) (hC : CallFix p m c cX7_checkSong 1 s args wsX7_checkSong RX7) (hr : meth.sig.returnType = none) (hlocks : meth.locks = false) (hT : agT D cy lay s) : ∀ (σ : MS), u_N_X7_checkSong_10 post a0 σ → ∀ (H : Heap) (locs : List Loc) (ls : Array Slot), agG D cy lay σ (agA lay s.heap.size) s.heap H locs → lv_has ls 1 [(0, .int a0)] → W p l e rm_N_X7_checkSong s m args below meth c H locs 0 0 (MQ below (va_Qv post (agO D cy lay) (agA lay s.heap.size)) args s 0 0 (agA lay s.heap.size)) (F0 m 10 ls []) := by
  intro σ h H locs ls G hl
  unfold u_N_X7_checkSong_10 at h
  exact h.elim
def w_N_X7_checkSong (post : MS → Prop) (σ : MS) (a0 : Int32) : Prop := ((a0 < 0 → u_N_X7_checkSong_10 post a0 σ) ∧ (¬ a0 < 0 → ((a0 < 16 → post σ) ∧ (¬ a0 < 16 → u_N_X7_checkSong_10 post a0 σ))))
set_option maxHeartbeats 4000000 in
set_option maxRecDepth 100000 in
theorem c_N_X7_checkSong (l : Launch) (D : va_G) (cy : Nat → ClassId) (lay : Nat → Nat) {σ : MS} {post : MS → Prop} {a0 : Int32} (h : w_N_X7_checkSong post σ a0) (sz : Nat) : Met l yX7_checkSong wsX7_checkSong rm_N_X7_checkSong (va_Pc [.int a0] (agI D cy lay σ sz)) (va_Qv post (agO D cy lay) (agA lay sz)) 0 0 (agA lay sz) := by
  refine ag_ofW (cc := cX7_checkSong) (maxL := 1) (ret := none) (own := RX7) (Qc := fun sz => va_Qv post (agO D cy lay) (agA lay sz)) (by decide) rfl (Nat.le_of_ble_eq_true rfl) rfl ?_
  intro p e s m args below meth c ls hC hr hlocks hT G hl
  unfold w_N_X7_checkSong at h
  have hl : lv_has ls 1 [(0, .int a0)] := hl
  refine lv_iload_n hC.1 hC.2.1 dX7_checkSong_0 rfl (lv_at hl 0 rfl) ?_
  refine lv_if_lt (tgt := 10) hC.1 hC.2.1 dX7_checkSong_1 (by decide) (fun c1 => ?_) (fun c1 => ?_)
  · replace h := h.1 c1
    exact l_N_X7_checkSong_10 a0 hC hr hlocks hT _ h _ _ _ G (lv_sub hl [0] rfl)
  · replace h := h.2 c1
    refine lv_iload_n hC.1 hC.2.1 dX7_checkSong_4 rfl (lv_at hl 0 rfl) ?_
    refine lv_bipush (v := 16) hC.1 hC.2.1 dX7_checkSong_5 (by decide) ?_
    refine lv_icmp_lt (tgt := 21) hC.1 hC.2.1 dX7_checkSong_7 (by decide) (fun c2 => ?_) (fun c2 => ?_)
    · replace h := h.1 c2
      exact ag_vret hC hr hlocks G h dX7_checkSong_21
    · replace h := h.2 c2
      exact l_N_X7_checkSong_10 a0 hC hr hlocks hT _ h _ _ _ G (lv_sub hl [0] rfl)
theorem hdS_X7_checkSong : yX7_checkSong.cls ≠ "java/lang/invoke/MethodHandle" ∧ yX7_checkSong.cls ≠ "java/lang/invoke/VarHandle" ∧ (parseMethodDescriptor yX7_checkSong.desc).map (fun d => d.parameters.length) = some 1 := by decide +kernel
abbrev rm_N_X7_checkPlayer : Room := { frames := 0, cells := 0, slots := 0, locals := 0 }
theorem i_N_X7_checkPlayer_X7 : ∀ w ∈ wsX70, w ∈ wsX7_checkPlayer := fun _ h => List.mem_cons_of_mem _ (List.mem_append_left _ (List.mem_append_right _ h))
def u_N_X7_checkPlayer_12 (post : MS → Prop) (a1 : Int32) (σ : MS) : Prop := False
set_option maxHeartbeats 4000000 in
set_option maxRecDepth 100000 in
theorem l_N_X7_checkPlayer_12 {p : Program} {l : Launch} {e : Env} {s : State} {m : MethodId} {args : Array Value} {below : List Frame} {meth : Method} {c : Code} {D : va_G} {cy : Nat → ClassId} {lay : Nat → Nat} {post : MS → Prop} (a1 : Int32) (hC : CallFix p m c cX7_checkPlayer 2 s args wsX7_checkPlayer RX7) (hr : meth.sig.returnType = none) (hlocks : meth.locks = false) (hT : agT D cy lay s) : ∀ (σ : MS), u_N_X7_checkPlayer_12 post a1 σ → ∀ (H : Heap) (locs : List Loc) (ls : Array Slot), agG D cy lay σ (agA lay s.heap.size) s.heap H locs → lv_has ls 2 [(0, .ref (lay 0)), (1, .int a1)] → W p l e rm_N_X7_checkPlayer s m args below meth c H locs 0 0 (MQ below (va_Qv post (agO D cy lay) (agA lay s.heap.size)) args s 0 0 (agA lay s.heap.size)) (F0 m 12 ls []) := by
  intro σ h H locs ls G hl
  unfold u_N_X7_checkPlayer_12 at h
  exact h.elim
def w_N_X7_checkPlayer (post : MS → Prop) (σ : MS) (a1 : Int32) : Prop := ((a1 < 0 → u_N_X7_checkPlayer_12 post a1 σ) ∧ (¬ a1 < 0 → ((a1 < (σ 0 6) → post σ) ∧ (¬ a1 < (σ 0 6) → u_N_X7_checkPlayer_12 post a1 σ))))
set_option maxHeartbeats 4000000 in
set_option maxRecDepth 100000 in
theorem c_N_X7_checkPlayer (l : Launch) (D : va_G) (cy : Nat → ClassId) (lay : Nat → Nat) {σ : MS} {post : MS → Prop} {a1 : Int32} (h : w_N_X7_checkPlayer post σ a1) (sz : Nat) : Met l yX7_checkPlayer wsX7_checkPlayer rm_N_X7_checkPlayer (va_Pc [.ref (lay 0), .int a1] (agI D cy lay σ sz)) (va_Qv post (agO D cy lay) (agA lay sz)) 0 0 (agA lay sz) := by
  refine ag_ofW (cc := cX7_checkPlayer) (maxL := 2) (ret := none) (own := RX7) (Qc := fun sz => va_Qv post (agO D cy lay) (agA lay sz)) (by decide) rfl (Nat.le_of_ble_eq_true rfl) rfl ?_
  intro p e s m args below meth c ls hC hr hlocks hT G hl
  unfold w_N_X7_checkPlayer at h
  have hl : lv_has ls 2 [(0, .ref (lay 0)), (1, .int a1)] := hl
  refine lv_iload_n hC.1 hC.2.1 dX7_checkPlayer_0 rfl (lv_at hl 1 rfl) ?_
  refine lv_if_lt (tgt := 12) hC.1 hC.2.1 dX7_checkPlayer_1 (by decide) (fun c1 => ?_) (fun c1 => ?_)
  · replace h := h.1 c1
    exact l_N_X7_checkPlayer_12 a1 hC hr hlocks hT _ h _ _ _ G (lv_sub hl [0, 1] rfl)
  · replace h := h.2 c1
    refine lv_iload_n hC.1 hC.2.1 dX7_checkPlayer_4 rfl (lv_at hl 1 rfl) ?_
    refine lv_aload_n hC.1 hC.2.1 dX7_checkPlayer_5 rfl (lv_at hl 0 rfl) ?_
    refine ag_get hC hT G (by decide) e_ag k_X7 i_N_X7_checkPlayer_X7 6 (by decide) (wm 3 rfl) rfl dX7_checkPlayer_6 ?_
    refine lv_icmp_lt (tgt := 23) hC.1 hC.2.1 dX7_checkPlayer_9 (by decide) (fun c2 => ?_) (fun c2 => ?_)
    · replace h := h.1 c2
      exact ag_vret hC hr hlocks G h dX7_checkPlayer_23
    · replace h := h.2 c2
      exact l_N_X7_checkPlayer_12 a1 hC hr hlocks hT _ h _ _ _ G (lv_sub hl [0, 1] rfl)
theorem hdV_X7_checkPlayer : yX7_checkPlayer.cls = RX7 ∧ yX7_checkPlayer.cls ≠ "java/lang/invoke/MethodHandle" ∧ yX7_checkPlayer.cls ≠ "java/lang/invoke/VarHandle" ∧ (parseMethodDescriptor yX7_checkPlayer.desc).map (fun d => d.parameters.length) = some 1 := by decide +kernel
abbrev rm_N_X7_checkBand : Room := { frames := 0, cells := 0, slots := 0, locals := 0 }
theorem i_N_X7_checkBand_X7 : ∀ w ∈ wsX70, w ∈ wsX7_checkBand := fun _ h => List.mem_cons_of_mem _ (List.mem_append_left _ (List.mem_append_right _ h))
def u_N_X7_checkBand_12 (post : MS → Prop) (a1 : Int32) (σ : MS) : Prop := False
set_option maxHeartbeats 4000000 in
set_option maxRecDepth 100000 in
theorem l_N_X7_checkBand_12 {p : Program} {l : Launch} {e : Env} {s : State} {m : MethodId} {args : Array Value} {below : List Frame} {meth : Method} {c : Code} {D : va_G} {cy : Nat → ClassId} {lay : Nat → Nat} {post : MS → Prop} (a1 : Int32) (hC : CallFix p m c cX7_checkBand 2 s args wsX7_checkBand RX7) (hr : meth.sig.returnType = none) (hlocks : meth.locks = false) (hT : agT D cy lay s) : ∀ (σ : MS), u_N_X7_checkBand_12 post a1 σ → ∀ (H : Heap) (locs : List Loc) (ls : Array Slot), agG D cy lay σ (agA lay s.heap.size) s.heap H locs → lv_has ls 2 [(0, .ref (lay 0)), (1, .int a1)] → W p l e rm_N_X7_checkBand s m args below meth c H locs 0 0 (MQ below (va_Qv post (agO D cy lay) (agA lay s.heap.size)) args s 0 0 (agA lay s.heap.size)) (F0 m 12 ls []) := by
  intro σ h H locs ls G hl
  unfold u_N_X7_checkBand_12 at h
  exact h.elim
def w_N_X7_checkBand (post : MS → Prop) (σ : MS) (a1 : Int32) : Prop := ((a1 < 0 → u_N_X7_checkBand_12 post a1 σ) ∧ (¬ a1 < 0 → ((a1 < (σ 0 7) → post σ) ∧ (¬ a1 < (σ 0 7) → u_N_X7_checkBand_12 post a1 σ))))
set_option maxHeartbeats 4000000 in
set_option maxRecDepth 100000 in
theorem c_N_X7_checkBand (l : Launch) (D : va_G) (cy : Nat → ClassId) (lay : Nat → Nat) {σ : MS} {post : MS → Prop} {a1 : Int32} (h : w_N_X7_checkBand post σ a1) (sz : Nat) : Met l yX7_checkBand wsX7_checkBand rm_N_X7_checkBand (va_Pc [.ref (lay 0), .int a1] (agI D cy lay σ sz)) (va_Qv post (agO D cy lay) (agA lay sz)) 0 0 (agA lay sz) := by
  refine ag_ofW (cc := cX7_checkBand) (maxL := 2) (ret := none) (own := RX7) (Qc := fun sz => va_Qv post (agO D cy lay) (agA lay sz)) (by decide) rfl (Nat.le_of_ble_eq_true rfl) rfl ?_
  intro p e s m args below meth c ls hC hr hlocks hT G hl
  unfold w_N_X7_checkBand at h
  have hl : lv_has ls 2 [(0, .ref (lay 0)), (1, .int a1)] := hl
  refine lv_iload_n hC.1 hC.2.1 dX7_checkBand_0 rfl (lv_at hl 1 rfl) ?_
  refine lv_if_lt (tgt := 12) hC.1 hC.2.1 dX7_checkBand_1 (by decide) (fun c1 => ?_) (fun c1 => ?_)
  · replace h := h.1 c1
    exact l_N_X7_checkBand_12 a1 hC hr hlocks hT _ h _ _ _ G (lv_sub hl [0, 1] rfl)
  · replace h := h.2 c1
    refine lv_iload_n hC.1 hC.2.1 dX7_checkBand_4 rfl (lv_at hl 1 rfl) ?_
    refine lv_aload_n hC.1 hC.2.1 dX7_checkBand_5 rfl (lv_at hl 0 rfl) ?_
    refine ag_get hC hT G (by decide) e_ag k_X7 i_N_X7_checkBand_X7 7 (by decide) (wm 3 rfl) rfl dX7_checkBand_6 ?_
    refine lv_icmp_lt (tgt := 23) hC.1 hC.2.1 dX7_checkBand_9 (by decide) (fun c2 => ?_) (fun c2 => ?_)
    · replace h := h.1 c2
      exact ag_vret hC hr hlocks G h dX7_checkBand_23
    · replace h := h.2 c2
      exact l_N_X7_checkBand_12 a1 hC hr hlocks hT _ h _ _ _ G (lv_sub hl [0, 1] rfl)
theorem hdV_X7_checkBand : yX7_checkBand.cls = RX7 ∧ yX7_checkBand.cls ≠ "java/lang/invoke/MethodHandle" ∧ yX7_checkBand.cls ≠ "java/lang/invoke/VarHandle" ∧ (parseMethodDescriptor yX7_checkBand.desc).map (fun d => d.parameters.length) = some 1 := by decide +kernel
abbrev rm_N_X7_checkWedding : Room := { frames := 0, cells := 0, slots := 0, locals := 0 }
theorem i_N_X7_checkWedding_X7 : ∀ w ∈ wsX70, w ∈ wsX7_checkWedding := fun _ h => List.mem_cons_of_mem _ (List.mem_append_left _ (List.mem_append_right _ h))
def u_N_X7_checkWedding_12 (post : MS → Prop) (a1 : Int32) (σ : MS) : Prop := False
set_option maxHeartbeats 4000000 in
set_option maxRecDepth 100000 in
theorem l_N_X7_checkWedding_12 {p : Program} {l : Launch} {e : Env} {s : State} {m : MethodId} {args : Array Value} {below : List Frame} {meth : Method} {c : Code} {D : va_G} {cy : Nat → ClassId} {lay : Nat → Nat} {post : MS → Prop} (a1 : Int32) (hC : CallFix p m c cX7_checkWedding 2 s args wsX7_checkWedding RX7) (hr : meth.sig.returnType = none) (hlocks : meth.locks = false) (hT : agT D cy lay s) : ∀ (σ : MS), u_N_X7_checkWedding_12 post a1 σ → ∀ (H : Heap) (locs : List Loc) (ls : Array Slot), agG D cy lay σ (agA lay s.heap.size) s.heap H locs → lv_has ls 2 [(0, .ref (lay 0)), (1, .int a1)] → W p l e rm_N_X7_checkWedding s m args below meth c H locs 0 0 (MQ below (va_Qv post (agO D cy lay) (agA lay s.heap.size)) args s 0 0 (agA lay s.heap.size)) (F0 m 12 ls []) := by
  intro σ h H locs ls G hl
  unfold u_N_X7_checkWedding_12 at h
  exact h.elim
def w_N_X7_checkWedding (post : MS → Prop) (σ : MS) (a1 : Int32) : Prop := ((a1 < 0 → u_N_X7_checkWedding_12 post a1 σ) ∧ (¬ a1 < 0 → ((a1 < (σ 0 8) → post σ) ∧ (¬ a1 < (σ 0 8) → u_N_X7_checkWedding_12 post a1 σ))))
set_option maxHeartbeats 4000000 in
set_option maxRecDepth 100000 in
theorem c_N_X7_checkWedding (l : Launch) (D : va_G) (cy : Nat → ClassId) (lay : Nat → Nat) {σ : MS} {post : MS → Prop} {a1 : Int32} (h : w_N_X7_checkWedding post σ a1) (sz : Nat) : Met l yX7_checkWedding wsX7_checkWedding rm_N_X7_checkWedding (va_Pc [.ref (lay 0), .int a1] (agI D cy lay σ sz)) (va_Qv post (agO D cy lay) (agA lay sz)) 0 0 (agA lay sz) := by
  refine ag_ofW (cc := cX7_checkWedding) (maxL := 2) (ret := none) (own := RX7) (Qc := fun sz => va_Qv post (agO D cy lay) (agA lay sz)) (by decide) rfl (Nat.le_of_ble_eq_true rfl) rfl ?_
  intro p e s m args below meth c ls hC hr hlocks hT G hl
  unfold w_N_X7_checkWedding at h
  have hl : lv_has ls 2 [(0, .ref (lay 0)), (1, .int a1)] := hl
  refine lv_iload_n hC.1 hC.2.1 dX7_checkWedding_0 rfl (lv_at hl 1 rfl) ?_
  refine lv_if_lt (tgt := 12) hC.1 hC.2.1 dX7_checkWedding_1 (by decide) (fun c1 => ?_) (fun c1 => ?_)
  · replace h := h.1 c1
    exact l_N_X7_checkWedding_12 a1 hC hr hlocks hT _ h _ _ _ G (lv_sub hl [0, 1] rfl)
  · replace h := h.2 c1
    refine lv_iload_n hC.1 hC.2.1 dX7_checkWedding_4 rfl (lv_at hl 1 rfl) ?_
    refine lv_aload_n hC.1 hC.2.1 dX7_checkWedding_5 rfl (lv_at hl 0 rfl) ?_
    refine ag_get hC hT G (by decide) e_ag k_X7 i_N_X7_checkWedding_X7 8 (by decide) (wm 3 rfl) rfl dX7_checkWedding_6 ?_
    refine lv_icmp_lt (tgt := 23) hC.1 hC.2.1 dX7_checkWedding_9 (by decide) (fun c2 => ?_) (fun c2 => ?_)
    · replace h := h.1 c2
      exact ag_vret hC hr hlocks G h dX7_checkWedding_23
    · replace h := h.2 c2
      exact l_N_X7_checkWedding_12 a1 hC hr hlocks hT _ h _ _ _ G (lv_sub hl [0, 1] rfl)
theorem hdV_X7_checkWedding : yX7_checkWedding.cls = RX7 ∧ yX7_checkWedding.cls ≠ "java/lang/invoke/MethodHandle" ∧ yX7_checkWedding.cls ≠ "java/lang/invoke/VarHandle" ∧ (parseMethodDescriptor yX7_checkWedding.desc).map (fun d => d.parameters.length) = some 1 := by decide +kernel
abbrev rm_N_X7_checkDayToCome : Room := { frames := 0, cells := 0, slots := 0, locals := 0 }
theorem i_N_X7_checkDayToCome_X7 : ∀ w ∈ wsX70, w ∈ wsX7_checkDayToCome := fun _ h => List.mem_cons_of_mem _ (List.mem_append_left _ (List.mem_append_right _ h))
def u_N_X7_checkDayToCome_15 (post : MS → Prop) (a1 : Int32) (σ : MS) : Prop := False
set_option maxHeartbeats 4000000 in
set_option maxRecDepth 100000 in
theorem l_N_X7_checkDayToCome_15 {p : Program} {l : Launch} {e : Env} {s : State} {m : MethodId} {args : Array Value} {below : List Frame} {meth : Method} {c : Code} {D : va_G} {cy : Nat → ClassId} {lay : Nat → Nat} {post : MS → Prop} (a1 : Int32) (hC : CallFix p m c cX7_checkDayToCome 2 s args wsX7_checkDayToCome RX7) (hr : meth.sig.returnType = none) (hlocks : meth.locks = false) (hT : agT D cy lay s) : ∀ (σ : MS), u_N_X7_checkDayToCome_15 post a1 σ → ∀ (H : Heap) (locs : List Loc) (ls : Array Slot), agG D cy lay σ (agA lay s.heap.size) s.heap H locs → lv_has ls 2 [(0, .ref (lay 0)), (1, .int a1)] → W p l e rm_N_X7_checkDayToCome s m args below meth c H locs 0 0 (MQ below (va_Qv post (agO D cy lay) (agA lay s.heap.size)) args s 0 0 (agA lay s.heap.size)) (F0 m 15 ls []) := by
  intro σ h H locs ls G hl
  unfold u_N_X7_checkDayToCome_15 at h
  exact h.elim
def w_N_X7_checkDayToCome (post : MS → Prop) (σ : MS) (a1 : Int32) : Prop := ((a1 < (σ 0 9) → u_N_X7_checkDayToCome_15 post a1 σ) ∧ (¬ a1 < (σ 0 9) → ((a1 ≤ 365 → post σ) ∧ (¬ a1 ≤ 365 → u_N_X7_checkDayToCome_15 post a1 σ))))
set_option maxHeartbeats 4000000 in
set_option maxRecDepth 100000 in
theorem c_N_X7_checkDayToCome (l : Launch) (D : va_G) (cy : Nat → ClassId) (lay : Nat → Nat) {σ : MS} {post : MS → Prop} {a1 : Int32} (h : w_N_X7_checkDayToCome post σ a1) (sz : Nat) : Met l yX7_checkDayToCome wsX7_checkDayToCome rm_N_X7_checkDayToCome (va_Pc [.ref (lay 0), .int a1] (agI D cy lay σ sz)) (va_Qv post (agO D cy lay) (agA lay sz)) 0 0 (agA lay sz) := by
  refine ag_ofW (cc := cX7_checkDayToCome) (maxL := 2) (ret := none) (own := RX7) (Qc := fun sz => va_Qv post (agO D cy lay) (agA lay sz)) (by decide) rfl (Nat.le_of_ble_eq_true rfl) rfl ?_
  intro p e s m args below meth c ls hC hr hlocks hT G hl
  unfold w_N_X7_checkDayToCome at h
  have hl : lv_has ls 2 [(0, .ref (lay 0)), (1, .int a1)] := hl
  refine lv_iload_n hC.1 hC.2.1 dX7_checkDayToCome_0 rfl (lv_at hl 1 rfl) ?_
  refine lv_aload_n hC.1 hC.2.1 dX7_checkDayToCome_1 rfl (lv_at hl 0 rfl) ?_
  refine ag_get hC hT G (by decide) e_ag k_X7 i_N_X7_checkDayToCome_X7 9 (by decide) (wm 3 rfl) rfl dX7_checkDayToCome_2 ?_
  refine lv_icmp_lt (tgt := 15) hC.1 hC.2.1 dX7_checkDayToCome_5 (by decide) (fun c1 => ?_) (fun c1 => ?_)
  · replace h := h.1 c1
    exact l_N_X7_checkDayToCome_15 a1 hC hr hlocks hT _ h _ _ _ G (lv_sub hl [0, 1] rfl)
  · replace h := h.2 c1
    refine lv_iload_n hC.1 hC.2.1 dX7_checkDayToCome_8 rfl (lv_at hl 1 rfl) ?_
    refine lv_sipush (v := 365) hC.1 hC.2.1 dX7_checkDayToCome_9 (by decide) ?_
    refine lv_icmp_le (tgt := 26) hC.1 hC.2.1 dX7_checkDayToCome_12 (by decide) (fun c2 => ?_) (fun c2 => ?_)
    · replace h := h.1 c2
      exact ag_vret hC hr hlocks G h dX7_checkDayToCome_26
    · replace h := h.2 c2
      exact l_N_X7_checkDayToCome_15 a1 hC hr hlocks hT _ h _ _ _ G (lv_sub hl [0, 1] rfl)
theorem hdV_X7_checkDayToCome : yX7_checkDayToCome.cls = RX7 ∧ yX7_checkDayToCome.cls ≠ "java/lang/invoke/MethodHandle" ∧ yX7_checkDayToCome.cls ≠ "java/lang/invoke/VarHandle" ∧ (parseMethodDescriptor yX7_checkDayToCome.desc).map (fun d => d.parameters.length) = some 1 := by decide +kernel
abbrev rm_N_X7_drive : Room := { frames := 2, cells := 0, slots := 0, locals := 40 }
theorem i_N_X7_drive_X7 : ∀ w ∈ wsX70, w ∈ wsX7_drive := fun _ h => List.mem_cons_of_mem _ (List.mem_append_left _ (List.mem_append_left _ (List.mem_append_right _ h)))
def w_N_X7_drive (post : Int32 → MS → Prop) (σ : MS) (a1 : Int32) (a2 : Int32) : Prop := w_N_X7_checkTown (fun σ1 => w_N_X7_checkTown (fun σ2 => w_X4_between (fun r4 σ3 => post r4 σ3) σ2 a1 a2) σ1 a2) σ a1
set_option maxHeartbeats 4000000 in
set_option maxRecDepth 100000 in
theorem c_N_X7_drive (l : Launch) (D : va_G) (cy : Nat → ClassId) (lay : Nat → Nat) {σ : MS} {post : Int32 → MS → Prop} {a1 : Int32} {a2 : Int32} (h : w_N_X7_drive post σ a1 a2) (sz : Nat) : Met l yX7_drive wsX7_drive rm_N_X7_drive (va_Pc [.ref (lay 0), .int a1, .int a2] (agI D cy lay σ sz)) (va_Qi post (agO D cy lay) (agA lay sz)) 0 0 (agA lay sz) := by
  refine ag_ofW (cc := cX7_drive) (maxL := 3) (ret := some .int) (own := RX7) (Qc := fun sz => va_Qi post (agO D cy lay) (agA lay sz)) (by decide) rfl (Nat.le_of_ble_eq_true rfl) rfl ?_
  intro p e s m args below meth c ls hC hr hlocks hT G hl
  unfold w_N_X7_drive at h
  have hl : lv_has ls 3 [(0, .ref (lay 0)), (1, .int a1), (2, .int a2)] := hl
  refine lv_iload_n hC.1 hC.2.1 dX7_drive_0 rfl (lv_at hl 1 rfl) ?_
  refine ag_v G (ag_runS (As := [.int a1]) (rest := []) hC hT G (c_N_X7_checkTown l D cy lay h _) (va_cwS 1 hC.2.2.2.2 gX7_drive_X7_checkTown rfl rfl rfl hdS_X7_checkTown ⟨Nat.le_of_ble_eq_true rfl, Nat.le_of_ble_eq_true rfl⟩) rfl hl.1 rfl (Nat.le_of_ble_eq_true rfl) dX7_drive_1 ⟨Nat.le_of_ble_eq_true rfl, Nat.le_of_ble_eq_true rfl⟩) (fun σ1 H locs h G => ?_)
  (try dsimp only at h)
  refine lv_iload_n hC.1 hC.2.1 dX7_drive_4 rfl (lv_at hl 2 rfl) ?_
  refine ag_v G (ag_runS (As := [.int a2]) (rest := []) hC hT G (c_N_X7_checkTown l D cy lay h _) (va_cwS 1 hC.2.2.2.2 gX7_drive_X7_checkTown rfl rfl rfl hdS_X7_checkTown ⟨Nat.le_of_ble_eq_true rfl, Nat.le_of_ble_eq_true rfl⟩) rfl hl.1 rfl (Nat.le_of_ble_eq_true rfl) dX7_drive_5 ⟨Nat.le_of_ble_eq_true rfl, Nat.le_of_ble_eq_true rfl⟩) (fun σ2 H locs h G => ?_)
  (try dsimp only at h)
  refine lv_aload_n hC.1 hC.2.1 dX7_drive_8 rfl (lv_at hl 0 rfl) ?_
  refine ag_get hC hT G (by decide) e_ag k_X7 i_N_X7_drive_X7 4 (by decide) (wm 1 rfl) rfl dX7_drive_9 ?_
  refine lv_iload_n hC.1 hC.2.1 dX7_drive_12 rfl (lv_at hl 1 rfl) ?_
  refine lv_iload_n hC.1 hC.2.1 dX7_drive_13 rfl (lv_at hl 2 rfl) ?_
  refine ag_i G (ag_runV (As := [.int a1, .int a2]) (rest := []) hC hT G (c_X4_between l D cy lay h _) (cwV 2 hC.2.2.2.2 gX7_drive_X4_between rfl rfl rfl hdV_X4_between ⟨Nat.le_of_ble_eq_true rfl, Nat.le_of_ble_eq_true rfl⟩) (ag_recv hT G (by decide) e_rd k_X4) rfl hl.1 rfl (Nat.le_of_ble_eq_true rfl) dX7_drive_14 ⟨Nat.le_of_ble_eq_true rfl, Nat.le_of_ble_eq_true rfl⟩) (fun r4 σ3 H locs h G => ?_)
  (try dsimp only at h)
  exact ag_iret hC hr hlocks G h dX7_drive_17
theorem hdV_X7_drive : yX7_drive.cls = RX7 ∧ yX7_drive.cls ≠ "java/lang/invoke/MethodHandle" ∧ yX7_drive.cls ≠ "java/lang/invoke/VarHandle" ∧ (parseMethodDescriptor yX7_drive.desc).map (fun d => d.parameters.length) = some 2 := by decide +kernel
abbrev rm_N_X7_desk : Room := { frames := 2, cells := 0, slots := 0, locals := 42 }
theorem i_N_X7_desk_X7 : ∀ w ∈ wsX70, w ∈ wsX7_desk := fun _ h => List.mem_cons_of_mem _ (List.mem_append_left _ (List.mem_append_left _ (List.mem_append_left _ (List.mem_append_right _ h))))
def w_N_X7_desk (post : Int32 → MS → Prop) (σ : MS) (a1 : Int32) : Prop := ((a1 = 0 → post (σ 0 9) σ) ∧ (¬ a1 = 0 → ((a1 = 1 → post (σ 0 6) σ) ∧ (¬ a1 = 1 → ((a1 = 2 → post (σ 0 7) σ) ∧ (¬ a1 = 2 → ((a1 = 3 → post (σ 0 8) σ) ∧ (¬ a1 = 3 → ((a1 = 4 → w_X7_countInState (fun r6 σ5 => post r6 σ5) σ 0) ∧ (¬ a1 = 4 → ((a1 = 5 → w_X7_countInState (fun r9 σ8 => post r9 σ8) σ 1) ∧ (¬ a1 = 5 → ((a1 = 6 → w_X7_countInState (fun r12 σ11 => post r12 σ11) σ 2) ∧ (¬ a1 = 6 → ((a1 = 7 → w_X7_countInState (fun r15 σ14 => post r15 σ14) σ 3) ∧ (¬ a1 = 7 → ((a1 = 8 → post (σ 0 10) σ) ∧ (¬ a1 = 8 → ((a1 = 9 → w_X7_countFeuds (fun r19 σ18 => post r19 σ18) σ) ∧ (¬ a1 = 9 → ((a1 = 10 → w_X7_allEarned (fun r22 σ21 => post r22 σ21) σ) ∧ (¬ a1 = 10 → ((a1 = 11 → w_X7_countDaysOff (fun r25 σ24 => post r25 σ24) σ) ∧ (¬ a1 = 11 → ((a1 = 12 → w_X7_gapOfHours (fun r28 σ27 => post r28 σ27) σ) ∧ (¬ a1 = 12 → False))))))))))))))))))))))))))
set_option maxHeartbeats 4000000 in
set_option maxRecDepth 100000 in
theorem c_N_X7_desk (l : Launch) (D : va_G) (cy : Nat → ClassId) (lay : Nat → Nat) {σ : MS} {post : Int32 → MS → Prop} {a1 : Int32} (h : w_N_X7_desk post σ a1) (sz : Nat) : Met l yX7_desk wsX7_desk rm_N_X7_desk (va_Pc [.ref (lay 0), .int a1] (agI D cy lay σ sz)) (va_Qi post (agO D cy lay) (agA lay sz)) 0 0 (agA lay sz) := by
  refine ag_ofW (cc := cX7_desk) (maxL := 2) (ret := some .int) (own := RX7) (Qc := fun sz => va_Qi post (agO D cy lay) (agA lay sz)) (by decide) rfl (Nat.le_of_ble_eq_true rfl) rfl ?_
  intro p e s m args below meth c ls hC hr hlocks hT G hl
  unfold w_N_X7_desk at h
  have hl : lv_has ls 2 [(0, .ref (lay 0)), (1, .int a1)] := hl
  refine lv_iload_n hC.1 hC.2.1 dX7_desk_0 rfl (lv_at hl 1 rfl) ?_
  rcases Decidable.em (a1 = 0) with c1 | c1
  · replace h := h.1 c1
    refine lv_tableIn (off := 67) (tgt := 68) hC.1 hC.2.1 dX7_desk_1 (by rw [c1]; decide) (by rw [c1]; decide) (by rw [c1]; rfl) (by decide) ?_
    refine lv_aload_n hC.1 hC.2.1 dX7_desk_68 rfl (lv_at hl 0 rfl) ?_
    refine ag_get hC hT G (by decide) e_ag k_X7 i_N_X7_desk_X7 9 (by decide) (wm 3 rfl) rfl dX7_desk_69 ?_
    exact ag_iret hC hr hlocks G h dX7_desk_72
  · replace h := h.2 c1
    rcases Decidable.em (a1 = 1) with c2 | c2
    · replace h := h.1 c2
      refine lv_tableIn (off := 72) (tgt := 73) hC.1 hC.2.1 dX7_desk_1 (by rw [c2]; decide) (by rw [c2]; decide) (by rw [c2]; rfl) (by decide) ?_
      refine lv_aload_n hC.1 hC.2.1 dX7_desk_73 rfl (lv_at hl 0 rfl) ?_
      refine ag_get hC hT G (by decide) e_ag k_X7 i_N_X7_desk_X7 6 (by decide) (wm 4 rfl) rfl dX7_desk_74 ?_
      exact ag_iret hC hr hlocks G h dX7_desk_77
    · replace h := h.2 c2
      rcases Decidable.em (a1 = 2) with c3 | c3
      · replace h := h.1 c3
        refine lv_tableIn (off := 77) (tgt := 78) hC.1 hC.2.1 dX7_desk_1 (by rw [c3]; decide) (by rw [c3]; decide) (by rw [c3]; rfl) (by decide) ?_
        refine lv_aload_n hC.1 hC.2.1 dX7_desk_78 rfl (lv_at hl 0 rfl) ?_
        refine ag_get hC hT G (by decide) e_ag k_X7 i_N_X7_desk_X7 7 (by decide) (wm 5 rfl) rfl dX7_desk_79 ?_
        exact ag_iret hC hr hlocks G h dX7_desk_82
      · replace h := h.2 c3
        rcases Decidable.em (a1 = 3) with c4 | c4
        · replace h := h.1 c4
          refine lv_tableIn (off := 82) (tgt := 83) hC.1 hC.2.1 dX7_desk_1 (by rw [c4]; decide) (by rw [c4]; decide) (by rw [c4]; rfl) (by decide) ?_
          refine lv_aload_n hC.1 hC.2.1 dX7_desk_83 rfl (lv_at hl 0 rfl) ?_
          refine ag_get hC hT G (by decide) e_ag k_X7 i_N_X7_desk_X7 8 (by decide) (wm 6 rfl) rfl dX7_desk_84 ?_
          exact ag_iret hC hr hlocks G h dX7_desk_87
        · replace h := h.2 c4
          rcases Decidable.em (a1 = 4) with c7 | c7
          · replace h := h.1 c7
            refine lv_tableIn (off := 87) (tgt := 88) hC.1 hC.2.1 dX7_desk_1 (by rw [c7]; decide) (by rw [c7]; decide) (by rw [c7]; rfl) (by decide) ?_
            refine lv_aload_n hC.1 hC.2.1 dX7_desk_88 rfl (lv_at hl 0 rfl) ?_
            refine lv_iconst (v := 0) hC.1 hC.2.1 dX7_desk_89 (by decide) ?_
            refine ag_i G (ag_runV (As := [.int 0]) (rest := []) hC hT G (c_X7_countInState l D cy lay h _) (cwV 1 hC.2.2.2.2 gX7_desk_X7_countInState rfl rfl rfl hdV_X7_countInState ⟨Nat.le_of_ble_eq_true rfl, Nat.le_of_ble_eq_true rfl⟩) (ag_recv hT G (by decide) e_ag k_X7) rfl hl.1 rfl (Nat.le_of_ble_eq_true rfl) dX7_desk_90 ⟨Nat.le_of_ble_eq_true rfl, Nat.le_of_ble_eq_true rfl⟩) (fun r6 σ5 H locs h G => ?_)
            (try dsimp only at h)
            exact ag_iret hC hr hlocks G h dX7_desk_93
          · replace h := h.2 c7
            rcases Decidable.em (a1 = 5) with c10 | c10
            · replace h := h.1 c10
              refine lv_tableIn (off := 93) (tgt := 94) hC.1 hC.2.1 dX7_desk_1 (by rw [c10]; decide) (by rw [c10]; decide) (by rw [c10]; rfl) (by decide) ?_
              refine lv_aload_n hC.1 hC.2.1 dX7_desk_94 rfl (lv_at hl 0 rfl) ?_
              refine lv_iconst (v := 1) hC.1 hC.2.1 dX7_desk_95 (by decide) ?_
              refine ag_i G (ag_runV (As := [.int 1]) (rest := []) hC hT G (c_X7_countInState l D cy lay h _) (cwV 1 hC.2.2.2.2 gX7_desk_X7_countInState rfl rfl rfl hdV_X7_countInState ⟨Nat.le_of_ble_eq_true rfl, Nat.le_of_ble_eq_true rfl⟩) (ag_recv hT G (by decide) e_ag k_X7) rfl hl.1 rfl (Nat.le_of_ble_eq_true rfl) dX7_desk_96 ⟨Nat.le_of_ble_eq_true rfl, Nat.le_of_ble_eq_true rfl⟩) (fun r9 σ8 H locs h G => ?_)
              (try dsimp only at h)
              exact ag_iret hC hr hlocks G h dX7_desk_99
            · replace h := h.2 c10
              rcases Decidable.em (a1 = 6) with c13 | c13
              · replace h := h.1 c13
                refine lv_tableIn (off := 99) (tgt := 100) hC.1 hC.2.1 dX7_desk_1 (by rw [c13]; decide) (by rw [c13]; decide) (by rw [c13]; rfl) (by decide) ?_
                refine lv_aload_n hC.1 hC.2.1 dX7_desk_100 rfl (lv_at hl 0 rfl) ?_
                refine lv_iconst (v := 2) hC.1 hC.2.1 dX7_desk_101 (by decide) ?_
                refine ag_i G (ag_runV (As := [.int 2]) (rest := []) hC hT G (c_X7_countInState l D cy lay h _) (cwV 1 hC.2.2.2.2 gX7_desk_X7_countInState rfl rfl rfl hdV_X7_countInState ⟨Nat.le_of_ble_eq_true rfl, Nat.le_of_ble_eq_true rfl⟩) (ag_recv hT G (by decide) e_ag k_X7) rfl hl.1 rfl (Nat.le_of_ble_eq_true rfl) dX7_desk_102 ⟨Nat.le_of_ble_eq_true rfl, Nat.le_of_ble_eq_true rfl⟩) (fun r12 σ11 H locs h G => ?_)
                (try dsimp only at h)
                exact ag_iret hC hr hlocks G h dX7_desk_105
              · replace h := h.2 c13
                rcases Decidable.em (a1 = 7) with c16 | c16
                · replace h := h.1 c16
                  refine lv_tableIn (off := 105) (tgt := 106) hC.1 hC.2.1 dX7_desk_1 (by rw [c16]; decide) (by rw [c16]; decide) (by rw [c16]; rfl) (by decide) ?_
                  refine lv_aload_n hC.1 hC.2.1 dX7_desk_106 rfl (lv_at hl 0 rfl) ?_
                  refine lv_iconst (v := 3) hC.1 hC.2.1 dX7_desk_107 (by decide) ?_
                  refine ag_i G (ag_runV (As := [.int 3]) (rest := []) hC hT G (c_X7_countInState l D cy lay h _) (cwV 1 hC.2.2.2.2 gX7_desk_X7_countInState rfl rfl rfl hdV_X7_countInState ⟨Nat.le_of_ble_eq_true rfl, Nat.le_of_ble_eq_true rfl⟩) (ag_recv hT G (by decide) e_ag k_X7) rfl hl.1 rfl (Nat.le_of_ble_eq_true rfl) dX7_desk_108 ⟨Nat.le_of_ble_eq_true rfl, Nat.le_of_ble_eq_true rfl⟩) (fun r15 σ14 H locs h G => ?_)
                  (try dsimp only at h)
                  exact ag_iret hC hr hlocks G h dX7_desk_111
                · replace h := h.2 c16
                  rcases Decidable.em (a1 = 8) with c17 | c17
                  · replace h := h.1 c17
                    refine lv_tableIn (off := 111) (tgt := 112) hC.1 hC.2.1 dX7_desk_1 (by rw [c17]; decide) (by rw [c17]; decide) (by rw [c17]; rfl) (by decide) ?_
                    refine lv_aload_n hC.1 hC.2.1 dX7_desk_112 rfl (lv_at hl 0 rfl) ?_
                    refine ag_get hC hT G (by decide) e_ag k_X7 i_N_X7_desk_X7 10 (by decide) (wm 7 rfl) rfl dX7_desk_113 ?_
                    exact ag_iret hC hr hlocks G h dX7_desk_116
                  · replace h := h.2 c17
                    rcases Decidable.em (a1 = 9) with c20 | c20
                    · replace h := h.1 c20
                      refine lv_tableIn (off := 116) (tgt := 117) hC.1 hC.2.1 dX7_desk_1 (by rw [c20]; decide) (by rw [c20]; decide) (by rw [c20]; rfl) (by decide) ?_
                      refine lv_aload_n hC.1 hC.2.1 dX7_desk_117 rfl (lv_at hl 0 rfl) ?_
                      refine ag_i G (ag_runV (As := []) (rest := []) hC hT G (c_X7_countFeuds l D cy lay h _) (cwV 0 hC.2.2.2.2 gX7_desk_X7_countFeuds rfl rfl rfl hdV_X7_countFeuds ⟨Nat.le_of_ble_eq_true rfl, Nat.le_of_ble_eq_true rfl⟩) (ag_recv hT G (by decide) e_ag k_X7) rfl hl.1 rfl (Nat.le_of_ble_eq_true rfl) dX7_desk_118 ⟨Nat.le_of_ble_eq_true rfl, Nat.le_of_ble_eq_true rfl⟩) (fun r19 σ18 H locs h G => ?_)
                      (try dsimp only at h)
                      exact ag_iret hC hr hlocks G h dX7_desk_121
                    · replace h := h.2 c20
                      rcases Decidable.em (a1 = 10) with c23 | c23
                      · replace h := h.1 c23
                        refine lv_tableIn (off := 121) (tgt := 122) hC.1 hC.2.1 dX7_desk_1 (by rw [c23]; decide) (by rw [c23]; decide) (by rw [c23]; rfl) (by decide) ?_
                        refine lv_aload_n hC.1 hC.2.1 dX7_desk_122 rfl (lv_at hl 0 rfl) ?_
                        refine ag_i G (ag_runV (As := []) (rest := []) hC hT G (c_X7_allEarned l D cy lay h _) (cwV 0 hC.2.2.2.2 gX7_desk_X7_allEarned rfl rfl rfl hdV_X7_allEarned ⟨Nat.le_of_ble_eq_true rfl, Nat.le_of_ble_eq_true rfl⟩) (ag_recv hT G (by decide) e_ag k_X7) rfl hl.1 rfl (Nat.le_of_ble_eq_true rfl) dX7_desk_123 ⟨Nat.le_of_ble_eq_true rfl, Nat.le_of_ble_eq_true rfl⟩) (fun r22 σ21 H locs h G => ?_)
                        (try dsimp only at h)
                        exact ag_iret hC hr hlocks G h dX7_desk_126
                      · replace h := h.2 c23
                        rcases Decidable.em (a1 = 11) with c26 | c26
                        · replace h := h.1 c26
                          refine lv_tableIn (off := 126) (tgt := 127) hC.1 hC.2.1 dX7_desk_1 (by rw [c26]; decide) (by rw [c26]; decide) (by rw [c26]; rfl) (by decide) ?_
                          refine lv_aload_n hC.1 hC.2.1 dX7_desk_127 rfl (lv_at hl 0 rfl) ?_
                          refine ag_i G (ag_runV (As := []) (rest := []) hC hT G (c_X7_countDaysOff l D cy lay h _) (cwV 0 hC.2.2.2.2 gX7_desk_X7_countDaysOff rfl rfl rfl hdV_X7_countDaysOff ⟨Nat.le_of_ble_eq_true rfl, Nat.le_of_ble_eq_true rfl⟩) (ag_recv hT G (by decide) e_ag k_X7) rfl hl.1 rfl (Nat.le_of_ble_eq_true rfl) dX7_desk_128 ⟨Nat.le_of_ble_eq_true rfl, Nat.le_of_ble_eq_true rfl⟩) (fun r25 σ24 H locs h G => ?_)
                          (try dsimp only at h)
                          exact ag_iret hC hr hlocks G h dX7_desk_131
                        · replace h := h.2 c26
                          rcases Decidable.em (a1 = 12) with c29 | c29
                          · replace h := h.1 c29
                            refine lv_tableIn (off := 131) (tgt := 132) hC.1 hC.2.1 dX7_desk_1 (by rw [c29]; decide) (by rw [c29]; decide) (by rw [c29]; rfl) (by decide) ?_
                            refine lv_aload_n hC.1 hC.2.1 dX7_desk_132 rfl (lv_at hl 0 rfl) ?_
                            refine ag_i G (ag_runV (As := []) (rest := []) hC hT G (c_X7_gapOfHours l D cy lay h _) (cwV 0 hC.2.2.2.2 gX7_desk_X7_gapOfHours rfl rfl rfl hdV_X7_gapOfHours ⟨Nat.le_of_ble_eq_true rfl, Nat.le_of_ble_eq_true rfl⟩) (ag_recv hT G (by decide) e_ag k_X7) rfl hl.1 rfl (Nat.le_of_ble_eq_true rfl) dX7_desk_133 ⟨Nat.le_of_ble_eq_true rfl, Nat.le_of_ble_eq_true rfl⟩) (fun r28 σ27 H locs h G => ?_)
                            (try dsimp only at h)
                            exact ag_iret hC hr hlocks G h dX7_desk_136
                          · replace h := h.2 c29
                            refine lv_tableOut (tgt := 137) hC.1 hC.2.1 dX7_desk_1 (tsw_out 13 rfl (by decide) (fun k hk => by rcases (show k = 0 ∨ k = 1 ∨ k = 2 ∨ k = 3 ∨ k = 4 ∨ k = 5 ∨ k = 6 ∨ k = 7 ∨ k = 8 ∨ k = 9 ∨ k = 10 ∨ k = 11 ∨ k = 12 by omega) with rfl | rfl | rfl | rfl | rfl | rfl | rfl | rfl | rfl | rfl | rfl | rfl | rfl <;> assumption)) (by decide) ?_
                            exact h.elim
theorem hdV_X7_desk : yX7_desk.cls = RX7 ∧ yX7_desk.cls ≠ "java/lang/invoke/MethodHandle" ∧ yX7_desk.cls ≠ "java/lang/invoke/VarHandle" ∧ (parseMethodDescriptor yX7_desk.desc).map (fun d => d.parameters.length) = some 1 := by decide +kernel
abbrev rm_N_X7_ofPlayer : Room := { frames := 3, cells := 0, slots := 0, locals := 65 }
theorem i_N_X7_ofPlayer_X7 : ∀ w ∈ wsX70, w ∈ wsX7_ofPlayer := fun _ h => List.mem_cons_of_mem _ (List.mem_append_left _ (List.mem_append_left _ (List.mem_append_left _ (List.mem_append_left _ (List.mem_append_right _ h)))))
theorem i_N_X7_ofPlayer_X3 : ∀ w ∈ wsX30, w ∈ wsX7_ofPlayer := fun _ h => List.mem_cons_of_mem _ (List.mem_append_left _ (List.mem_append_left _ (List.mem_append_left _ (List.mem_append_right _ h))))
def w_N_X7_ofPlayer (post : Int32 → MS → Prop) (σ : MS) (a1 : Int32) (a2 : Int32) : Prop := w_N_X7_checkPlayer (fun σ1 => (vp_in a1 10 ∧ ((a2 = 0 → post (σ1 (29 + (Int32.toNatClampNeg a1)) 0) σ1) ∧ (¬ a2 = 0 → ((a2 = 1 → post (σ1 (29 + (Int32.toNatClampNeg a1)) 1) σ1) ∧ (¬ a2 = 1 → ((a2 = 2 → post (σ1 (29 + (Int32.toNatClampNeg a1)) 2) σ1) ∧ (¬ a2 = 2 → ((a2 = 3 → post (σ1 (29 + (Int32.toNatClampNeg a1)) 3) σ1) ∧ (¬ a2 = 3 → ((a2 = 4 → post (σ1 (29 + (Int32.toNatClampNeg a1)) 4) σ1) ∧ (¬ a2 = 4 → ((a2 = 5 → post (σ1 (29 + (Int32.toNatClampNeg a1)) 5) σ1) ∧ (¬ a2 = 5 → ((a2 = 6 → w_X7_countFixedWith (fun r10 σ9 => post r10 σ9) σ1 a1) ∧ (¬ a2 = 6 → ((a2 = 7 → post (σ1 (29 + (Int32.toNatClampNeg a1)) 6) σ1) ∧ (¬ a2 = 7 → ((a2 = 8 → post (σ1 (29 + (Int32.toNatClampNeg a1)) 7) σ1) ∧ (¬ a2 = 8 → False)))))))))))))))))))) σ a1
set_option maxHeartbeats 4000000 in
set_option maxRecDepth 100000 in
theorem c_N_X7_ofPlayer (l : Launch) (D : va_G) (cy : Nat → ClassId) (lay : Nat → Nat) {σ : MS} {post : Int32 → MS → Prop} {a1 : Int32} {a2 : Int32} (h : w_N_X7_ofPlayer post σ a1 a2) (sz : Nat) : Met l yX7_ofPlayer wsX7_ofPlayer rm_N_X7_ofPlayer (va_Pc [.ref (lay 0), .int a1, .int a2] (agI D cy lay σ sz)) (va_Qi post (agO D cy lay) (agA lay sz)) 0 0 (agA lay sz) := by
  refine ag_ofW (cc := cX7_ofPlayer) (maxL := 4) (ret := some .int) (own := RX7) (Qc := fun sz => va_Qi post (agO D cy lay) (agA lay sz)) (by decide) rfl (Nat.le_of_ble_eq_true rfl) rfl ?_
  intro p e s m args below meth c ls hC hr hlocks hT G hl
  unfold w_N_X7_ofPlayer at h
  have hl : lv_has ls 4 [(0, .ref (lay 0)), (1, .int a1), (2, .int a2)] := hl
  refine lv_aload_n hC.1 hC.2.1 dX7_ofPlayer_0 rfl (lv_at hl 0 rfl) ?_
  refine lv_iload_n hC.1 hC.2.1 dX7_ofPlayer_1 rfl (lv_at hl 1 rfl) ?_
  refine ag_v G (ag_runV (As := [.int a1]) (rest := []) hC hT G (c_N_X7_checkPlayer l D cy lay h _) (cwV 1 hC.2.2.2.2 gX7_ofPlayer_X7_checkPlayer rfl rfl rfl hdV_X7_checkPlayer ⟨Nat.le_of_ble_eq_true rfl, Nat.le_of_ble_eq_true rfl⟩) (ag_recv hT G (by decide) e_ag k_X7) rfl hl.1 rfl (Nat.le_of_ble_eq_true rfl) dX7_ofPlayer_2 ⟨Nat.le_of_ble_eq_true rfl, Nat.le_of_ble_eq_true rfl⟩) (fun σ1 H locs h G => ?_)
  (try dsimp only at h)
  refine lv_aload_n hC.1 hC.2.1 dX7_ofPlayer_5 rfl (lv_at hl 0 rfl) ?_
  refine ag_get hC hT G (by decide) e_ag k_X7 i_N_X7_ofPlayer_X7 0 (by decide) (wm 3 rfl) rfl dX7_ofPlayer_6 ?_
  refine lv_iload_n hC.1 hC.2.1 dX7_ofPlayer_9 rfl (lv_at hl 1 rfl) ?_
  obtain ⟨hn2, h⟩ := h
  refine ag_aald hC hT G (by decide) _ rfl e_pls hn2 dX7_ofPlayer_10 ?_
  refine lv_astore_n (lv' := [(3, .ref (lay (29 + (Int32.toNatClampNeg a1)))), (0, .ref (lay 0)), (1, .int a1), (2, .int a2)]) hC.1 hC.2.1 dX7_ofPlayer_11 rfl hl (by decide) rfl (fun ls hl => ?_)
  refine lv_iload_n hC.1 hC.2.1 dX7_ofPlayer_12 rfl (lv_at hl 3 rfl) ?_
  rcases Decidable.em (a2 = 0) with c3 | c3
  · replace h := h.1 c3
    refine lv_tableIn (off := 51) (tgt := 64) hC.1 hC.2.1 dX7_ofPlayer_13 (by rw [c3]; decide) (by rw [c3]; decide) (by rw [c3]; rfl) (by decide) ?_
    refine lv_aload_n hC.1 hC.2.1 dX7_ofPlayer_64 rfl (lv_at hl 0 rfl) ?_
    refine ag_get hC hT G (k_pl (vlt hn2)) (e_pl (vlt hn2)) k_X3 i_N_X7_ofPlayer_X3 0 (by decide) (wm 4 rfl) rfl dX7_ofPlayer_65 ?_
    exact ag_iret hC hr hlocks G h dX7_ofPlayer_68
  · replace h := h.2 c3
    rcases Decidable.em (a2 = 1) with c4 | c4
    · replace h := h.1 c4
      refine lv_tableIn (off := 56) (tgt := 69) hC.1 hC.2.1 dX7_ofPlayer_13 (by rw [c4]; decide) (by rw [c4]; decide) (by rw [c4]; rfl) (by decide) ?_
      refine lv_aload_n hC.1 hC.2.1 dX7_ofPlayer_69 rfl (lv_at hl 0 rfl) ?_
      refine ag_get hC hT G (k_pl (vlt hn2)) (e_pl (vlt hn2)) k_X3 i_N_X7_ofPlayer_X3 1 (by decide) (wm 5 rfl) rfl dX7_ofPlayer_70 ?_
      exact ag_iret hC hr hlocks G h dX7_ofPlayer_73
    · replace h := h.2 c4
      rcases Decidable.em (a2 = 2) with c5 | c5
      · replace h := h.1 c5
        refine lv_tableIn (off := 61) (tgt := 74) hC.1 hC.2.1 dX7_ofPlayer_13 (by rw [c5]; decide) (by rw [c5]; decide) (by rw [c5]; rfl) (by decide) ?_
        refine lv_aload_n hC.1 hC.2.1 dX7_ofPlayer_74 rfl (lv_at hl 0 rfl) ?_
        refine ag_get hC hT G (k_pl (vlt hn2)) (e_pl (vlt hn2)) k_X3 i_N_X7_ofPlayer_X3 2 (by decide) (wm 6 rfl) rfl dX7_ofPlayer_75 ?_
        exact ag_iret hC hr hlocks G h dX7_ofPlayer_78
      · replace h := h.2 c5
        rcases Decidable.em (a2 = 3) with c6 | c6
        · replace h := h.1 c6
          refine lv_tableIn (off := 66) (tgt := 79) hC.1 hC.2.1 dX7_ofPlayer_13 (by rw [c6]; decide) (by rw [c6]; decide) (by rw [c6]; rfl) (by decide) ?_
          refine lv_aload_n hC.1 hC.2.1 dX7_ofPlayer_79 rfl (lv_at hl 0 rfl) ?_
          refine ag_get hC hT G (k_pl (vlt hn2)) (e_pl (vlt hn2)) k_X3 i_N_X7_ofPlayer_X3 3 (by decide) (wm 7 rfl) rfl dX7_ofPlayer_80 ?_
          exact ag_iret hC hr hlocks G h dX7_ofPlayer_83
        · replace h := h.2 c6
          rcases Decidable.em (a2 = 4) with c7 | c7
          · replace h := h.1 c7
            refine lv_tableIn (off := 71) (tgt := 84) hC.1 hC.2.1 dX7_ofPlayer_13 (by rw [c7]; decide) (by rw [c7]; decide) (by rw [c7]; rfl) (by decide) ?_
            refine lv_aload_n hC.1 hC.2.1 dX7_ofPlayer_84 rfl (lv_at hl 0 rfl) ?_
            refine ag_get hC hT G (k_pl (vlt hn2)) (e_pl (vlt hn2)) k_X3 i_N_X7_ofPlayer_X3 4 (by decide) (wm 8 rfl) rfl dX7_ofPlayer_85 ?_
            exact ag_iret hC hr hlocks G h dX7_ofPlayer_88
          · replace h := h.2 c7
            rcases Decidable.em (a2 = 5) with c8 | c8
            · replace h := h.1 c8
              refine lv_tableIn (off := 76) (tgt := 89) hC.1 hC.2.1 dX7_ofPlayer_13 (by rw [c8]; decide) (by rw [c8]; decide) (by rw [c8]; rfl) (by decide) ?_
              refine lv_aload_n hC.1 hC.2.1 dX7_ofPlayer_89 rfl (lv_at hl 0 rfl) ?_
              refine ag_get hC hT G (k_pl (vlt hn2)) (e_pl (vlt hn2)) k_X3 i_N_X7_ofPlayer_X3 5 (by decide) (wm 9 rfl) rfl dX7_ofPlayer_90 ?_
              exact ag_iret hC hr hlocks G h dX7_ofPlayer_93
            · replace h := h.2 c8
              rcases Decidable.em (a2 = 6) with c11 | c11
              · replace h := h.1 c11
                refine lv_tableIn (off := 81) (tgt := 94) hC.1 hC.2.1 dX7_ofPlayer_13 (by rw [c11]; decide) (by rw [c11]; decide) (by rw [c11]; rfl) (by decide) ?_
                refine lv_aload_n hC.1 hC.2.1 dX7_ofPlayer_94 rfl (lv_at hl 1 rfl) ?_
                refine lv_iload_n hC.1 hC.2.1 dX7_ofPlayer_95 rfl (lv_at hl 2 rfl) ?_
                refine ag_i G (ag_runV (As := [.int a1]) (rest := []) hC hT G (c_X7_countFixedWith l D cy lay h _) (cwV 1 hC.2.2.2.2 gX7_ofPlayer_X7_countFixedWith rfl rfl rfl hdV_X7_countFixedWith ⟨Nat.le_of_ble_eq_true rfl, Nat.le_of_ble_eq_true rfl⟩) (ag_recv hT G (by decide) e_ag k_X7) rfl hl.1 rfl (Nat.le_of_ble_eq_true rfl) dX7_ofPlayer_96 ⟨Nat.le_of_ble_eq_true rfl, Nat.le_of_ble_eq_true rfl⟩) (fun r10 σ9 H locs h G => ?_)
                (try dsimp only at h)
                exact ag_iret hC hr hlocks G h dX7_ofPlayer_99
              · replace h := h.2 c11
                rcases Decidable.em (a2 = 7) with c12 | c12
                · replace h := h.1 c12
                  refine lv_tableIn (off := 87) (tgt := 100) hC.1 hC.2.1 dX7_ofPlayer_13 (by rw [c12]; decide) (by rw [c12]; decide) (by rw [c12]; rfl) (by decide) ?_
                  refine lv_aload_n hC.1 hC.2.1 dX7_ofPlayer_100 rfl (lv_at hl 0 rfl) ?_
                  refine ag_get hC hT G (k_pl (vlt hn2)) (e_pl (vlt hn2)) k_X3 i_N_X7_ofPlayer_X3 6 (by decide) (wm 10 rfl) rfl dX7_ofPlayer_101 ?_
                  exact ag_iret hC hr hlocks G h dX7_ofPlayer_104
                · replace h := h.2 c12
                  rcases Decidable.em (a2 = 8) with c13 | c13
                  · replace h := h.1 c13
                    refine lv_tableIn (off := 92) (tgt := 105) hC.1 hC.2.1 dX7_ofPlayer_13 (by rw [c13]; decide) (by rw [c13]; decide) (by rw [c13]; rfl) (by decide) ?_
                    refine lv_aload_n hC.1 hC.2.1 dX7_ofPlayer_105 rfl (lv_at hl 0 rfl) ?_
                    refine ag_get hC hT G (k_pl (vlt hn2)) (e_pl (vlt hn2)) k_X3 i_N_X7_ofPlayer_X3 7 (by decide) (wm 11 rfl) rfl dX7_ofPlayer_106 ?_
                    exact ag_iret hC hr hlocks G h dX7_ofPlayer_109
                  · replace h := h.2 c13
                    refine lv_tableOut (tgt := 110) hC.1 hC.2.1 dX7_ofPlayer_13 (tsw_out 9 rfl (by decide) (fun k hk => by rcases (show k = 0 ∨ k = 1 ∨ k = 2 ∨ k = 3 ∨ k = 4 ∨ k = 5 ∨ k = 6 ∨ k = 7 ∨ k = 8 by omega) with rfl | rfl | rfl | rfl | rfl | rfl | rfl | rfl | rfl <;> assumption)) (by decide) ?_
                    exact h.elim
theorem hdV_X7_ofPlayer : yX7_ofPlayer.cls = RX7 ∧ yX7_ofPlayer.cls ≠ "java/lang/invoke/MethodHandle" ∧ yX7_ofPlayer.cls ≠ "java/lang/invoke/VarHandle" ∧ (parseMethodDescriptor yX7_ofPlayer.desc).map (fun d => d.parameters.length) = some 2 := by decide +kernel
abbrev rm_N_X7_ofSong : Room := { frames := 2, cells := 0, slots := 0, locals := 44 }
theorem i_N_X7_ofSong_X7 : ∀ w ∈ wsX70, w ∈ wsX7_ofSong := fun _ h => List.mem_cons_of_mem _ (List.mem_append_left _ (List.mem_append_left _ (List.mem_append_left _ (List.mem_append_left _ (List.mem_append_right _ h)))))
theorem i_N_X7_ofSong_X5 : ∀ w ∈ wsX50, w ∈ wsX7_ofSong := fun _ h => List.mem_cons_of_mem _ (List.mem_append_left _ (List.mem_append_left _ (List.mem_append_left _ (List.mem_append_right _ h))))
def w_N_X7_ofSong (post : Int32 → MS → Prop) (σ : MS) (a1 : Int32) (a2 : Int32) : Prop := w_N_X7_checkSong (fun σ1 => (vp_in a1 16 ∧ ((a2 = 0 → post (σ1 (39 + (Int32.toNatClampNeg a1)) 0) σ1) ∧ (¬ a2 = 0 → ((a2 = 1 → post (σ1 (39 + (Int32.toNatClampNeg a1)) 1) σ1) ∧ (¬ a2 = 1 → ((a2 = 2 → post (σ1 (39 + (Int32.toNatClampNeg a1)) 2) σ1) ∧ (¬ a2 = 2 → ((a2 = 3 → post (σ1 (39 + (Int32.toNatClampNeg a1)) 3) σ1) ∧ (¬ a2 = 3 → ((a2 = 4 → w_X7_shareOf (fun r8 σ7 => post r8 σ7) σ1 (Int32.toNatClampNeg a1)) ∧ (¬ a2 = 4 → ((a2 = 5 → w_X7_countKnowing (fun r11 σ10 => post r11 σ10) σ1 a1) ∧ (¬ a2 = 5 → False)))))))))))))) σ a1
set_option maxHeartbeats 4000000 in
set_option maxRecDepth 100000 in
theorem c_N_X7_ofSong (l : Launch) (D : va_G) (cy : Nat → ClassId) (lay : Nat → Nat) {σ : MS} {post : Int32 → MS → Prop} {a1 : Int32} {a2 : Int32} (h : w_N_X7_ofSong post σ a1 a2) (sz : Nat) : Met l yX7_ofSong wsX7_ofSong rm_N_X7_ofSong (va_Pc [.ref (lay 0), .int a1, .int a2] (agI D cy lay σ sz)) (va_Qi post (agO D cy lay) (agA lay sz)) 0 0 (agA lay sz) := by
  refine ag_ofW (cc := cX7_ofSong) (maxL := 4) (ret := some .int) (own := RX7) (Qc := fun sz => va_Qi post (agO D cy lay) (agA lay sz)) (by decide) rfl (Nat.le_of_ble_eq_true rfl) rfl ?_
  intro p e s m args below meth c ls hC hr hlocks hT G hl
  unfold w_N_X7_ofSong at h
  have hl : lv_has ls 4 [(0, .ref (lay 0)), (1, .int a1), (2, .int a2)] := hl
  refine lv_iload_n hC.1 hC.2.1 dX7_ofSong_0 rfl (lv_at hl 1 rfl) ?_
  refine ag_v G (ag_runS (As := [.int a1]) (rest := []) hC hT G (c_N_X7_checkSong l D cy lay h _) (va_cwS 1 hC.2.2.2.2 gX7_ofSong_X7_checkSong rfl rfl rfl hdS_X7_checkSong ⟨Nat.le_of_ble_eq_true rfl, Nat.le_of_ble_eq_true rfl⟩) rfl hl.1 rfl (Nat.le_of_ble_eq_true rfl) dX7_ofSong_1 ⟨Nat.le_of_ble_eq_true rfl, Nat.le_of_ble_eq_true rfl⟩) (fun σ1 H locs h G => ?_)
  (try dsimp only at h)
  refine lv_aload_n hC.1 hC.2.1 dX7_ofSong_4 rfl (lv_at hl 0 rfl) ?_
  refine ag_get hC hT G (by decide) e_ag k_X7 i_N_X7_ofSong_X7 1 (by decide) (wm 3 rfl) rfl dX7_ofSong_5 ?_
  refine lv_iload_n hC.1 hC.2.1 dX7_ofSong_8 rfl (lv_at hl 1 rfl) ?_
  obtain ⟨hn2, h⟩ := h
  refine ag_aald hC hT G (by decide) _ rfl e_sgs hn2 dX7_ofSong_9 ?_
  refine lv_astore_n (lv' := [(3, .ref (lay (39 + (Int32.toNatClampNeg a1)))), (0, .ref (lay 0)), (1, .int a1), (2, .int a2)]) hC.1 hC.2.1 dX7_ofSong_10 rfl hl (by decide) rfl (fun ls hl => ?_)
  refine lv_iload_n hC.1 hC.2.1 dX7_ofSong_11 rfl (lv_at hl 3 rfl) ?_
  rcases Decidable.em (a2 = 0) with c3 | c3
  · replace h := h.1 c3
    refine lv_tableIn (off := 40) (tgt := 52) hC.1 hC.2.1 dX7_ofSong_12 (by rw [c3]; decide) (by rw [c3]; decide) (by rw [c3]; rfl) (by decide) ?_
    refine lv_aload_n hC.1 hC.2.1 dX7_ofSong_52 rfl (lv_at hl 0 rfl) ?_
    refine ag_get hC hT G (k_sg (vlt hn2)) (e_sg (vlt hn2)) k_X5 i_N_X7_ofSong_X5 0 (by decide) (wm 4 rfl) rfl dX7_ofSong_53 ?_
    exact ag_iret hC hr hlocks G h dX7_ofSong_56
  · replace h := h.2 c3
    rcases Decidable.em (a2 = 1) with c4 | c4
    · replace h := h.1 c4
      refine lv_tableIn (off := 45) (tgt := 57) hC.1 hC.2.1 dX7_ofSong_12 (by rw [c4]; decide) (by rw [c4]; decide) (by rw [c4]; rfl) (by decide) ?_
      refine lv_aload_n hC.1 hC.2.1 dX7_ofSong_57 rfl (lv_at hl 0 rfl) ?_
      refine ag_get hC hT G (k_sg (vlt hn2)) (e_sg (vlt hn2)) k_X5 i_N_X7_ofSong_X5 1 (by decide) (wm 5 rfl) rfl dX7_ofSong_58 ?_
      exact ag_iret hC hr hlocks G h dX7_ofSong_61
    · replace h := h.2 c4
      rcases Decidable.em (a2 = 2) with c5 | c5
      · replace h := h.1 c5
        refine lv_tableIn (off := 50) (tgt := 62) hC.1 hC.2.1 dX7_ofSong_12 (by rw [c5]; decide) (by rw [c5]; decide) (by rw [c5]; rfl) (by decide) ?_
        refine lv_aload_n hC.1 hC.2.1 dX7_ofSong_62 rfl (lv_at hl 0 rfl) ?_
        refine ag_get hC hT G (k_sg (vlt hn2)) (e_sg (vlt hn2)) k_X5 i_N_X7_ofSong_X5 2 (by decide) (wm 6 rfl) rfl dX7_ofSong_63 ?_
        exact ag_iret hC hr hlocks G h dX7_ofSong_66
      · replace h := h.2 c5
        rcases Decidable.em (a2 = 3) with c6 | c6
        · replace h := h.1 c6
          refine lv_tableIn (off := 55) (tgt := 67) hC.1 hC.2.1 dX7_ofSong_12 (by rw [c6]; decide) (by rw [c6]; decide) (by rw [c6]; rfl) (by decide) ?_
          refine lv_aload_n hC.1 hC.2.1 dX7_ofSong_67 rfl (lv_at hl 0 rfl) ?_
          refine ag_get hC hT G (k_sg (vlt hn2)) (e_sg (vlt hn2)) k_X5 i_N_X7_ofSong_X5 3 (by decide) (wm 7 rfl) rfl dX7_ofSong_68 ?_
          exact ag_iret hC hr hlocks G h dX7_ofSong_71
        · replace h := h.2 c6
          rcases Decidable.em (a2 = 4) with c9 | c9
          · replace h := h.1 c9
            refine lv_tableIn (off := 60) (tgt := 72) hC.1 hC.2.1 dX7_ofSong_12 (by rw [c9]; decide) (by rw [c9]; decide) (by rw [c9]; rfl) (by decide) ?_
            refine lv_aload_n hC.1 hC.2.1 dX7_ofSong_72 rfl (lv_at hl 1 rfl) ?_
            refine lv_aload_n hC.1 hC.2.1 dX7_ofSong_73 rfl (lv_at hl 0 rfl) ?_
            refine ag_i G (ag_runV (As := [.ref (lay (39 + (Int32.toNatClampNeg a1)))]) (rest := []) hC hT G (c_X7_shareOf l D cy lay h (vlt hn2) _) (cwV 1 hC.2.2.2.2 gX7_ofSong_X7_shareOf rfl rfl rfl hdV_X7_shareOf ⟨Nat.le_of_ble_eq_true rfl, Nat.le_of_ble_eq_true rfl⟩) (ag_recv hT G (by decide) e_ag k_X7) rfl hl.1 rfl (Nat.le_of_ble_eq_true rfl) dX7_ofSong_74 ⟨Nat.le_of_ble_eq_true rfl, Nat.le_of_ble_eq_true rfl⟩) (fun r8 σ7 H locs h G => ?_)
            (try dsimp only at h)
            exact ag_iret hC hr hlocks G h dX7_ofSong_77
          · replace h := h.2 c9
            rcases Decidable.em (a2 = 5) with c12 | c12
            · replace h := h.1 c12
              refine lv_tableIn (off := 66) (tgt := 78) hC.1 hC.2.1 dX7_ofSong_12 (by rw [c12]; decide) (by rw [c12]; decide) (by rw [c12]; rfl) (by decide) ?_
              refine lv_aload_n hC.1 hC.2.1 dX7_ofSong_78 rfl (lv_at hl 1 rfl) ?_
              refine lv_iload_n hC.1 hC.2.1 dX7_ofSong_79 rfl (lv_at hl 2 rfl) ?_
              refine ag_i G (ag_runV (As := [.int a1]) (rest := []) hC hT G (c_X7_countKnowing l D cy lay h _) (cwV 1 hC.2.2.2.2 gX7_ofSong_X7_countKnowing rfl rfl rfl hdV_X7_countKnowing ⟨Nat.le_of_ble_eq_true rfl, Nat.le_of_ble_eq_true rfl⟩) (ag_recv hT G (by decide) e_ag k_X7) rfl hl.1 rfl (Nat.le_of_ble_eq_true rfl) dX7_ofSong_80 ⟨Nat.le_of_ble_eq_true rfl, Nat.le_of_ble_eq_true rfl⟩) (fun r11 σ10 H locs h G => ?_)
              (try dsimp only at h)
              exact ag_iret hC hr hlocks G h dX7_ofSong_83
            · replace h := h.2 c12
              refine lv_tableOut (tgt := 84) hC.1 hC.2.1 dX7_ofSong_12 (tsw_out 6 rfl (by decide) (fun k hk => by rcases (show k = 0 ∨ k = 1 ∨ k = 2 ∨ k = 3 ∨ k = 4 ∨ k = 5 by omega) with rfl | rfl | rfl | rfl | rfl | rfl <;> assumption)) (by decide) ?_
              exact h.elim
theorem hdV_X7_ofSong : yX7_ofSong.cls = RX7 ∧ yX7_ofSong.cls ≠ "java/lang/invoke/MethodHandle" ∧ yX7_ofSong.cls ≠ "java/lang/invoke/VarHandle" ∧ (parseMethodDescriptor yX7_ofSong.desc).map (fun d => d.parameters.length) = some 2 := by decide +kernel
