abbrev rm_X7_loseThoseWhoWaited : Room := { frames := 0, cells := 0, slots := 0, locals := 0 }
theorem i_X7_loseThoseWhoWaited_X7 : ∀ w ∈ wsX70, w ∈ wsX7_loseThoseWhoWaited := fun _ h => List.mem_cons_of_mem _ (List.mem_append_left _ (List.mem_append_right _ h))
theorem i_X7_loseThoseWhoWaited_X6 : ∀ w ∈ wsX60, w ∈ wsX7_loseThoseWhoWaited := fun _ h => List.mem_cons_of_mem _ (List.mem_append_right _ h)
def u_X7_loseThoseWhoWaited_2 (post : MS → Prop) : Nat → MS → Int32 → Prop
  | 0, _, _ => False
  | n + 1, σ, v1 => (((σ 0 8) ≤ v1 → post σ) ∧ (¬ (σ 0 8) ≤ v1 → (vp_in v1 14 ∧ (((σ (73 + (Int32.toNatClampNeg v1)) 7) = 0 → (vp_in v1 14 ∧ (((σ 0 9) < ((σ (73 + (Int32.toNatClampNeg v1)) 6) + 5) → u_X7_loseThoseWhoWaited_2 post n σ (v1 + 1)) ∧ (¬ (σ 0 9) < ((σ (73 + (Int32.toNatClampNeg v1)) 6) + 5) → (vp_in v1 14 ∧ u_X7_loseThoseWhoWaited_2 post n (up2 σ (73 + (Int32.toNatClampNeg v1)) 7 3) (v1 + 1)))))) ∧ (¬ (σ (73 + (Int32.toNatClampNeg v1)) 7) = 0 → u_X7_loseThoseWhoWaited_2 post n σ (v1 + 1))))))
set_option maxHeartbeats 4000000 in
set_option maxRecDepth 100000 in
theorem l_X7_loseThoseWhoWaited_2 {p : Program} {l : Launch} {e : Env} {s : State} {m : MethodId} {args : Array Value} {below : List Frame} {meth : Method} {c : Code} {D : va_G} {cy : Nat → ClassId} {lay : Nat → Nat} {post : MS → Prop} (hC : CallFix p m c cX7_loseThoseWhoWaited 2 s args wsX7_loseThoseWhoWaited RX7) (hr : meth.sig.returnType = none) (hlocks : meth.locks = false) (hT : agT D cy lay s) : ∀ (n : Nat), ∀ (σ : MS) (v1 : Int32), u_X7_loseThoseWhoWaited_2 post n σ v1 → ∀ (H : Heap) (locs : List Loc) (ls : Array Slot), agG D cy lay σ (agA lay s.heap.size) s.heap H locs → lv_has ls 2 [(0, .ref (lay 0)), (1, .int v1)] → W p l e rm_X7_loseThoseWhoWaited s m args below meth c H locs 0 0 (MQ below (va_Qv post (agO D cy lay) (agA lay s.heap.size)) args s 0 0 (agA lay s.heap.size)) (F0 m 2 ls []) := by
  intro n
  induction n with
  | zero =>
    intro σ v1 h
    exact h.elim
  | succ n ih =>
    intro σ v1 h H locs ls G hl
    rw [u_X7_loseThoseWhoWaited_2] at h
    refine lv_iload_n hC.1 hC.2.1 dX7_loseThoseWhoWaited_2 rfl (lv_at hl 1 rfl) ?_
    refine lv_aload_n hC.1 hC.2.1 dX7_loseThoseWhoWaited_3 rfl (lv_at hl 0 rfl) ?_
    refine ag_get hC hT G (by decide) e_ag k_X7 i_X7_loseThoseWhoWaited_X7 8 (by decide) (wm 1 rfl) rfl dX7_loseThoseWhoWaited_4 ?_
    refine lv_icmp_ge (tgt := 56) hC.1 hC.2.1 dX7_loseThoseWhoWaited_7 (by decide) (fun c1 => ?_) (fun c1 => ?_)
    · replace h := h.1 c1
      exact ag_vret hC hr hlocks G h dX7_loseThoseWhoWaited_56
    · replace h := h.2 c1
      refine lv_aload_n hC.1 hC.2.1 dX7_loseThoseWhoWaited_10 rfl (lv_at hl 0 rfl) ?_
      refine ag_get hC hT G (by decide) e_ag k_X7 i_X7_loseThoseWhoWaited_X7 3 (by decide) (wm 2 rfl) rfl dX7_loseThoseWhoWaited_11 ?_
      refine lv_iload_n hC.1 hC.2.1 dX7_loseThoseWhoWaited_14 rfl (lv_at hl 1 rfl) ?_
      obtain ⟨hn2, h⟩ := h
      refine ag_aald hC hT G (by decide) _ rfl e_wds hn2 dX7_loseThoseWhoWaited_15 ?_
      refine ag_get hC hT G (k_wd (vlt hn2)) (e_wd (vlt hn2)) k_X6 i_X7_loseThoseWhoWaited_X6 7 (by decide) (wm 3 rfl) rfl dX7_loseThoseWhoWaited_16 ?_
      refine lv_if_ne (tgt := 50) hC.1 hC.2.1 dX7_loseThoseWhoWaited_19 (by decide) (fun c3 => ?_) (fun c3 => ?_)
      · replace h := h.2 c3
        refine lv_iinc (v := v1 + 1) (lv' := [(1, .int (v1 + 1)), (0, .ref (lay 0))]) hC.1 hC.2.1 dX7_loseThoseWhoWaited_50 hl (k := 1) rfl rfl (by decide) rfl (fun ls hl => ?_)
        refine lv_goto (tgt := 2) hC.1 hC.2.1 dX7_loseThoseWhoWaited_53 (by decide) ?_
        exact ih _ _ h _ _ _ G (lv_sub hl [1, 0] rfl)
      · replace h := h.1 c3
        refine lv_aload_n hC.1 hC.2.1 dX7_loseThoseWhoWaited_22 rfl (lv_at hl 0 rfl) ?_
        refine ag_get hC hT G (by decide) e_ag k_X7 i_X7_loseThoseWhoWaited_X7 3 (by decide) (wm 2 rfl) rfl dX7_loseThoseWhoWaited_23 ?_
        refine lv_iload_n hC.1 hC.2.1 dX7_loseThoseWhoWaited_26 rfl (lv_at hl 1 rfl) ?_
        obtain ⟨hn4, h⟩ := h
        refine ag_aald hC hT G (by decide) _ rfl e_wds hn4 dX7_loseThoseWhoWaited_27 ?_
        refine ag_get hC hT G (k_wd (vlt hn4)) (e_wd (vlt hn4)) k_X6 i_X7_loseThoseWhoWaited_X6 6 (by decide) (wm 4 rfl) rfl dX7_loseThoseWhoWaited_28 ?_
        refine lv_iconst (v := 5) hC.1 hC.2.1 dX7_loseThoseWhoWaited_31 (by decide) ?_
        refine lv_iadd hC.1 hC.2.1 dX7_loseThoseWhoWaited_32 ?_
        refine lv_aload_n hC.1 hC.2.1 dX7_loseThoseWhoWaited_33 rfl (lv_at hl 0 rfl) ?_
        refine ag_get hC hT G (by decide) e_ag k_X7 i_X7_loseThoseWhoWaited_X7 9 (by decide) (wm 5 rfl) rfl dX7_loseThoseWhoWaited_34 ?_
        refine lv_icmp_gt (tgt := 50) hC.1 hC.2.1 dX7_loseThoseWhoWaited_37 (by decide) (fun c5 => ?_) (fun c5 => ?_)
        · replace h := h.1 c5
          refine lv_iinc (v := v1 + 1) (lv' := [(1, .int (v1 + 1)), (0, .ref (lay 0))]) hC.1 hC.2.1 dX7_loseThoseWhoWaited_50 hl (k := 1) rfl rfl (by decide) rfl (fun ls hl => ?_)
          refine lv_goto (tgt := 2) hC.1 hC.2.1 dX7_loseThoseWhoWaited_53 (by decide) ?_
          exact ih _ _ h _ _ _ G (lv_sub hl [1, 0] rfl)
        · replace h := h.2 c5
          refine lv_aload_n hC.1 hC.2.1 dX7_loseThoseWhoWaited_40 rfl (lv_at hl 0 rfl) ?_
          refine ag_get hC hT G (by decide) e_ag k_X7 i_X7_loseThoseWhoWaited_X7 3 (by decide) (wm 2 rfl) rfl dX7_loseThoseWhoWaited_41 ?_
          refine lv_iload_n hC.1 hC.2.1 dX7_loseThoseWhoWaited_44 rfl (lv_at hl 1 rfl) ?_
          obtain ⟨hn6, h⟩ := h
          refine ag_aald hC hT G (by decide) _ rfl e_wds hn6 dX7_loseThoseWhoWaited_45 ?_
          refine lv_iconst (v := 3) hC.1 hC.2.1 dX7_loseThoseWhoWaited_46 (by decide) ?_
          refine ag_put hC hT G (k_wd (vlt hn6)) (e_wd (vlt hn6)) k_X6 i_X7_loseThoseWhoWaited_X6 7 (by decide) (wm 3 rfl) rfl rfl (by simp) (e_wd (vlt hn6)) rfl dX7_loseThoseWhoWaited_47 (fun H locs G => ?_)
          refine lv_iinc (v := v1 + 1) (lv' := [(1, .int (v1 + 1)), (0, .ref (lay 0))]) hC.1 hC.2.1 dX7_loseThoseWhoWaited_50 hl (k := 1) rfl rfl (by decide) rfl (fun ls hl => ?_)
          refine lv_goto (tgt := 2) hC.1 hC.2.1 dX7_loseThoseWhoWaited_53 (by decide) ?_
          exact ih _ _ h _ _ _ G (lv_sub hl [1, 0] rfl)
def w_X7_loseThoseWhoWaited (post : MS → Prop) (σ : MS) : Prop := (∃ k, u_X7_loseThoseWhoWaited_2 post k σ 0)
set_option maxHeartbeats 4000000 in
set_option maxRecDepth 100000 in
theorem c_X7_loseThoseWhoWaited (l : Launch) (D : va_G) (cy : Nat → ClassId) (lay : Nat → Nat) {σ : MS} {post : MS → Prop} (h : w_X7_loseThoseWhoWaited post σ) (sz : Nat) : Met l yX7_loseThoseWhoWaited wsX7_loseThoseWhoWaited rm_X7_loseThoseWhoWaited (va_Pc [.ref (lay 0)] (agI D cy lay σ sz)) (va_Qv post (agO D cy lay) (agA lay sz)) 0 0 (agA lay sz) := by
  refine ag_ofW (cc := cX7_loseThoseWhoWaited) (maxL := 2) (ret := none) (own := RX7) (Qc := fun sz => va_Qv post (agO D cy lay) (agA lay sz)) (by decide) rfl (Nat.le_of_ble_eq_true rfl) rfl ?_
  intro p e s m args below meth c ls hC hr hlocks hT G hl
  unfold w_X7_loseThoseWhoWaited at h
  have hl : lv_has ls 2 [(0, .ref (lay 0))] := hl
  refine lv_iconst (v := 0) hC.1 hC.2.1 dX7_loseThoseWhoWaited_0 (by decide) ?_
  refine lv_istore_n (lv' := [(1, .int 0), (0, .ref (lay 0))]) hC.1 hC.2.1 dX7_loseThoseWhoWaited_1 rfl hl (by decide) rfl (fun ls hl => ?_)
  obtain ⟨n1, h⟩ := h
  exact l_X7_loseThoseWhoWaited_2 hC hr hlocks hT n1 _ _ h _ _ _ G (lv_sub hl [1, 0] rfl)
theorem hdV_X7_loseThoseWhoWaited : yX7_loseThoseWhoWaited.cls = RX7 ∧ yX7_loseThoseWhoWaited.cls ≠ "java/lang/invoke/MethodHandle" ∧ yX7_loseThoseWhoWaited.cls ≠ "java/lang/invoke/VarHandle" ∧ (parseMethodDescriptor yX7_loseThoseWhoWaited.desc).map (fun d => d.parameters.length) = some 0 := by decide +kernel
abbrev rm_N_X7_checkTown : Room := { frames := 1, cells := 0, slots := 0, locals := 20 }
def w_N_X7_checkTown (post : MS → Prop) (σ : MS) (a0 : Int32) : Prop := w_X7_isTown (fun r2 σ1 => ((r2 = 0 → False) ∧ (¬ r2 = 0 → post σ1))) σ a0
set_option maxHeartbeats 4000000 in
set_option maxRecDepth 100000 in
theorem c_N_X7_checkTown (l : Launch) (D : va_G) (cy : Nat → ClassId) (lay : Nat → Nat) {σ : MS} {post : MS → Prop} {a0 : Int32} (h : w_N_X7_checkTown post σ a0) (sz : Nat) : Met l yX7_checkTown wsX7_checkTown rm_N_X7_checkTown (va_Pc [.int a0] (agI D cy lay σ sz)) (va_Qv post (agO D cy lay) (agA lay sz)) 0 0 (agA lay sz) := by
  refine ag_ofW (cc := cX7_checkTown) (maxL := 1) (ret := none) (own := RX7) (Qc := fun sz => va_Qv post (agO D cy lay) (agA lay sz)) (by decide) rfl (Nat.le_of_ble_eq_true rfl) rfl ?_
  intro p e s m args below meth c ls hC hr hlocks hT G hl
  unfold w_N_X7_checkTown at h
  have hl : lv_has ls 1 [(0, .int a0)] := hl
  refine lv_iload_n hC.1 hC.2.1 dX7_checkTown_0 rfl (lv_at hl 0 rfl) ?_
  refine ag_i G (ag_runS (As := [.int a0]) (rest := []) hC hT G (c_X7_isTown l D cy lay h _) (va_cwS 1 hC.2.2.2.2 gX7_checkTown_X7_isTown rfl rfl rfl hdS_X7_isTown ⟨Nat.le_of_ble_eq_true rfl, Nat.le_of_ble_eq_true rfl⟩) rfl hl.1 rfl (Nat.le_of_ble_eq_true rfl) dX7_checkTown_1 ⟨Nat.le_of_ble_eq_true rfl, Nat.le_of_ble_eq_true rfl⟩) (fun r2 σ1 H locs h G => ?_)
  (try dsimp only at h)
  refine lv_if_ne (tgt := 17) hC.1 hC.2.1 dX7_checkTown_4 (by decide) (fun c3 => ?_) (fun c3 => ?_)
  · replace h := h.2 c3
    exact ag_vret hC hr hlocks G h dX7_checkTown_17
  · replace h := h.1 c3
    exact h.elim
theorem hdS_X7_checkTown : yX7_checkTown.cls ≠ "java/lang/invoke/MethodHandle" ∧ yX7_checkTown.cls ≠ "java/lang/invoke/VarHandle" ∧ (parseMethodDescriptor yX7_checkTown.desc).map (fun d => d.parameters.length) = some 1 := by decide +kernel
abbrev rm_N_X7_checkSong : Room := { frames := 0, cells := 0, slots := 0, locals := 0 }
def u_N_X7_checkSong_10 (post : MS → Prop) (a0 : Int32) (σ : MS) : Prop := False
set_option maxHeartbeats 4000000 in
set_option maxRecDepth 100000 in
theorem l_N_X7_checkSong_10 {p : Program} {l : Launch} {e : Env} {s : State} {m : MethodId} {args : Array Value} {below : List Frame} {meth : Method} {c : Code} {D : va_G} {cy : Nat → ClassId} {lay : Nat → Nat} {post : MS → Prop} (a0 : Int32) (hC : CallFix p m c cX7_checkSong 1 s args wsX7_checkSong RX7) (hr : meth.sig.returnType = none) (hlocks : meth.locks = false) (hT : agT D cy lay s) : ∀ (σ : MS), u_N_X7_checkSong_10 post a0 σ → ∀ (H : Heap) (locs : List Loc) (ls : Array Slot), agG D cy lay σ (agA lay s.heap.size) s.heap H locs → lv_has ls 1 [(0, .int a0)] → W p l e rm_N_X7_checkSong s m args below meth c H locs 0 0 (MQ below (va_Qv post (agO D cy lay) (agA lay s.heap.size)) args s 0 0 (agA lay s.heap.size)) (F0 m 10 ls []) := by
  intro σ h H locs ls G hl
  unfold u_N_X7_checkSong_10 at h
  exact h.elim
def w_N_X7_checkSong (post : MS → Prop) (σ : MS) (a0 : Int32) : Prop := ((a0 < 0 → u_N_X7_checkSong_10 post a0 σ) ∧ (¬ a0 < 0 → ((a0 < 16 → post σ) ∧ (¬ a0 < 16 → u_N_X7_checkSong_10 post a0 σ))))
set_option maxHeartbeats 4000000 in
set_option maxRecDepth 100000 in
theorem c_N_X7_checkSong (l : Launch) (D : va_G) (cy : Nat → ClassId) (lay : Nat → Nat) {σ : MS} {post : MS → Prop} {a0 : Int32} (h : w_N_X7_checkSong post σ a0) (sz : Nat) : Met l yX7_checkSong wsX7_checkSong rm_N_X7_checkSong (va_Pc [.int a0] (agI D cy lay σ sz)) (va_Qv post (agO D cy lay) (agA lay sz)) 0 0 (agA lay sz) := by
  refine ag_ofW (cc := cX7_checkSong) (maxL := 1) (ret := none) (own := RX7) (Qc := fun sz => va_Qv post (agO D cy lay) (agA lay sz)) (by decide) rfl (Nat.le_of_ble_eq_true rfl) rfl ?_
  intro p e s m args below meth c ls hC hr hlocks hT G hl
  unfold w_N_X7_checkSong at h
  have hl : lv_has ls 1 [(0, .int a0)] := hl
  refine lv_iload_n hC.1 hC.2.1 dX7_checkSong_0 rfl (lv_at hl 0 rfl) ?_
  refine lv_if_lt (tgt := 10) hC.1 hC.2.1 dX7_checkSong_1 (by decide) (fun c1 => ?_) (fun c1 => ?_)
  · replace h := h.1 c1
    exact l_N_X7_checkSong_10 a0 hC hr hlocks hT _ h _ _ _ G (lv_sub hl [0] rfl)
  · replace h := h.2 c1
    refine lv_iload_n hC.1 hC.2.1 dX7_checkSong_4 rfl (lv_at hl 0 rfl) ?_
    refine lv_bipush (v := 16) hC.1 hC.2.1 dX7_checkSong_5 (by decide) ?_
    refine lv_icmp_lt (tgt := 21) hC.1 hC.2.1 dX7_checkSong_7 (by decide) (fun c2 => ?_) (fun c2 => ?_)
    · replace h := h.1 c2
      exact ag_vret hC hr hlocks G h dX7_checkSong_21
    · replace h := h.2 c2
      exact l_N_X7_checkSong_10 a0 hC hr hlocks hT _ h _ _ _ G (lv_sub hl [0] rfl)
theorem hdS_X7_checkSong : yX7_checkSong.cls ≠ "java/lang/invoke/MethodHandle" ∧ yX7_checkSong.cls ≠ "java/lang/invoke/VarHandle" ∧ (parseMethodDescriptor yX7_checkSong.desc).map (fun d => d.parameters.length) = some 1 := by decide +kernel
abbrev rm_N_X7_checkPlayer : Room := { frames := 0, cells := 0, slots := 0, locals := 0 }
theorem i_N_X7_checkPlayer_X7 : ∀ w ∈ wsX70, w ∈ wsX7_checkPlayer := fun _ h => List.mem_cons_of_mem _ (List.mem_append_left _ (List.mem_append_right _ h))
def u_N_X7_checkPlayer_12 (post : MS → Prop) (a1 : Int32) (σ : MS) : Prop := False
set_option maxHeartbeats 4000000 in
set_option maxRecDepth 100000 in
theorem l_N_X7_checkPlayer_12 {p : Program} {l : Launch} {e : Env} {s : State} {m : MethodId} {args : Array Value} {below : List Frame} {meth : Method} {c : Code} {D : va_G} {cy : Nat → ClassId} {lay : Nat → Nat} {post : MS → Prop} (a1 : Int32) (hC : CallFix p m c cX7_checkPlayer 2 s args wsX7_checkPlayer RX7) (hr : meth.sig.returnType = none) (hlocks : meth.locks = false) (hT : agT D cy lay s) : ∀ (σ : MS), u_N_X7_checkPlayer_12 post a1 σ → ∀ (H : Heap) (locs : List Loc) (ls : Array Slot), agG D cy lay σ (agA lay s.heap.size) s.heap H locs → lv_has ls 2 [(0, .ref (lay 0)), (1, .int a1)] → W p l e rm_N_X7_checkPlayer s m args below meth c H locs 0 0 (MQ below (va_Qv post (agO D cy lay) (agA lay s.heap.size)) args s 0 0 (agA lay s.heap.size)) (F0 m 12 ls []) := by
  intro σ h H locs ls G hl
  unfold u_N_X7_checkPlayer_12 at h
  exact h.elim
def w_N_X7_checkPlayer (post : MS → Prop) (σ : MS) (a1 : Int32) : Prop := ((a1 < 0 → u_N_X7_checkPlayer_12 post a1 σ) ∧ (¬ a1 < 0 → ((a1 < (σ 0 6) → post σ) ∧ (¬ a1 < (σ 0 6) → u_N_X7_checkPlayer_12 post a1 σ))))
set_option maxHeartbeats 4000000 in
set_option maxRecDepth 100000 in
theorem c_N_X7_checkPlayer (l : Launch) (D : va_G) (cy : Nat → ClassId) (lay : Nat → Nat) {σ : MS} {post : MS → Prop} {a1 : Int32} (h : w_N_X7_checkPlayer post σ a1) (sz : Nat) : Met l yX7_checkPlayer wsX7_checkPlayer rm_N_X7_checkPlayer (va_Pc [.ref (lay 0), .int a1] (agI D cy lay σ sz)) (va_Qv post (agO D cy lay) (agA lay sz)) 0 0 (agA lay sz) := by
  refine ag_ofW (cc := cX7_checkPlayer) (maxL := 2) (ret := none) (own := RX7) (Qc := fun sz => va_Qv post (agO D cy lay) (agA lay sz)) (by decide) rfl (Nat.le_of_ble_eq_true rfl) rfl ?_
  intro p e s m args below meth c ls hC hr hlocks hT G hl
  unfold w_N_X7_checkPlayer at h
  have hl : lv_has ls 2 [(0, .ref (lay 0)), (1, .int a1)] := hl
  refine lv_iload_n hC.1 hC.2.1 dX7_checkPlayer_0 rfl (lv_at hl 1 rfl) ?_
  refine lv_if_lt (tgt := 12) hC.1 hC.2.1 dX7_checkPlayer_1 (by decide) (fun c1 => ?_) (fun c1 => ?_)
  · replace h := h.1 c1
    exact l_N_X7_checkPlayer_12 a1 hC hr hlocks hT _ h _ _ _ G (lv_sub hl [0, 1] rfl)
  · replace h := h.2 c1
    refine lv_iload_n hC.1 hC.2.1 dX7_checkPlayer_4 rfl (lv_at hl 1 rfl) ?_
    refine lv_aload_n hC.1 hC.2.1 dX7_checkPlayer_5 rfl (lv_at hl 0 rfl) ?_
    refine ag_get hC hT G (by decide) e_ag k_X7 i_N_X7_checkPlayer_X7 6 (by decide) (wm 3 rfl) rfl dX7_checkPlayer_6 ?_
    refine lv_icmp_lt (tgt := 23) hC.1 hC.2.1 dX7_checkPlayer_9 (by decide) (fun c2 => ?_) (fun c2 => ?_)
    · replace h := h.1 c2
      exact ag_vret hC hr hlocks G h dX7_checkPlayer_23
    · replace h := h.2 c2
      exact l_N_X7_checkPlayer_12 a1 hC hr hlocks hT _ h _ _ _ G (lv_sub hl [0, 1] rfl)
theorem hdV_X7_checkPlayer : yX7_checkPlayer.cls = RX7 ∧ yX7_checkPlayer.cls ≠ "java/lang/invoke/MethodHandle" ∧ yX7_checkPlayer.cls ≠ "java/lang/invoke/VarHandle" ∧ (parseMethodDescriptor yX7_checkPlayer.desc).map (fun d => d.parameters.length) = some 1 := by decide +kernel
abbrev rm_N_X7_checkBand : Room := { frames := 0, cells := 0, slots := 0, locals := 0 }
theorem i_N_X7_checkBand_X7 : ∀ w ∈ wsX70, w ∈ wsX7_checkBand := fun _ h => List.mem_cons_of_mem _ (List.mem_append_left _ (List.mem_append_right _ h))
def u_N_X7_checkBand_12 (post : MS → Prop) (a1 : Int32) (σ : MS) : Prop := False
set_option maxHeartbeats 4000000 in
set_option maxRecDepth 100000 in
theorem l_N_X7_checkBand_12 {p : Program} {l : Launch} {e : Env} {s : State} {m : MethodId} {args : Array Value} {below : List Frame} {meth : Method} {c : Code} {D : va_G} {cy : Nat → ClassId} {lay : Nat → Nat} {post : MS → Prop} (a1 : Int32) (hC : CallFix p m c cX7_checkBand 2 s args wsX7_checkBand RX7) (hr : meth.sig.returnType = none) (hlocks : meth.locks = false) (hT : agT D cy lay s) : ∀ (σ : MS), u_N_X7_checkBand_12 post a1 σ → ∀ (H : Heap) (locs : List Loc) (ls : Array Slot), agG D cy lay σ (agA lay s.heap.size) s.heap H locs → lv_has ls 2 [(0, .ref (lay 0)), (1, .int a1)] → W p l e rm_N_X7_checkBand s m args below meth c H locs 0 0 (MQ below (va_Qv post (agO D cy lay) (agA lay s.heap.size)) args s 0 0 (agA lay s.heap.size)) (F0 m 12 ls []) := by
  intro σ h H locs ls G hl
  unfold u_N_X7_checkBand_12 at h
  exact h.elim
def w_N_X7_checkBand (post : MS → Prop) (σ : MS) (a1 : Int32) : Prop := ((a1 < 0 → u_N_X7_checkBand_12 post a1 σ) ∧ (¬ a1 < 0 → ((a1 < (σ 0 7) → post σ) ∧ (¬ a1 < (σ 0 7) → u_N_X7_checkBand_12 post a1 σ))))
set_option maxHeartbeats 4000000 in
set_option maxRecDepth 100000 in
theorem c_N_X7_checkBand (l : Launch) (D : va_G) (cy : Nat → ClassId) (lay : Nat → Nat) {σ : MS} {post : MS → Prop} {a1 : Int32} (h : w_N_X7_checkBand post σ a1) (sz : Nat) : Met l yX7_checkBand wsX7_checkBand rm_N_X7_checkBand (va_Pc [.ref (lay 0), .int a1] (agI D cy lay σ sz)) (va_Qv post (agO D cy lay) (agA lay sz)) 0 0 (agA lay sz) := by
  refine ag_ofW (cc := cX7_checkBand) (maxL := 2) (ret := none) (own := RX7) (Qc := fun sz => va_Qv post (agO D cy lay) (agA lay sz)) (by decide) rfl (Nat.le_of_ble_eq_true rfl) rfl ?_
  intro p e s m args below meth c ls hC hr hlocks hT G hl
  unfold w_N_X7_checkBand at h
  have hl : lv_has ls 2 [(0, .ref (lay 0)), (1, .int a1)] := hl
  refine lv_iload_n hC.1 hC.2.1 dX7_checkBand_0 rfl (lv_at hl 1 rfl) ?_
  refine lv_if_lt (tgt := 12) hC.1 hC.2.1 dX7_checkBand_1 (by decide) (fun c1 => ?_) (fun c1 => ?_)
  · replace h := h.1 c1
    exact l_N_X7_checkBand_12 a1 hC hr hlocks hT _ h _ _ _ G (lv_sub hl [0, 1] rfl)
  · replace h := h.2 c1
    refine lv_iload_n hC.1 hC.2.1 dX7_checkBand_4 rfl (lv_at hl 1 rfl) ?_
    refine lv_aload_n hC.1 hC.2.1 dX7_checkBand_5 rfl (lv_at hl 0 rfl) ?_
    refine ag_get hC hT G (by decide) e_ag k_X7 i_N_X7_checkBand_X7 7 (by decide) (wm 3 rfl) rfl dX7_checkBand_6 ?_
    refine lv_icmp_lt (tgt := 23) hC.1 hC.2.1 dX7_checkBand_9 (by decide) (fun c2 => ?_) (fun c2 => ?_)
    · replace h := h.1 c2
      exact ag_vret hC hr hlocks G h dX7_checkBand_23
    · replace h := h.2 c2
      exact l_N_X7_checkBand_12 a1 hC hr hlocks hT _ h _ _ _ G (lv_sub hl [0, 1] rfl)
theorem hdV_X7_checkBand : yX7_checkBand.cls = RX7 ∧ yX7_checkBand.cls ≠ "java/lang/invoke/MethodHandle" ∧ yX7_checkBand.cls ≠ "java/lang/invoke/VarHandle" ∧ (parseMethodDescriptor yX7_checkBand.desc).map (fun d => d.parameters.length) = some 1 := by decide +kernel
abbrev rm_N_X7_checkWedding : Room := { frames := 0, cells := 0, slots := 0, locals := 0 }
theorem i_N_X7_checkWedding_X7 : ∀ w ∈ wsX70, w ∈ wsX7_checkWedding := fun _ h => List.mem_cons_of_mem _ (List.mem_append_left _ (List.mem_append_right _ h))
def u_N_X7_checkWedding_12 (post : MS → Prop) (a1 : Int32) (σ : MS) : Prop := False
set_option maxHeartbeats 4000000 in
set_option maxRecDepth 100000 in
theorem l_N_X7_checkWedding_12 {p : Program} {l : Launch} {e : Env} {s : State} {m : MethodId} {args : Array Value} {below : List Frame} {meth : Method} {c : Code} {D : va_G} {cy : Nat → ClassId} {lay : Nat → Nat} {post : MS → Prop} (a1 : Int32) (hC : CallFix p m c cX7_checkWedding 2 s args wsX7_checkWedding RX7) (hr : meth.sig.returnType = none) (hlocks : meth.locks = false) (hT : agT D cy lay s) : ∀ (σ : MS), u_N_X7_checkWedding_12 post a1 σ → ∀ (H : Heap) (locs : List Loc) (ls : Array Slot), agG D cy lay σ (agA lay s.heap.size) s.heap H locs → lv_has ls 2 [(0, .ref (lay 0)), (1, .int a1)] → W p l e rm_N_X7_checkWedding s m args below meth c H locs 0 0 (MQ below (va_Qv post (agO D cy lay) (agA lay s.heap.size)) args s 0 0 (agA lay s.heap.size)) (F0 m 12 ls []) := by
  intro σ h H locs ls G hl
  unfold u_N_X7_checkWedding_12 at h
  exact h.elim
def w_N_X7_checkWedding (post : MS → Prop) (σ : MS) (a1 : Int32) : Prop := ((a1 < 0 → u_N_X7_checkWedding_12 post a1 σ) ∧ (¬ a1 < 0 → ((a1 < (σ 0 8) → post σ) ∧ (¬ a1 < (σ 0 8) → u_N_X7_checkWedding_12 post a1 σ))))
set_option maxHeartbeats 4000000 in
set_option maxRecDepth 100000 in
theorem c_N_X7_checkWedding (l : Launch) (D : va_G) (cy : Nat → ClassId) (lay : Nat → Nat) {σ : MS} {post : MS → Prop} {a1 : Int32} (h : w_N_X7_checkWedding post σ a1) (sz : Nat) : Met l yX7_checkWedding wsX7_checkWedding rm_N_X7_checkWedding (va_Pc [.ref (lay 0), .int a1] (agI D cy lay σ sz)) (va_Qv post (agO D cy lay) (agA lay sz)) 0 0 (agA lay sz) := by
  refine ag_ofW (cc := cX7_checkWedding) (maxL := 2) (ret := none) (own := RX7) (Qc := fun sz => va_Qv post (agO D cy lay) (agA lay sz)) (by decide) rfl (Nat.le_of_ble_eq_true rfl) rfl ?_
  intro p e s m args below meth c ls hC hr hlocks hT G hl
  unfold w_N_X7_checkWedding at h
  have hl : lv_has ls 2 [(0, .ref (lay 0)), (1, .int a1)] := hl
  refine lv_iload_n hC.1 hC.2.1 dX7_checkWedding_0 rfl (lv_at hl 1 rfl) ?_
  refine lv_if_lt (tgt := 12) hC.1 hC.2.1 dX7_checkWedding_1 (by decide) (fun c1 => ?_) (fun c1 => ?_)
  · replace h := h.1 c1
    exact l_N_X7_checkWedding_12 a1 hC hr hlocks hT _ h _ _ _ G (lv_sub hl [0, 1] rfl)
  · replace h := h.2 c1
    refine lv_iload_n hC.1 hC.2.1 dX7_checkWedding_4 rfl (lv_at hl 1 rfl) ?_
    refine lv_aload_n hC.1 hC.2.1 dX7_checkWedding_5 rfl (lv_at hl 0 rfl) ?_
    refine ag_get hC hT G (by decide) e_ag k_X7 i_N_X7_checkWedding_X7 8 (by decide) (wm 3 rfl) rfl dX7_checkWedding_6 ?_
    refine lv_icmp_lt (tgt := 23) hC.1 hC.2.1 dX7_checkWedding_9 (by decide) (fun c2 => ?_) (fun c2 => ?_)
    · replace h := h.1 c2
      exact ag_vret hC hr hlocks G h dX7_checkWedding_23
    · replace h := h.2 c2
      exact l_N_X7_checkWedding_12 a1 hC hr hlocks hT _ h _ _ _ G (lv_sub hl [0, 1] rfl)
theorem hdV_X7_checkWedding : yX7_checkWedding.cls = RX7 ∧ yX7_checkWedding.cls ≠ "java/lang/invoke/MethodHandle" ∧ yX7_checkWedding.cls ≠ "java/lang/invoke/VarHandle" ∧ (parseMethodDescriptor yX7_checkWedding.desc).map (fun d => d.parameters.length) = some 1 := by decide +kernel
abbrev rm_N_X7_checkDayToCome : Room := { frames := 0, cells := 0, slots := 0, locals := 0 }
theorem i_N_X7_checkDayToCome_X7 : ∀ w ∈ wsX70, w ∈ wsX7_checkDayToCome := fun _ h => List.mem_cons_of_mem _ (List.mem_append_left _ (List.mem_append_right _ h))
def u_N_X7_checkDayToCome_15 (post : MS → Prop) (a1 : Int32) (σ : MS) : Prop := False
set_option maxHeartbeats 4000000 in
set_option maxRecDepth 100000 in
theorem l_N_X7_checkDayToCome_15 {p : Program} {l : Launch} {e : Env} {s : State} {m : MethodId} {args : Array Value} {below : List Frame} {meth : Method} {c : Code} {D : va_G} {cy : Nat → ClassId} {lay : Nat → Nat} {post : MS → Prop} (a1 : Int32) (hC : CallFix p m c cX7_checkDayToCome 2 s args wsX7_checkDayToCome RX7) (hr : meth.sig.returnType = none) (hlocks : meth.locks = false) (hT : agT D cy lay s) : ∀ (σ : MS), u_N_X7_checkDayToCome_15 post a1 σ → ∀ (H : Heap) (locs : List Loc) (ls : Array Slot), agG D cy lay σ (agA lay s.heap.size) s.heap H locs → lv_has ls 2 [(0, .ref (lay 0)), (1, .int a1)] → W p l e rm_N_X7_checkDayToCome s m args below meth c H locs 0 0 (MQ below (va_Qv post (agO D cy lay) (agA lay s.heap.size)) args s 0 0 (agA lay s.heap.size)) (F0 m 15 ls []) := by
  intro σ h H locs ls G hl
  unfold u_N_X7_checkDayToCome_15 at h
  exact h.elim
def w_N_X7_checkDayToCome (post : MS → Prop) (σ : MS) (a1 : Int32) : Prop := ((a1 < (σ 0 9) → u_N_X7_checkDayToCome_15 post a1 σ) ∧ (¬ a1 < (σ 0 9) → ((a1 ≤ 365 → post σ) ∧ (¬ a1 ≤ 365 → u_N_X7_checkDayToCome_15 post a1 σ))))
set_option maxHeartbeats 4000000 in
set_option maxRecDepth 100000 in
theorem c_N_X7_checkDayToCome (l : Launch) (D : va_G) (cy : Nat → ClassId) (lay : Nat → Nat) {σ : MS} {post : MS → Prop} {a1 : Int32} (h : w_N_X7_checkDayToCome post σ a1) (sz : Nat) : Met l yX7_checkDayToCome wsX7_checkDayToCome rm_N_X7_checkDayToCome (va_Pc [.ref (lay 0), .int a1] (agI D cy lay σ sz)) (va_Qv post (agO D cy lay) (agA lay sz)) 0 0 (agA lay sz) := by
  refine ag_ofW (cc := cX7_checkDayToCome) (maxL := 2) (ret := none) (own := RX7) (Qc := fun sz => va_Qv post (agO D cy lay) (agA lay sz)) (by decide) rfl (Nat.le_of_ble_eq_true rfl) rfl ?_
  intro p e s m args below meth c ls hC hr hlocks hT G hl
  unfold w_N_X7_checkDayToCome at h
  have hl : lv_has ls 2 [(0, .ref (lay 0)), (1, .int a1)] := hl
  refine lv_iload_n hC.1 hC.2.1 dX7_checkDayToCome_0 rfl (lv_at hl 1 rfl) ?_
  refine lv_aload_n hC.1 hC.2.1 dX7_checkDayToCome_1 rfl (lv_at hl 0 rfl) ?_
  refine ag_get hC hT G (by decide) e_ag k_X7 i_N_X7_checkDayToCome_X7 9 (by decide) (wm 3 rfl) rfl dX7_checkDayToCome_2 ?_
  refine lv_icmp_lt (tgt := 15) hC.1 hC.2.1 dX7_checkDayToCome_5 (by decide) (fun c1 => ?_) (fun c1 => ?_)
  · replace h := h.1 c1
    exact l_N_X7_checkDayToCome_15 a1 hC hr hlocks hT _ h _ _ _ G (lv_sub hl [0, 1] rfl)
  · replace h := h.2 c1
    refine lv_iload_n hC.1 hC.2.1 dX7_checkDayToCome_8 rfl (lv_at hl 1 rfl) ?_
    refine lv_sipush (v := 365) hC.1 hC.2.1 dX7_checkDayToCome_9 (by decide) ?_
    refine lv_icmp_le (tgt := 26) hC.1 hC.2.1 dX7_checkDayToCome_12 (by decide) (fun c2 => ?_) (fun c2 => ?_)
    · replace h := h.1 c2
      exact ag_vret hC hr hlocks G h dX7_checkDayToCome_26
    · replace h := h.2 c2
      exact l_N_X7_checkDayToCome_15 a1 hC hr hlocks hT _ h _ _ _ G (lv_sub hl [0, 1] rfl)
theorem hdV_X7_checkDayToCome : yX7_checkDayToCome.cls = RX7 ∧ yX7_checkDayToCome.cls ≠ "java/lang/invoke/MethodHandle" ∧ yX7_checkDayToCome.cls ≠ "java/lang/invoke/VarHandle" ∧ (parseMethodDescriptor yX7_checkDayToCome.desc).map (fun d => d.parameters.length) = some 1 := by decide +kernel
abbrev rm_N_X7_drive : Room := { frames := 2, cells := 0, slots := 0, locals := 40 }
theorem i_N_X7_drive_X7 : ∀ w ∈ wsX70, w ∈ wsX7_drive := fun _ h => List.mem_cons_of_mem _ (List.mem_append_left _ (List.mem_append_left _ (List.mem_append_right _ h)))
def w_N_X7_drive (post : Int32 → MS → Prop) (σ : MS) (a1 : Int32) (a2 : Int32) : Prop := w_N_X7_checkTown (fun σ1 => w_N_X7_checkTown (fun σ2 => w_X4_between (fun r4 σ3 => post r4 σ3) σ2 a1 a2) σ1 a2) σ a1
set_option maxHeartbeats 4000000 in
set_option maxRecDepth 100000 in
theorem c_N_X7_drive (l : Launch) (D : va_G) (cy : Nat → ClassId) (lay : Nat → Nat) {σ : MS} {post : Int32 → MS → Prop} {a1 : Int32} {a2 : Int32} (h : w_N_X7_drive post σ a1 a2) (sz : Nat) : Met l yX7_drive wsX7_drive rm_N_X7_drive (va_Pc [.ref (lay 0), .int a1, .int a2] (agI D cy lay σ sz)) (va_Qi post (agO D cy lay) (agA lay sz)) 0 0 (agA lay sz) := by
  refine ag_ofW (cc := cX7_drive) (maxL := 3) (ret := some .int) (own := RX7) (Qc := fun sz => va_Qi post (agO D cy lay) (agA lay sz)) (by decide) rfl (Nat.le_of_ble_eq_true rfl) rfl ?_
  intro p e s m args below meth c ls hC hr hlocks hT G hl
  unfold w_N_X7_drive at h
  have hl : lv_has ls 3 [(0, .ref (lay 0)), (1, .int a1), (2, .int a2)] := hl
  refine lv_iload_n hC.1 hC.2.1 dX7_drive_0 rfl (lv_at hl 1 rfl) ?_
  refine ag_v G (ag_runS (As := [.int a1]) (rest := []) hC hT G (c_N_X7_checkTown l D cy lay h _) (va_cwS 1 hC.2.2.2.2 gX7_drive_X7_checkTown rfl rfl rfl hdS_X7_checkTown ⟨Nat.le_of_ble_eq_true rfl, Nat.le_of_ble_eq_true rfl⟩) rfl hl.1 rfl (Nat.le_of_ble_eq_true rfl) dX7_drive_1 ⟨Nat.le_of_ble_eq_true rfl, Nat.le_of_ble_eq_true rfl⟩) (fun σ1 H locs h G => ?_)
  (try dsimp only at h)
  refine lv_iload_n hC.1 hC.2.1 dX7_drive_4 rfl (lv_at hl 2 rfl) ?_
  refine ag_v G (ag_runS (As := [.int a2]) (rest := []) hC hT G (c_N_X7_checkTown l D cy lay h _) (va_cwS 1 hC.2.2.2.2 gX7_drive_X7_checkTown rfl rfl rfl hdS_X7_checkTown ⟨Nat.le_of_ble_eq_true rfl, Nat.le_of_ble_eq_true rfl⟩) rfl hl.1 rfl (Nat.le_of_ble_eq_true rfl) dX7_drive_5 ⟨Nat.le_of_ble_eq_true rfl, Nat.le_of_ble_eq_true rfl⟩) (fun σ2 H locs h G => ?_)
  (try dsimp only at h)
  refine lv_aload_n hC.1 hC.2.1 dX7_drive_8 rfl (lv_at hl 0 rfl) ?_
  refine ag_get hC hT G (by decide) e_ag k_X7 i_N_X7_drive_X7 4 (by decide) (wm 1 rfl) rfl dX7_drive_9 ?_
  refine lv_iload_n hC.1 hC.2.1 dX7_drive_12 rfl (lv_at hl 1 rfl) ?_
  refine lv_iload_n hC.1 hC.2.1 dX7_drive_13 rfl (lv_at hl 2 rfl) ?_
  refine ag_i G (ag_runV (As := [.int a1, .int a2]) (rest := []) hC hT G (c_X4_between l D cy lay h _) (cwV 2 hC.2.2.2.2 gX7_drive_X4_between rfl rfl rfl hdV_X4_between ⟨Nat.le_of_ble_eq_true rfl, Nat.le_of_ble_eq_true rfl⟩) (ag_recv hT G (by decide) e_rd k_X4) rfl hl.1 rfl (Nat.le_of_ble_eq_true rfl) dX7_drive_14 ⟨Nat.le_of_ble_eq_true rfl, Nat.le_of_ble_eq_true rfl⟩) (fun r4 σ3 H locs h G => ?_)
  (try dsimp only at h)
  exact ag_iret hC hr hlocks G h dX7_drive_17
theorem hdV_X7_drive : yX7_drive.cls = RX7 ∧ yX7_drive.cls ≠ "java/lang/invoke/MethodHandle" ∧ yX7_drive.cls ≠ "java/lang/invoke/VarHandle" ∧ (parseMethodDescriptor yX7_drive.desc).map (fun d => d.parameters.length) = some 2 := by decide +kernel
abbrev rm_N_X7_desk : Room := { frames := 2, cells := 0, slots := 0, locals := 42 }
theorem i_N_X7_desk_X7 : ∀ w ∈ wsX70, w ∈ wsX7_desk := fun _ h => List.mem_cons_of_mem _ (List.mem_append_left _ (List.mem_append_left _ (List.mem_append_left _ (List.mem_append_right _ h))))
def w_N_X7_desk (post : Int32 → MS → Prop) (σ : MS) (a1 : Int32) : Prop := ((a1 = 0 → post (σ 0 9) σ) ∧ (¬ a1 = 0 → ((a1 = 1 → post (σ 0 6) σ) ∧ (¬ a1 = 1 → ((a1 = 2 → post (σ 0 7) σ) ∧ (¬ a1 = 2 → ((a1 = 3 → post (σ 0 8) σ) ∧ (¬ a1 = 3 → ((a1 = 4 → w_X7_countInState (fun r6 σ5 => post r6 σ5) σ 0) ∧ (¬ a1 = 4 → ((a1 = 5 → w_X7_countInState (fun r9 σ8 => post r9 σ8) σ 1) ∧ (¬ a1 = 5 → ((a1 = 6 → w_X7_countInState (fun r12 σ11 => post r12 σ11) σ 2) ∧ (¬ a1 = 6 → ((a1 = 7 → w_X7_countInState (fun r15 σ14 => post r15 σ14) σ 3) ∧ (¬ a1 = 7 → ((a1 = 8 → post (σ 0 10) σ) ∧ (¬ a1 = 8 → ((a1 = 9 → w_X7_countFeuds (fun r19 σ18 => post r19 σ18) σ) ∧ (¬ a1 = 9 → ((a1 = 10 → w_X7_allEarned (fun r22 σ21 => post r22 σ21) σ) ∧ (¬ a1 = 10 → ((a1 = 11 → w_X7_countDaysOff (fun r25 σ24 => post r25 σ24) σ) ∧ (¬ a1 = 11 → ((a1 = 12 → w_X7_gapOfHours (fun r28 σ27 => post r28 σ27) σ) ∧ (¬ a1 = 12 → False))))))))))))))))))))))))))
set_option maxHeartbeats 4000000 in
set_option maxRecDepth 100000 in
theorem c_N_X7_desk (l : Launch) (D : va_G) (cy : Nat → ClassId) (lay : Nat → Nat) {σ : MS} {post : Int32 → MS → Prop} {a1 : Int32} (h : w_N_X7_desk post σ a1) (sz : Nat) : Met l yX7_desk wsX7_desk rm_N_X7_desk (va_Pc [.ref (lay 0), .int a1] (agI D cy lay σ sz)) (va_Qi post (agO D cy lay) (agA lay sz)) 0 0 (agA lay sz) := by
  refine ag_ofW (cc := cX7_desk) (maxL := 2) (ret := some .int) (own := RX7) (Qc := fun sz => va_Qi post (agO D cy lay) (agA lay sz)) (by decide) rfl (Nat.le_of_ble_eq_true rfl) rfl ?_
  intro p e s m args below meth c ls hC hr hlocks hT G hl
  unfold w_N_X7_desk at h
  have hl : lv_has ls 2 [(0, .ref (lay 0)), (1, .int a1)] := hl
  refine lv_iload_n hC.1 hC.2.1 dX7_desk_0 rfl (lv_at hl 1 rfl) ?_
  rcases Decidable.em (a1 = 0) with c1 | c1
  · replace h := h.1 c1
    refine lv_tableIn (off := 67) (tgt := 68) hC.1 hC.2.1 dX7_desk_1 (by rw [c1]; decide) (by rw [c1]; decide) (by rw [c1]; rfl) (by decide) ?_
    refine lv_aload_n hC.1 hC.2.1 dX7_desk_68 rfl (lv_at hl 0 rfl) ?_
    refine ag_get hC hT G (by decide) e_ag k_X7 i_N_X7_desk_X7 9 (by decide) (wm 3 rfl) rfl dX7_desk_69 ?_
    exact ag_iret hC hr hlocks G h dX7_desk_72
  · replace h := h.2 c1
    rcases Decidable.em (a1 = 1) with c2 | c2
    · replace h := h.1 c2
      refine lv_tableIn (off := 72) (tgt := 73) hC.1 hC.2.1 dX7_desk_1 (by rw [c2]; decide) (by rw [c2]; decide) (by rw [c2]; rfl) (by decide) ?_
      refine lv_aload_n hC.1 hC.2.1 dX7_desk_73 rfl (lv_at hl 0 rfl) ?_
      refine ag_get hC hT G (by decide) e_ag k_X7 i_N_X7_desk_X7 6 (by decide) (wm 4 rfl) rfl dX7_desk_74 ?_
      exact ag_iret hC hr hlocks G h dX7_desk_77
    · replace h := h.2 c2
      rcases Decidable.em (a1 = 2) with c3 | c3
      · replace h := h.1 c3
        refine lv_tableIn (off := 77) (tgt := 78) hC.1 hC.2.1 dX7_desk_1 (by rw [c3]; decide) (by rw [c3]; decide) (by rw [c3]; rfl) (by decide) ?_
        refine lv_aload_n hC.1 hC.2.1 dX7_desk_78 rfl (lv_at hl 0 rfl) ?_
        refine ag_get hC hT G (by decide) e_ag k_X7 i_N_X7_desk_X7 7 (by decide) (wm 5 rfl) rfl dX7_desk_79 ?_
        exact ag_iret hC hr hlocks G h dX7_desk_82
      · replace h := h.2 c3
        rcases Decidable.em (a1 = 3) with c4 | c4
        · replace h := h.1 c4
          refine lv_tableIn (off := 82) (tgt := 83) hC.1 hC.2.1 dX7_desk_1 (by rw [c4]; decide) (by rw [c4]; decide) (by rw [c4]; rfl) (by decide) ?_
          refine lv_aload_n hC.1 hC.2.1 dX7_desk_83 rfl (lv_at hl 0 rfl) ?_
          refine ag_get hC hT G (by decide) e_ag k_X7 i_N_X7_desk_X7 8 (by decide) (wm 6 rfl) rfl dX7_desk_84 ?_
          exact ag_iret hC hr hlocks G h dX7_desk_87
        · replace h := h.2 c4
          rcases Decidable.em (a1 = 4) with c7 | c7
          · replace h := h.1 c7
            refine lv_tableIn (off := 87) (tgt := 88) hC.1 hC.2.1 dX7_desk_1 (by rw [c7]; decide) (by rw [c7]; decide) (by rw [c7]; rfl) (by decide) ?_
            refine lv_aload_n hC.1 hC.2.1 dX7_desk_88 rfl (lv_at hl 0 rfl) ?_
            refine lv_iconst (v := 0) hC.1 hC.2.1 dX7_desk_89 (by decide) ?_
            refine ag_i G (ag_runV (As := [.int 0]) (rest := []) hC hT G (c_X7_countInState l D cy lay h _) (cwV 1 hC.2.2.2.2 gX7_desk_X7_countInState rfl rfl rfl hdV_X7_countInState ⟨Nat.le_of_ble_eq_true rfl, Nat.le_of_ble_eq_true rfl⟩) (ag_recv hT G (by decide) e_ag k_X7) rfl hl.1 rfl (Nat.le_of_ble_eq_true rfl) dX7_desk_90 ⟨Nat.le_of_ble_eq_true rfl, Nat.le_of_ble_eq_true rfl⟩) (fun r6 σ5 H locs h G => ?_)
            (try dsimp only at h)
            exact ag_iret hC hr hlocks G h dX7_desk_93
          · replace h := h.2 c7
            rcases Decidable.em (a1 = 5) with c10 | c10
            · replace h := h.1 c10
              refine lv_tableIn (off := 93) (tgt := 94) hC.1 hC.2.1 dX7_desk_1 (by rw [c10]; decide) (by rw [c10]; decide) (by rw [c10]; rfl) (by decide) ?_
              refine lv_aload_n hC.1 hC.2.1 dX7_desk_94 rfl (lv_at hl 0 rfl) ?_
              refine lv_iconst (v := 1) hC.1 hC.2.1 dX7_desk_95 (by decide) ?_
              refine ag_i G (ag_runV (As := [.int 1]) (rest := []) hC hT G (c_X7_countInState l D cy lay h _) (cwV 1 hC.2.2.2.2 gX7_desk_X7_countInState rfl rfl rfl hdV_X7_countInState ⟨Nat.le_of_ble_eq_true rfl, Nat.le_of_ble_eq_true rfl⟩) (ag_recv hT G (by decide) e_ag k_X7) rfl hl.1 rfl (Nat.le_of_ble_eq_true rfl) dX7_desk_96 ⟨Nat.le_of_ble_eq_true rfl, Nat.le_of_ble_eq_true rfl⟩) (fun r9 σ8 H locs h G => ?_)
              (try dsimp only at h)
              exact ag_iret hC hr hlocks G h dX7_desk_99
            · replace h := h.2 c10
              rcases Decidable.em (a1 = 6) with c13 | c13
              · replace h := h.1 c13
                refine lv_tableIn (off := 99) (tgt := 100) hC.1 hC.2.1 dX7_desk_1 (by rw [c13]; decide) (by rw [c13]; decide) (by rw [c13]; rfl) (by decide) ?_
                refine lv_aload_n hC.1 hC.2.1 dX7_desk_100 rfl (lv_at hl 0 rfl) ?_
                refine lv_iconst (v := 2) hC.1 hC.2.1 dX7_desk_101 (by decide) ?_
                refine ag_i G (ag_runV (As := [.int 2]) (rest := []) hC hT G (c_X7_countInState l D cy lay h _) (cwV 1 hC.2.2.2.2 gX7_desk_X7_countInState rfl rfl rfl hdV_X7_countInState ⟨Nat.le_of_ble_eq_true rfl, Nat.le_of_ble_eq_true rfl⟩) (ag_recv hT G (by decide) e_ag k_X7) rfl hl.1 rfl (Nat.le_of_ble_eq_true rfl) dX7_desk_102 ⟨Nat.le_of_ble_eq_true rfl, Nat.le_of_ble_eq_true rfl⟩) (fun r12 σ11 H locs h G => ?_)
                (try dsimp only at h)
                exact ag_iret hC hr hlocks G h dX7_desk_105
              · replace h := h.2 c13
                rcases Decidable.em (a1 = 7) with c16 | c16
                · replace h := h.1 c16
                  refine lv_tableIn (off := 105) (tgt := 106) hC.1 hC.2.1 dX7_desk_1 (by rw [c16]; decide) (by rw [c16]; decide) (by rw [c16]; rfl) (by decide) ?_
                  refine lv_aload_n hC.1 hC.2.1 dX7_desk_106 rfl (lv_at hl 0 rfl) ?_
                  refine lv_iconst (v := 3) hC.1 hC.2.1 dX7_desk_107 (by decide) ?_
                  refine ag_i G (ag_runV (As := [.int 3]) (rest := []) hC hT G (c_X7_countInState l D cy lay h _) (cwV 1 hC.2.2.2.2 gX7_desk_X7_countInState rfl rfl rfl hdV_X7_countInState ⟨Nat.le_of_ble_eq_true rfl, Nat.le_of_ble_eq_true rfl⟩) (ag_recv hT G (by decide) e_ag k_X7) rfl hl.1 rfl (Nat.le_of_ble_eq_true rfl) dX7_desk_108 ⟨Nat.le_of_ble_eq_true rfl, Nat.le_of_ble_eq_true rfl⟩) (fun r15 σ14 H locs h G => ?_)
                  (try dsimp only at h)
                  exact ag_iret hC hr hlocks G h dX7_desk_111
                · replace h := h.2 c16
                  rcases Decidable.em (a1 = 8) with c17 | c17
                  · replace h := h.1 c17
                    refine lv_tableIn (off := 111) (tgt := 112) hC.1 hC.2.1 dX7_desk_1 (by rw [c17]; decide) (by rw [c17]; decide) (by rw [c17]; rfl) (by decide) ?_
                    refine lv_aload_n hC.1 hC.2.1 dX7_desk_112 rfl (lv_at hl 0 rfl) ?_
                    refine ag_get hC hT G (by decide) e_ag k_X7 i_N_X7_desk_X7 10 (by decide) (wm 7 rfl) rfl dX7_desk_113 ?_
                    exact ag_iret hC hr hlocks G h dX7_desk_116
                  · replace h := h.2 c17
                    rcases Decidable.em (a1 = 9) with c20 | c20
                    · replace h := h.1 c20
                      refine lv_tableIn (off := 116) (tgt := 117) hC.1 hC.2.1 dX7_desk_1 (by rw [c20]; decide) (by rw [c20]; decide) (by rw [c20]; rfl) (by decide) ?_
                      refine lv_aload_n hC.1 hC.2.1 dX7_desk_117 rfl (lv_at hl 0 rfl) ?_
                      refine ag_i G (ag_runV (As := []) (rest := []) hC hT G (c_X7_countFeuds l D cy lay h _) (cwV 0 hC.2.2.2.2 gX7_desk_X7_countFeuds rfl rfl rfl hdV_X7_countFeuds ⟨Nat.le_of_ble_eq_true rfl, Nat.le_of_ble_eq_true rfl⟩) (ag_recv hT G (by decide) e_ag k_X7) rfl hl.1 rfl (Nat.le_of_ble_eq_true rfl) dX7_desk_118 ⟨Nat.le_of_ble_eq_true rfl, Nat.le_of_ble_eq_true rfl⟩) (fun r19 σ18 H locs h G => ?_)
                      (try dsimp only at h)
                      exact ag_iret hC hr hlocks G h dX7_desk_121
                    · replace h := h.2 c20
                      rcases Decidable.em (a1 = 10) with c23 | c23
                      · replace h := h.1 c23
                        refine lv_tableIn (off := 121) (tgt := 122) hC.1 hC.2.1 dX7_desk_1 (by rw [c23]; decide) (by rw [c23]; decide) (by rw [c23]; rfl) (by decide) ?_
                        refine lv_aload_n hC.1 hC.2.1 dX7_desk_122 rfl (lv_at hl 0 rfl) ?_
                        refine ag_i G (ag_runV (As := []) (rest := []) hC hT G (c_X7_allEarned l D cy lay h _) (cwV 0 hC.2.2.2.2 gX7_desk_X7_allEarned rfl rfl rfl hdV_X7_allEarned ⟨Nat.le_of_ble_eq_true rfl, Nat.le_of_ble_eq_true rfl⟩) (ag_recv hT G (by decide) e_ag k_X7) rfl hl.1 rfl (Nat.le_of_ble_eq_true rfl) dX7_desk_123 ⟨Nat.le_of_ble_eq_true rfl, Nat.le_of_ble_eq_true rfl⟩) (fun r22 σ21 H locs h G => ?_)
                        (try dsimp only at h)
                        exact ag_iret hC hr hlocks G h dX7_desk_126
                      · replace h := h.2 c23
                        rcases Decidable.em (a1 = 11) with c26 | c26
                        · replace h := h.1 c26
                          refine lv_tableIn (off := 126) (tgt := 127) hC.1 hC.2.1 dX7_desk_1 (by rw [c26]; decide) (by rw [c26]; decide) (by rw [c26]; rfl) (by decide) ?_
                          refine lv_aload_n hC.1 hC.2.1 dX7_desk_127 rfl (lv_at hl 0 rfl) ?_
                          refine ag_i G (ag_runV (As := []) (rest := []) hC hT G (c_X7_countDaysOff l D cy lay h _) (cwV 0 hC.2.2.2.2 gX7_desk_X7_countDaysOff rfl rfl rfl hdV_X7_countDaysOff ⟨Nat.le_of_ble_eq_true rfl, Nat.le_of_ble_eq_true rfl⟩) (ag_recv hT G (by decide) e_ag k_X7) rfl hl.1 rfl (Nat.le_of_ble_eq_true rfl) dX7_desk_128 ⟨Nat.le_of_ble_eq_true rfl, Nat.le_of_ble_eq_true rfl⟩) (fun r25 σ24 H locs h G => ?_)
                          (try dsimp only at h)
                          exact ag_iret hC hr hlocks G h dX7_desk_131
                        · replace h := h.2 c26
                          rcases Decidable.em (a1 = 12) with c29 | c29
                          · replace h := h.1 c29
                            refine lv_tableIn (off := 131) (tgt := 132) hC.1 hC.2.1 dX7_desk_1 (by rw [c29]; decide) (by rw [c29]; decide) (by rw [c29]; rfl) (by decide) ?_
                            refine lv_aload_n hC.1 hC.2.1 dX7_desk_132 rfl (lv_at hl 0 rfl) ?_
                            refine ag_i G (ag_runV (As := []) (rest := []) hC hT G (c_X7_gapOfHours l D cy lay h _) (cwV 0 hC.2.2.2.2 gX7_desk_X7_gapOfHours rfl rfl rfl hdV_X7_gapOfHours ⟨Nat.le_of_ble_eq_true rfl, Nat.le_of_ble_eq_true rfl⟩) (ag_recv hT G (by decide) e_ag k_X7) rfl hl.1 rfl (Nat.le_of_ble_eq_true rfl) dX7_desk_133 ⟨Nat.le_of_ble_eq_true rfl, Nat.le_of_ble_eq_true rfl⟩) (fun r28 σ27 H locs h G => ?_)
                            (try dsimp only at h)
                            exact ag_iret hC hr hlocks G h dX7_desk_136
                          · replace h := h.2 c29
                            refine lv_tableOut (tgt := 137) hC.1 hC.2.1 dX7_desk_1 (tsw_out 13 rfl (by decide) (fun k hk => by rcases (show k = 0 ∨ k = 1 ∨ k = 2 ∨ k = 3 ∨ k = 4 ∨ k = 5 ∨ k = 6 ∨ k = 7 ∨ k = 8 ∨ k = 9 ∨ k = 10 ∨ k = 11 ∨ k = 12 by omega) with rfl | rfl | rfl | rfl | rfl | rfl | rfl | rfl | rfl | rfl | rfl | rfl | rfl <;> assumption)) (by decide) ?_
                            exact h.elim
theorem hdV_X7_desk : yX7_desk.cls = RX7 ∧ yX7_desk.cls ≠ "java/lang/invoke/MethodHandle" ∧ yX7_desk.cls ≠ "java/lang/invoke/VarHandle" ∧ (parseMethodDescriptor yX7_desk.desc).map (fun d => d.parameters.length) = some 1 := by decide +kernel
abbrev rm_N_X7_ofPlayer : Room := { frames := 3, cells := 0, slots := 0, locals := 65 }
theorem i_N_X7_ofPlayer_X7 : ∀ w ∈ wsX70, w ∈ wsX7_ofPlayer := fun _ h => List.mem_cons_of_mem _ (List.mem_append_left _ (List.mem_append_left _ (List.mem_append_left _ (List.mem_append_left _ (List.mem_append_right _ h)))))
theorem i_N_X7_ofPlayer_X3 : ∀ w ∈ wsX30, w ∈ wsX7_ofPlayer := fun _ h => List.mem_cons_of_mem _ (List.mem_append_left _ (List.mem_append_left _ (List.mem_append_left _ (List.mem_append_right _ h))))
def w_N_X7_ofPlayer (post : Int32 → MS → Prop) (σ : MS) (a1 : Int32) (a2 : Int32) : Prop := w_N_X7_checkPlayer (fun σ1 => (vp_in a1 10 ∧ ((a2 = 0 → post (σ1 (29 + (Int32.toNatClampNeg a1)) 0) σ1) ∧ (¬ a2 = 0 → ((a2 = 1 → post (σ1 (29 + (Int32.toNatClampNeg a1)) 1) σ1) ∧ (¬ a2 = 1 → ((a2 = 2 → post (σ1 (29 + (Int32.toNatClampNeg a1)) 2) σ1) ∧ (¬ a2 = 2 → ((a2 = 3 → post (σ1 (29 + (Int32.toNatClampNeg a1)) 3) σ1) ∧ (¬ a2 = 3 → ((a2 = 4 → post (σ1 (29 + (Int32.toNatClampNeg a1)) 4) σ1) ∧ (¬ a2 = 4 → ((a2 = 5 → post (σ1 (29 + (Int32.toNatClampNeg a1)) 5) σ1) ∧ (¬ a2 = 5 → ((a2 = 6 → w_X7_countFixedWith (fun r10 σ9 => post r10 σ9) σ1 a1) ∧ (¬ a2 = 6 → ((a2 = 7 → post (σ1 (29 + (Int32.toNatClampNeg a1)) 6) σ1) ∧ (¬ a2 = 7 → ((a2 = 8 → post (σ1 (29 + (Int32.toNatClampNeg a1)) 7) σ1) ∧ (¬ a2 = 8 → False)))))))))))))))))))) σ a1
set_option maxHeartbeats 4000000 in
set_option maxRecDepth 100000 in
theorem c_N_X7_ofPlayer (l : Launch) (D : va_G) (cy : Nat → ClassId) (lay : Nat → Nat) {σ : MS} {post : Int32 → MS → Prop} {a1 : Int32} {a2 : Int32} (h : w_N_X7_ofPlayer post σ a1 a2) (sz : Nat) : Met l yX7_ofPlayer wsX7_ofPlayer rm_N_X7_ofPlayer (va_Pc [.ref (lay 0), .int a1, .int a2] (agI D cy lay σ sz)) (va_Qi post (agO D cy lay) (agA lay sz)) 0 0 (agA lay sz) := by
  refine ag_ofW (cc := cX7_ofPlayer) (maxL := 4) (ret := some .int) (own := RX7) (Qc := fun sz => va_Qi post (agO D cy lay) (agA lay sz)) (by decide) rfl (Nat.le_of_ble_eq_true rfl) rfl ?_
  intro p e s m args below meth c ls hC hr hlocks hT G hl
  unfold w_N_X7_ofPlayer at h
  have hl : lv_has ls 4 [(0, .ref (lay 0)), (1, .int a1), (2, .int a2)] := hl
  refine lv_aload_n hC.1 hC.2.1 dX7_ofPlayer_0 rfl (lv_at hl 0 rfl) ?_
  refine lv_iload_n hC.1 hC.2.1 dX7_ofPlayer_1 rfl (lv_at hl 1 rfl) ?_
  refine ag_v G (ag_runV (As := [.int a1]) (rest := []) hC hT G (c_N_X7_checkPlayer l D cy lay h _) (cwV 1 hC.2.2.2.2 gX7_ofPlayer_X7_checkPlayer rfl rfl rfl hdV_X7_checkPlayer ⟨Nat.le_of_ble_eq_true rfl, Nat.le_of_ble_eq_true rfl⟩) (ag_recv hT G (by decide) e_ag k_X7) rfl hl.1 rfl (Nat.le_of_ble_eq_true rfl) dX7_ofPlayer_2 ⟨Nat.le_of_ble_eq_true rfl, Nat.le_of_ble_eq_true rfl⟩) (fun σ1 H locs h G => ?_)
  (try dsimp only at h)
  refine lv_aload_n hC.1 hC.2.1 dX7_ofPlayer_5 rfl (lv_at hl 0 rfl) ?_
  refine ag_get hC hT G (by decide) e_ag k_X7 i_N_X7_ofPlayer_X7 0 (by decide) (wm 3 rfl) rfl dX7_ofPlayer_6 ?_
  refine lv_iload_n hC.1 hC.2.1 dX7_ofPlayer_9 rfl (lv_at hl 1 rfl) ?_
  obtain ⟨hn2, h⟩ := h
  refine ag_aald hC hT G (by decide) _ rfl e_pls hn2 dX7_ofPlayer_10 ?_
  refine lv_astore_n (lv' := [(3, .ref (lay (29 + (Int32.toNatClampNeg a1)))), (0, .ref (lay 0)), (1, .int a1), (2, .int a2)]) hC.1 hC.2.1 dX7_ofPlayer_11 rfl hl (by decide) rfl (fun ls hl => ?_)
  refine lv_iload_n hC.1 hC.2.1 dX7_ofPlayer_12 rfl (lv_at hl 3 rfl) ?_
  rcases Decidable.em (a2 = 0) with c3 | c3
  · replace h := h.1 c3
    refine lv_tableIn (off := 51) (tgt := 64) hC.1 hC.2.1 dX7_ofPlayer_13 (by rw [c3]; decide) (by rw [c3]; decide) (by rw [c3]; rfl) (by decide) ?_
    refine lv_aload_n hC.1 hC.2.1 dX7_ofPlayer_64 rfl (lv_at hl 0 rfl) ?_
    refine ag_get hC hT G (k_pl (vlt hn2)) (e_pl (vlt hn2)) k_X3 i_N_X7_ofPlayer_X3 0 (by decide) (wm 4 rfl) rfl dX7_ofPlayer_65 ?_
    exact ag_iret hC hr hlocks G h dX7_ofPlayer_68
  · replace h := h.2 c3
    rcases Decidable.em (a2 = 1) with c4 | c4
    · replace h := h.1 c4
      refine lv_tableIn (off := 56) (tgt := 69) hC.1 hC.2.1 dX7_ofPlayer_13 (by rw [c4]; decide) (by rw [c4]; decide) (by rw [c4]; rfl) (by decide) ?_
      refine lv_aload_n hC.1 hC.2.1 dX7_ofPlayer_69 rfl (lv_at hl 0 rfl) ?_
      refine ag_get hC hT G (k_pl (vlt hn2)) (e_pl (vlt hn2)) k_X3 i_N_X7_ofPlayer_X3 1 (by decide) (wm 5 rfl) rfl dX7_ofPlayer_70 ?_
      exact ag_iret hC hr hlocks G h dX7_ofPlayer_73
    · replace h := h.2 c4
      rcases Decidable.em (a2 = 2) with c5 | c5
      · replace h := h.1 c5
        refine lv_tableIn (off := 61) (tgt := 74) hC.1 hC.2.1 dX7_ofPlayer_13 (by rw [c5]; decide) (by rw [c5]; decide) (by rw [c5]; rfl) (by decide) ?_
        refine lv_aload_n hC.1 hC.2.1 dX7_ofPlayer_74 rfl (lv_at hl 0 rfl) ?_
        refine ag_get hC hT G (k_pl (vlt hn2)) (e_pl (vlt hn2)) k_X3 i_N_X7_ofPlayer_X3 2 (by decide) (wm 6 rfl) rfl dX7_ofPlayer_75 ?_
        exact ag_iret hC hr hlocks G h dX7_ofPlayer_78
      · replace h := h.2 c5
        rcases Decidable.em (a2 = 3) with c6 | c6
        · replace h := h.1 c6
          refine lv_tableIn (off := 66) (tgt := 79) hC.1 hC.2.1 dX7_ofPlayer_13 (by rw [c6]; decide) (by rw [c6]; decide) (by rw [c6]; rfl) (by decide) ?_
          refine lv_aload_n hC.1 hC.2.1 dX7_ofPlayer_79 rfl (lv_at hl 0 rfl) ?_
          refine ag_get hC hT G (k_pl (vlt hn2)) (e_pl (vlt hn2)) k_X3 i_N_X7_ofPlayer_X3 3 (by decide) (wm 7 rfl) rfl dX7_ofPlayer_80 ?_
          exact ag_iret hC hr hlocks G h dX7_ofPlayer_83
        · replace h := h.2 c6
          rcases Decidable.em (a2 = 4) with c7 | c7
          · replace h := h.1 c7
            refine lv_tableIn (off := 71) (tgt := 84) hC.1 hC.2.1 dX7_ofPlayer_13 (by rw [c7]; decide) (by rw [c7]; decide) (by rw [c7]; rfl) (by decide) ?_
            refine lv_aload_n hC.1 hC.2.1 dX7_ofPlayer_84 rfl (lv_at hl 0 rfl) ?_
            refine ag_get hC hT G (k_pl (vlt hn2)) (e_pl (vlt hn2)) k_X3 i_N_X7_ofPlayer_X3 4 (by decide) (wm 8 rfl) rfl dX7_ofPlayer_85 ?_
            exact ag_iret hC hr hlocks G h dX7_ofPlayer_88
          · replace h := h.2 c7
            rcases Decidable.em (a2 = 5) with c8 | c8
            · replace h := h.1 c8
              refine lv_tableIn (off := 76) (tgt := 89) hC.1 hC.2.1 dX7_ofPlayer_13 (by rw [c8]; decide) (by rw [c8]; decide) (by rw [c8]; rfl) (by decide) ?_
              refine lv_aload_n hC.1 hC.2.1 dX7_ofPlayer_89 rfl (lv_at hl 0 rfl) ?_
              refine ag_get hC hT G (k_pl (vlt hn2)) (e_pl (vlt hn2)) k_X3 i_N_X7_ofPlayer_X3 5 (by decide) (wm 9 rfl) rfl dX7_ofPlayer_90 ?_
              exact ag_iret hC hr hlocks G h dX7_ofPlayer_93
            · replace h := h.2 c8
              rcases Decidable.em (a2 = 6) with c11 | c11
              · replace h := h.1 c11
                refine lv_tableIn (off := 81) (tgt := 94) hC.1 hC.2.1 dX7_ofPlayer_13 (by rw [c11]; decide) (by rw [c11]; decide) (by rw [c11]; rfl) (by decide) ?_
                refine lv_aload_n hC.1 hC.2.1 dX7_ofPlayer_94 rfl (lv_at hl 1 rfl) ?_
                refine lv_iload_n hC.1 hC.2.1 dX7_ofPlayer_95 rfl (lv_at hl 2 rfl) ?_
                refine ag_i G (ag_runV (As := [.int a1]) (rest := []) hC hT G (c_X7_countFixedWith l D cy lay h _) (cwV 1 hC.2.2.2.2 gX7_ofPlayer_X7_countFixedWith rfl rfl rfl hdV_X7_countFixedWith ⟨Nat.le_of_ble_eq_true rfl, Nat.le_of_ble_eq_true rfl⟩) (ag_recv hT G (by decide) e_ag k_X7) rfl hl.1 rfl (Nat.le_of_ble_eq_true rfl) dX7_ofPlayer_96 ⟨Nat.le_of_ble_eq_true rfl, Nat.le_of_ble_eq_true rfl⟩) (fun r10 σ9 H locs h G => ?_)
                (try dsimp only at h)
                exact ag_iret hC hr hlocks G h dX7_ofPlayer_99
              · replace h := h.2 c11
                rcases Decidable.em (a2 = 7) with c12 | c12
                · replace h := h.1 c12
                  refine lv_tableIn (off := 87) (tgt := 100) hC.1 hC.2.1 dX7_ofPlayer_13 (by rw [c12]; decide) (by rw [c12]; decide) (by rw [c12]; rfl) (by decide) ?_
                  refine lv_aload_n hC.1 hC.2.1 dX7_ofPlayer_100 rfl (lv_at hl 0 rfl) ?_
                  refine ag_get hC hT G (k_pl (vlt hn2)) (e_pl (vlt hn2)) k_X3 i_N_X7_ofPlayer_X3 6 (by decide) (wm 10 rfl) rfl dX7_ofPlayer_101 ?_
                  exact ag_iret hC hr hlocks G h dX7_ofPlayer_104
                · replace h := h.2 c12
                  rcases Decidable.em (a2 = 8) with c13 | c13
                  · replace h := h.1 c13
                    refine lv_tableIn (off := 92) (tgt := 105) hC.1 hC.2.1 dX7_ofPlayer_13 (by rw [c13]; decide) (by rw [c13]; decide) (by rw [c13]; rfl) (by decide) ?_
                    refine lv_aload_n hC.1 hC.2.1 dX7_ofPlayer_105 rfl (lv_at hl 0 rfl) ?_
                    refine ag_get hC hT G (k_pl (vlt hn2)) (e_pl (vlt hn2)) k_X3 i_N_X7_ofPlayer_X3 7 (by decide) (wm 11 rfl) rfl dX7_ofPlayer_106 ?_
                    exact ag_iret hC hr hlocks G h dX7_ofPlayer_109
                  · replace h := h.2 c13
                    refine lv_tableOut (tgt := 110) hC.1 hC.2.1 dX7_ofPlayer_13 (tsw_out 9 rfl (by decide) (fun k hk => by rcases (show k = 0 ∨ k = 1 ∨ k = 2 ∨ k = 3 ∨ k = 4 ∨ k = 5 ∨ k = 6 ∨ k = 7 ∨ k = 8 by omega) with rfl | rfl | rfl | rfl | rfl | rfl | rfl | rfl | rfl <;> assumption)) (by decide) ?_
                    exact h.elim
theorem hdV_X7_ofPlayer : yX7_ofPlayer.cls = RX7 ∧ yX7_ofPlayer.cls ≠ "java/lang/invoke/MethodHandle" ∧ yX7_ofPlayer.cls ≠ "java/lang/invoke/VarHandle" ∧ (parseMethodDescriptor yX7_ofPlayer.desc).map (fun d => d.parameters.length) = some 2 := by decide +kernel
abbrev rm_N_X7_ofSong : Room := { frames := 2, cells := 0, slots := 0, locals := 44 }
theorem i_N_X7_ofSong_X7 : ∀ w ∈ wsX70, w ∈ wsX7_ofSong := fun _ h => List.mem_cons_of_mem _ (List.mem_append_left _ (List.mem_append_left _ (List.mem_append_left _ (List.mem_append_left _ (List.mem_append_right _ h)))))
theorem i_N_X7_ofSong_X5 : ∀ w ∈ wsX50, w ∈ wsX7_ofSong := fun _ h => List.mem_cons_of_mem _ (List.mem_append_left _ (List.mem_append_left _ (List.mem_append_left _ (List.mem_append_right _ h))))
def w_N_X7_ofSong (post : Int32 → MS → Prop) (σ : MS) (a1 : Int32) (a2 : Int32) : Prop := w_N_X7_checkSong (fun σ1 => (vp_in a1 16 ∧ ((a2 = 0 → post (σ1 (39 + (Int32.toNatClampNeg a1)) 0) σ1) ∧ (¬ a2 = 0 → ((a2 = 1 → post (σ1 (39 + (Int32.toNatClampNeg a1)) 1) σ1) ∧ (¬ a2 = 1 → ((a2 = 2 → post (σ1 (39 + (Int32.toNatClampNeg a1)) 2) σ1) ∧ (¬ a2 = 2 → ((a2 = 3 → post (σ1 (39 + (Int32.toNatClampNeg a1)) 3) σ1) ∧ (¬ a2 = 3 → ((a2 = 4 → w_X7_shareOf (fun r8 σ7 => post r8 σ7) σ1 (Int32.toNatClampNeg a1)) ∧ (¬ a2 = 4 → ((a2 = 5 → w_X7_countKnowing (fun r11 σ10 => post r11 σ10) σ1 a1) ∧ (¬ a2 = 5 → False)))))))))))))) σ a1
set_option maxHeartbeats 4000000 in
set_option maxRecDepth 100000 in
theorem c_N_X7_ofSong (l : Launch) (D : va_G) (cy : Nat → ClassId) (lay : Nat → Nat) {σ : MS} {post : Int32 → MS → Prop} {a1 : Int32} {a2 : Int32} (h : w_N_X7_ofSong post σ a1 a2) (sz : Nat) : Met l yX7_ofSong wsX7_ofSong rm_N_X7_ofSong (va_Pc [.ref (lay 0), .int a1, .int a2] (agI D cy lay σ sz)) (va_Qi post (agO D cy lay) (agA lay sz)) 0 0 (agA lay sz) := by
  refine ag_ofW (cc := cX7_ofSong) (maxL := 4) (ret := some .int) (own := RX7) (Qc := fun sz => va_Qi post (agO D cy lay) (agA lay sz)) (by decide) rfl (Nat.le_of_ble_eq_true rfl) rfl ?_
  intro p e s m args below meth c ls hC hr hlocks hT G hl
  unfold w_N_X7_ofSong at h
  have hl : lv_has ls 4 [(0, .ref (lay 0)), (1, .int a1), (2, .int a2)] := hl
  refine lv_iload_n hC.1 hC.2.1 dX7_ofSong_0 rfl (lv_at hl 1 rfl) ?_
  refine ag_v G (ag_runS (As := [.int a1]) (rest := []) hC hT G (c_N_X7_checkSong l D cy lay h _) (va_cwS 1 hC.2.2.2.2 gX7_ofSong_X7_checkSong rfl rfl rfl hdS_X7_checkSong ⟨Nat.le_of_ble_eq_true rfl, Nat.le_of_ble_eq_true rfl⟩) rfl hl.1 rfl (Nat.le_of_ble_eq_true rfl) dX7_ofSong_1 ⟨Nat.le_of_ble_eq_true rfl, Nat.le_of_ble_eq_true rfl⟩) (fun σ1 H locs h G => ?_)
  (try dsimp only at h)
  refine lv_aload_n hC.1 hC.2.1 dX7_ofSong_4 rfl (lv_at hl 0 rfl) ?_
  refine ag_get hC hT G (by decide) e_ag k_X7 i_N_X7_ofSong_X7 1 (by decide) (wm 3 rfl) rfl dX7_ofSong_5 ?_
  refine lv_iload_n hC.1 hC.2.1 dX7_ofSong_8 rfl (lv_at hl 1 rfl) ?_
  obtain ⟨hn2, h⟩ := h
  refine ag_aald hC hT G (by decide) _ rfl e_sgs hn2 dX7_ofSong_9 ?_
  refine lv_astore_n (lv' := [(3, .ref (lay (39 + (Int32.toNatClampNeg a1)))), (0, .ref (lay 0)), (1, .int a1), (2, .int a2)]) hC.1 hC.2.1 dX7_ofSong_10 rfl hl (by decide) rfl (fun ls hl => ?_)
  refine lv_iload_n hC.1 hC.2.1 dX7_ofSong_11 rfl (lv_at hl 3 rfl) ?_
  rcases Decidable.em (a2 = 0) with c3 | c3
  · replace h := h.1 c3
    refine lv_tableIn (off := 40) (tgt := 52) hC.1 hC.2.1 dX7_ofSong_12 (by rw [c3]; decide) (by rw [c3]; decide) (by rw [c3]; rfl) (by decide) ?_
    refine lv_aload_n hC.1 hC.2.1 dX7_ofSong_52 rfl (lv_at hl 0 rfl) ?_
    refine ag_get hC hT G (k_sg (vlt hn2)) (e_sg (vlt hn2)) k_X5 i_N_X7_ofSong_X5 0 (by decide) (wm 4 rfl) rfl dX7_ofSong_53 ?_
    exact ag_iret hC hr hlocks G h dX7_ofSong_56
  · replace h := h.2 c3
    rcases Decidable.em (a2 = 1) with c4 | c4
    · replace h := h.1 c4
      refine lv_tableIn (off := 45) (tgt := 57) hC.1 hC.2.1 dX7_ofSong_12 (by rw [c4]; decide) (by rw [c4]; decide) (by rw [c4]; rfl) (by decide) ?_
      refine lv_aload_n hC.1 hC.2.1 dX7_ofSong_57 rfl (lv_at hl 0 rfl) ?_
      refine ag_get hC hT G (k_sg (vlt hn2)) (e_sg (vlt hn2)) k_X5 i_N_X7_ofSong_X5 1 (by decide) (wm 5 rfl) rfl dX7_ofSong_58 ?_
      exact ag_iret hC hr hlocks G h dX7_ofSong_61
    · replace h := h.2 c4
      rcases Decidable.em (a2 = 2) with c5 | c5
      · replace h := h.1 c5
        refine lv_tableIn (off := 50) (tgt := 62) hC.1 hC.2.1 dX7_ofSong_12 (by rw [c5]; decide) (by rw [c5]; decide) (by rw [c5]; rfl) (by decide) ?_
        refine lv_aload_n hC.1 hC.2.1 dX7_ofSong_62 rfl (lv_at hl 0 rfl) ?_
        refine ag_get hC hT G (k_sg (vlt hn2)) (e_sg (vlt hn2)) k_X5 i_N_X7_ofSong_X5 2 (by decide) (wm 6 rfl) rfl dX7_ofSong_63 ?_
        exact ag_iret hC hr hlocks G h dX7_ofSong_66
      · replace h := h.2 c5
        rcases Decidable.em (a2 = 3) with c6 | c6
        · replace h := h.1 c6
          refine lv_tableIn (off := 55) (tgt := 67) hC.1 hC.2.1 dX7_ofSong_12 (by rw [c6]; decide) (by rw [c6]; decide) (by rw [c6]; rfl) (by decide) ?_
          refine lv_aload_n hC.1 hC.2.1 dX7_ofSong_67 rfl (lv_at hl 0 rfl) ?_
          refine ag_get hC hT G (k_sg (vlt hn2)) (e_sg (vlt hn2)) k_X5 i_N_X7_ofSong_X5 3 (by decide) (wm 7 rfl) rfl dX7_ofSong_68 ?_
          exact ag_iret hC hr hlocks G h dX7_ofSong_71
        · replace h := h.2 c6
          rcases Decidable.em (a2 = 4) with c9 | c9
          · replace h := h.1 c9
            refine lv_tableIn (off := 60) (tgt := 72) hC.1 hC.2.1 dX7_ofSong_12 (by rw [c9]; decide) (by rw [c9]; decide) (by rw [c9]; rfl) (by decide) ?_
            refine lv_aload_n hC.1 hC.2.1 dX7_ofSong_72 rfl (lv_at hl 1 rfl) ?_
            refine lv_aload_n hC.1 hC.2.1 dX7_ofSong_73 rfl (lv_at hl 0 rfl) ?_
            refine ag_i G (ag_runV (As := [.ref (lay (39 + (Int32.toNatClampNeg a1)))]) (rest := []) hC hT G (c_X7_shareOf l D cy lay h (vlt hn2) _) (cwV 1 hC.2.2.2.2 gX7_ofSong_X7_shareOf rfl rfl rfl hdV_X7_shareOf ⟨Nat.le_of_ble_eq_true rfl, Nat.le_of_ble_eq_true rfl⟩) (ag_recv hT G (by decide) e_ag k_X7) rfl hl.1 rfl (Nat.le_of_ble_eq_true rfl) dX7_ofSong_74 ⟨Nat.le_of_ble_eq_true rfl, Nat.le_of_ble_eq_true rfl⟩) (fun r8 σ7 H locs h G => ?_)
            (try dsimp only at h)
            exact ag_iret hC hr hlocks G h dX7_ofSong_77
          · replace h := h.2 c9
            rcases Decidable.em (a2 = 5) with c12 | c12
            · replace h := h.1 c12
              refine lv_tableIn (off := 66) (tgt := 78) hC.1 hC.2.1 dX7_ofSong_12 (by rw [c12]; decide) (by rw [c12]; decide) (by rw [c12]; rfl) (by decide) ?_
              refine lv_aload_n hC.1 hC.2.1 dX7_ofSong_78 rfl (lv_at hl 1 rfl) ?_
              refine lv_iload_n hC.1 hC.2.1 dX7_ofSong_79 rfl (lv_at hl 2 rfl) ?_
              refine ag_i G (ag_runV (As := [.int a1]) (rest := []) hC hT G (c_X7_countKnowing l D cy lay h _) (cwV 1 hC.2.2.2.2 gX7_ofSong_X7_countKnowing rfl rfl rfl hdV_X7_countKnowing ⟨Nat.le_of_ble_eq_true rfl, Nat.le_of_ble_eq_true rfl⟩) (ag_recv hT G (by decide) e_ag k_X7) rfl hl.1 rfl (Nat.le_of_ble_eq_true rfl) dX7_ofSong_80 ⟨Nat.le_of_ble_eq_true rfl, Nat.le_of_ble_eq_true rfl⟩) (fun r11 σ10 H locs h G => ?_)
              (try dsimp only at h)
              exact ag_iret hC hr hlocks G h dX7_ofSong_83
            · replace h := h.2 c12
              refine lv_tableOut (tgt := 84) hC.1 hC.2.1 dX7_ofSong_12 (tsw_out 6 rfl (by decide) (fun k hk => by rcases (show k = 0 ∨ k = 1 ∨ k = 2 ∨ k = 3 ∨ k = 4 ∨ k = 5 by omega) with rfl | rfl | rfl | rfl | rfl | rfl <;> assumption)) (by decide) ?_
              exact h.elim
theorem hdV_X7_ofSong : yX7_ofSong.cls = RX7 ∧ yX7_ofSong.cls ≠ "java/lang/invoke/MethodHandle" ∧ yX7_ofSong.cls ≠ "java/lang/invoke/VarHandle" ∧ (parseMethodDescriptor yX7_ofSong.desc).map (fun d => d.parameters.length) = some 2 := by decide +kernel
abbrev rm_N_X7_ofBand : Room := { frames := 1, cells := 0, slots := 0, locals := 24 }
theorem i_N_X7_ofBand_X7 : ∀ w ∈ wsX70, w ∈ wsX7_ofBand := fun _ h => List.mem_cons_of_mem _ (List.mem_append_left _ (List.mem_append_left _ (List.mem_append_left _ (List.mem_append_left _ (List.mem_append_right _ h)))))
theorem i_N_X7_ofBand_X0 : ∀ w ∈ wsX00, w ∈ wsX7_ofBand := fun _ h => List.mem_cons_of_mem _ (List.mem_append_left _ (List.mem_append_left _ (List.mem_append_left _ (List.mem_append_right _ h))))
def u_N_X7_ofBand_15 (post : Int32 → MS → Prop) (a1 : Int32) (a2 : Int32) (σ : MS) : Prop := False
set_option maxHeartbeats 4000000 in
set_option maxRecDepth 100000 in
theorem l_N_X7_ofBand_15 {p : Program} {l : Launch} {e : Env} {s : State} {m : MethodId} {args : Array Value} {below : List Frame} {meth : Method} {c : Code} {D : va_G} {cy : Nat → ClassId} {lay : Nat → Nat} {post : Int32 → MS → Prop} (a1 : Int32) (a2 : Int32) (hC : CallFix p m c cX7_ofBand 3 s args wsX7_ofBand RX7) (hr : meth.sig.returnType = some .int) (hlocks : meth.locks = false) (hT : agT D cy lay s) : ∀ (σ : MS), u_N_X7_ofBand_15 post a1 a2 σ → ∀ (H : Heap) (locs : List Loc) (ls : Array Slot), agG D cy lay σ (agA lay s.heap.size) s.heap H locs → lv_has ls 3 [(0, .ref (lay 0)), (1, .int a1), (2, .int a2)] → W p l e rm_N_X7_ofBand s m args below meth c H locs 0 0 (MQ below (va_Qi post (agO D cy lay) (agA lay s.heap.size)) args s 0 0 (agA lay s.heap.size)) (F0 m 15 ls []) := by
  intro σ h H locs ls G hl
  unfold u_N_X7_ofBand_15 at h
  exact h.elim
def w_N_X7_ofBand (post : Int32 → MS → Prop) (σ : MS) (a1 : Int32) (a2 : Int32) : Prop := w_N_X7_checkBand (fun σ1 => ((a2 < 0 → u_N_X7_ofBand_15 post a1 a2 σ1) ∧ (¬ a2 < 0 → ((a2 ≤ 8 → ((6 ≤ a2 → ((a2 = 6 → (vp_in a1 6 ∧ post (σ1 (55 + (Int32.toNatClampNeg a1)) 2) σ1)) ∧ (¬ a2 = 6 → ((a2 = 8 → w_X7_countOfBand (fun r10 σ9 => post r10 σ9) σ1 a1 1) ∧ (¬ a2 = 8 → w_X7_countOfBand (fun r8 σ7 => post r8 σ7) σ1 a1 0))))) ∧ (¬ 6 ≤ a2 → (vp_in a1 6 ∧ (vp_in a2 6 ∧ post (σ1 (61 + (Int32.toNatClampNeg a1)) (Int32.toNatClampNeg a2)) σ1))))) ∧ (¬ a2 ≤ 8 → u_N_X7_ofBand_15 post a1 a2 σ1))))) σ a1
set_option maxHeartbeats 4000000 in
set_option maxRecDepth 100000 in
theorem c_N_X7_ofBand (l : Launch) (D : va_G) (cy : Nat → ClassId) (lay : Nat → Nat) {σ : MS} {post : Int32 → MS → Prop} {a1 : Int32} {a2 : Int32} (h : w_N_X7_ofBand post σ a1 a2) (sz : Nat) : Met l yX7_ofBand wsX7_ofBand rm_N_X7_ofBand (va_Pc [.ref (lay 0), .int a1, .int a2] (agI D cy lay σ sz)) (va_Qi post (agO D cy lay) (agA lay sz)) 0 0 (agA lay sz) := by
  refine ag_ofW (cc := cX7_ofBand) (maxL := 3) (ret := some .int) (own := RX7) (Qc := fun sz => va_Qi post (agO D cy lay) (agA lay sz)) (by decide) rfl (Nat.le_of_ble_eq_true rfl) rfl ?_
  intro p e s m args below meth c ls hC hr hlocks hT G hl
  unfold w_N_X7_ofBand at h
  have hl : lv_has ls 3 [(0, .ref (lay 0)), (1, .int a1), (2, .int a2)] := hl
  refine lv_aload_n hC.1 hC.2.1 dX7_ofBand_0 rfl (lv_at hl 0 rfl) ?_
  refine lv_iload_n hC.1 hC.2.1 dX7_ofBand_1 rfl (lv_at hl 1 rfl) ?_
  refine ag_v G (ag_runV (As := [.int a1]) (rest := []) hC hT G (c_N_X7_checkBand l D cy lay h _) (cwV 1 hC.2.2.2.2 gX7_ofBand_X7_checkBand rfl rfl rfl hdV_X7_checkBand ⟨Nat.le_of_ble_eq_true rfl, Nat.le_of_ble_eq_true rfl⟩) (ag_recv hT G (by decide) e_ag k_X7) rfl hl.1 rfl (Nat.le_of_ble_eq_true rfl) dX7_ofBand_2 ⟨Nat.le_of_ble_eq_true rfl, Nat.le_of_ble_eq_true rfl⟩) (fun σ1 H locs h G => ?_)
  (try dsimp only at h)
  refine lv_iload_n hC.1 hC.2.1 dX7_ofBand_5 rfl (lv_at hl 2 rfl) ?_
  refine lv_if_lt (tgt := 15) hC.1 hC.2.1 dX7_ofBand_6 (by decide) (fun c2 => ?_) (fun c2 => ?_)
  · replace h := h.1 c2
    exact l_N_X7_ofBand_15 a1 a2 hC hr hlocks hT _ h _ _ _ G (lv_sub hl [0, 1, 2] rfl)
  · replace h := h.2 c2
    refine lv_iload_n hC.1 hC.2.1 dX7_ofBand_9 rfl (lv_at hl 2 rfl) ?_
    refine lv_bipush (v := 8) hC.1 hC.2.1 dX7_ofBand_10 (by decide) ?_
    refine lv_icmp_le (tgt := 26) hC.1 hC.2.1 dX7_ofBand_12 (by decide) (fun c3 => ?_) (fun c3 => ?_)
    · replace h := h.1 c3
      refine lv_iload_n hC.1 hC.2.1 dX7_ofBand_26 rfl (lv_at hl 2 rfl) ?_
      refine lv_bipush (v := 6) hC.1 hC.2.1 dX7_ofBand_27 (by decide) ?_
      refine lv_icmp_ge (tgt := 44) hC.1 hC.2.1 dX7_ofBand_29 (by decide) (fun c4 => ?_) (fun c4 => ?_)
      · replace h := h.1 c4
        refine lv_iload_n hC.1 hC.2.1 dX7_ofBand_44 rfl (lv_at hl 2 rfl) ?_
        refine lv_bipush (v := 6) hC.1 hC.2.1 dX7_ofBand_45 (by decide) ?_
        refine lv_icmp_ne (tgt := 60) hC.1 hC.2.1 dX7_ofBand_47 (by decide) (fun c5 => ?_) (fun c5 => ?_)
        · replace h := h.2 c5
          refine lv_aload_n hC.1 hC.2.1 dX7_ofBand_60 rfl (lv_at hl 0 rfl) ?_
          refine lv_iload_n hC.1 hC.2.1 dX7_ofBand_61 rfl (lv_at hl 1 rfl) ?_
          refine lv_iload_n hC.1 hC.2.1 dX7_ofBand_62 rfl (lv_at hl 2 rfl) ?_
          refine lv_bipush (v := 8) hC.1 hC.2.1 dX7_ofBand_63 (by decide) ?_
          refine lv_icmp_ne (tgt := 72) hC.1 hC.2.1 dX7_ofBand_65 (by decide) (fun c6 => ?_) (fun c6 => ?_)
          · replace h := h.2 c6
            refine lv_iconst (v := 0) hC.1 hC.2.1 dX7_ofBand_72 (by decide) ?_
            refine ag_i G (ag_runV (As := [.int a1, .int 0]) (rest := []) hC hT G (c_X7_countOfBand l D cy lay h _) (cwV 2 hC.2.2.2.2 gX7_ofBand_X7_countOfBand rfl rfl rfl hdV_X7_countOfBand ⟨Nat.le_of_ble_eq_true rfl, Nat.le_of_ble_eq_true rfl⟩) (ag_recv hT G (by decide) e_ag k_X7) rfl hl.1 rfl (Nat.le_of_ble_eq_true rfl) dX7_ofBand_73 ⟨Nat.le_of_ble_eq_true rfl, Nat.le_of_ble_eq_true rfl⟩) (fun r8 σ7 H locs h G => ?_)
            (try dsimp only at h)
            exact ag_iret hC hr hlocks G h dX7_ofBand_76
          · replace h := h.1 c6
            refine lv_iconst (v := 1) hC.1 hC.2.1 dX7_ofBand_68 (by decide) ?_
            refine lv_goto (tgt := 73) hC.1 hC.2.1 dX7_ofBand_69 (by decide) ?_
            refine ag_i G (ag_runV (As := [.int a1, .int 1]) (rest := []) hC hT G (c_X7_countOfBand l D cy lay h _) (cwV 2 hC.2.2.2.2 gX7_ofBand_X7_countOfBand rfl rfl rfl hdV_X7_countOfBand ⟨Nat.le_of_ble_eq_true rfl, Nat.le_of_ble_eq_true rfl⟩) (ag_recv hT G (by decide) e_ag k_X7) rfl hl.1 rfl (Nat.le_of_ble_eq_true rfl) dX7_ofBand_73 ⟨Nat.le_of_ble_eq_true rfl, Nat.le_of_ble_eq_true rfl⟩) (fun r10 σ9 H locs h G => ?_)
            (try dsimp only at h)
            exact ag_iret hC hr hlocks G h dX7_ofBand_76
        · replace h := h.1 c5
          refine lv_aload_n hC.1 hC.2.1 dX7_ofBand_50 rfl (lv_at hl 0 rfl) ?_
          refine ag_get hC hT G (by decide) e_ag k_X7 i_N_X7_ofBand_X7 2 (by decide) (wm 3 rfl) rfl dX7_ofBand_51 ?_
          refine lv_iload_n hC.1 hC.2.1 dX7_ofBand_54 rfl (lv_at hl 1 rfl) ?_
          obtain ⟨hn11, h⟩ := h
          refine ag_aald hC hT G (by decide) _ rfl e_bds hn11 dX7_ofBand_55 ?_
          refine ag_get hC hT G (k_bd (vlt hn11)) (e_bd (vlt hn11)) k_X0 i_N_X7_ofBand_X0 2 (by decide) (wm 5 rfl) rfl dX7_ofBand_56 ?_
          exact ag_iret hC hr hlocks G h dX7_ofBand_59
      · replace h := h.2 c4
        refine lv_aload_n hC.1 hC.2.1 dX7_ofBand_32 rfl (lv_at hl 0 rfl) ?_
        refine ag_get hC hT G (by decide) e_ag k_X7 i_N_X7_ofBand_X7 2 (by decide) (wm 3 rfl) rfl dX7_ofBand_33 ?_
        refine lv_iload_n hC.1 hC.2.1 dX7_ofBand_36 rfl (lv_at hl 1 rfl) ?_
        obtain ⟨hn12, h⟩ := h
        refine ag_aald hC hT G (by decide) _ rfl e_bds hn12 dX7_ofBand_37 ?_
        refine ag_get hC hT G (k_bd (vlt hn12)) (e_bd (vlt hn12)) k_X0 i_N_X7_ofBand_X0 0 (by decide) (wm 4 rfl) rfl dX7_ofBand_38 ?_
        refine lv_iload_n hC.1 hC.2.1 dX7_ofBand_41 rfl (lv_at hl 2 rfl) ?_
        obtain ⟨hn13, h⟩ := h
        refine ag_iald hC hT G (k_nds (vlt hn12)) (e_nds (vlt hn12)) hn13 dX7_ofBand_42 ?_
        exact ag_iret hC hr hlocks G h dX7_ofBand_43
    · replace h := h.2 c3
      exact l_N_X7_ofBand_15 a1 a2 hC hr hlocks hT _ h _ _ _ G (lv_sub hl [0, 1, 2] rfl)
theorem hdV_X7_ofBand : yX7_ofBand.cls = RX7 ∧ yX7_ofBand.cls ≠ "java/lang/invoke/MethodHandle" ∧ yX7_ofBand.cls ≠ "java/lang/invoke/VarHandle" ∧ (parseMethodDescriptor yX7_ofBand.desc).map (fun d => d.parameters.length) = some 2 := by decide +kernel
abbrev rm_N_X7_ofWedding : Room := { frames := 2, cells := 0, slots := 0, locals := 47 }
theorem i_N_X7_ofWedding_X7 : ∀ w ∈ wsX70, w ∈ wsX7_ofWedding := fun _ h => List.mem_cons_of_mem _ (List.mem_append_left _ (List.mem_append_left _ (List.mem_append_left _ (List.mem_append_right _ h))))
theorem i_N_X7_ofWedding_X6 : ∀ w ∈ wsX60, w ∈ wsX7_ofWedding := fun _ h => List.mem_cons_of_mem _ (List.mem_append_left _ (List.mem_append_left _ (List.mem_append_right _ h)))
def w_N_X7_ofWedding (post : Int32 → MS → Prop) (σ : MS) (a1 : Int32) (a2 : Int32) : Prop := w_N_X7_checkWedding (fun σ1 => (vp_in a1 14 ∧ ((a2 = 0 → post (σ1 (73 + (Int32.toNatClampNeg a1)) 0) σ1) ∧ (¬ a2 = 0 → ((a2 = 1 → post (σ1 (73 + (Int32.toNatClampNeg a1)) 1) σ1) ∧ (¬ a2 = 1 → ((a2 = 2 → post (σ1 (73 + (Int32.toNatClampNeg a1)) 2) σ1) ∧ (¬ a2 = 2 → ((a2 = 3 → post (σ1 (73 + (Int32.toNatClampNeg a1)) 3) σ1) ∧ (¬ a2 = 3 → ((a2 = 4 → post (σ1 (73 + (Int32.toNatClampNeg a1)) 4) σ1) ∧ (¬ a2 = 4 → ((a2 = 5 → post (σ1 (73 + (Int32.toNatClampNeg a1)) 5) σ1) ∧ (¬ a2 = 5 → ((a2 = 6 → post (σ1 (73 + (Int32.toNatClampNeg a1)) 7) σ1) ∧ (¬ a2 = 6 → ((a2 = 7 → post (σ1 (73 + (Int32.toNatClampNeg a1)) 8) σ1) ∧ (¬ a2 = 7 → ((a2 = 8 → post (σ1 (73 + (Int32.toNatClampNeg a1)) 9) σ1) ∧ (¬ a2 = 8 → ((a2 = 9 → post (σ1 (73 + (Int32.toNatClampNeg a1)) 10) σ1) ∧ (¬ a2 = 9 → ((a2 = 10 → post (σ1 (73 + (Int32.toNatClampNeg a1)) 11) σ1) ∧ (¬ a2 = 10 → ((a2 = 11 → w_X7_placeInQueue (fun r15 σ14 => post r15 σ14) σ1 a1) ∧ (¬ a2 = 11 → ((a2 = 12 → w_X6_quarters (fun r18 σ17 => post r18 σ17) σ1 (Int32.toNatClampNeg a1)) ∧ (¬ a2 = 12 → False)))))))))))))))))))))))))))) σ a1
set_option maxHeartbeats 4000000 in
set_option maxRecDepth 100000 in
theorem c_N_X7_ofWedding (l : Launch) (D : va_G) (cy : Nat → ClassId) (lay : Nat → Nat) {σ : MS} {post : Int32 → MS → Prop} {a1 : Int32} {a2 : Int32} (h : w_N_X7_ofWedding post σ a1 a2) (sz : Nat) : Met l yX7_ofWedding wsX7_ofWedding rm_N_X7_ofWedding (va_Pc [.ref (lay 0), .int a1, .int a2] (agI D cy lay σ sz)) (va_Qi post (agO D cy lay) (agA lay sz)) 0 0 (agA lay sz) := by
  refine ag_ofW (cc := cX7_ofWedding) (maxL := 4) (ret := some .int) (own := RX7) (Qc := fun sz => va_Qi post (agO D cy lay) (agA lay sz)) (by decide) rfl (Nat.le_of_ble_eq_true rfl) rfl ?_
  intro p e s m args below meth c ls hC hr hlocks hT G hl
  unfold w_N_X7_ofWedding at h
  have hl : lv_has ls 4 [(0, .ref (lay 0)), (1, .int a1), (2, .int a2)] := hl
  refine lv_aload_n hC.1 hC.2.1 dX7_ofWedding_0 rfl (lv_at hl 0 rfl) ?_
  refine lv_iload_n hC.1 hC.2.1 dX7_ofWedding_1 rfl (lv_at hl 1 rfl) ?_
  refine ag_v G (ag_runV (As := [.int a1]) (rest := []) hC hT G (c_N_X7_checkWedding l D cy lay h _) (cwV 1 hC.2.2.2.2 gX7_ofWedding_X7_checkWedding rfl rfl rfl hdV_X7_checkWedding ⟨Nat.le_of_ble_eq_true rfl, Nat.le_of_ble_eq_true rfl⟩) (ag_recv hT G (by decide) e_ag k_X7) rfl hl.1 rfl (Nat.le_of_ble_eq_true rfl) dX7_ofWedding_2 ⟨Nat.le_of_ble_eq_true rfl, Nat.le_of_ble_eq_true rfl⟩) (fun σ1 H locs h G => ?_)
  (try dsimp only at h)
  refine lv_aload_n hC.1 hC.2.1 dX7_ofWedding_5 rfl (lv_at hl 0 rfl) ?_
  refine ag_get hC hT G (by decide) e_ag k_X7 i_N_X7_ofWedding_X7 3 (by decide) (wm 3 rfl) rfl dX7_ofWedding_6 ?_
  refine lv_iload_n hC.1 hC.2.1 dX7_ofWedding_9 rfl (lv_at hl 1 rfl) ?_
  obtain ⟨hn2, h⟩ := h
  refine ag_aald hC hT G (by decide) _ rfl e_wds hn2 dX7_ofWedding_10 ?_
  refine lv_astore_n (lv' := [(3, .ref (lay (73 + (Int32.toNatClampNeg a1)))), (0, .ref (lay 0)), (1, .int a1), (2, .int a2)]) hC.1 hC.2.1 dX7_ofWedding_11 rfl hl (by decide) rfl (fun ls hl => ?_)
  refine lv_iload_n hC.1 hC.2.1 dX7_ofWedding_12 rfl (lv_at hl 3 rfl) ?_
  rcases Decidable.em (a2 = 0) with c3 | c3
  · replace h := h.1 c3
    refine lv_tableIn (off := 67) (tgt := 80) hC.1 hC.2.1 dX7_ofWedding_13 (by rw [c3]; decide) (by rw [c3]; decide) (by rw [c3]; rfl) (by decide) ?_
    refine lv_aload_n hC.1 hC.2.1 dX7_ofWedding_80 rfl (lv_at hl 0 rfl) ?_
    refine ag_get hC hT G (k_wd (vlt hn2)) (e_wd (vlt hn2)) k_X6 i_N_X7_ofWedding_X6 0 (by decide) (wm 4 rfl) rfl dX7_ofWedding_81 ?_
    exact ag_iret hC hr hlocks G h dX7_ofWedding_84
  · replace h := h.2 c3
    rcases Decidable.em (a2 = 1) with c4 | c4
    · replace h := h.1 c4
      refine lv_tableIn (off := 72) (tgt := 85) hC.1 hC.2.1 dX7_ofWedding_13 (by rw [c4]; decide) (by rw [c4]; decide) (by rw [c4]; rfl) (by decide) ?_
      refine lv_aload_n hC.1 hC.2.1 dX7_ofWedding_85 rfl (lv_at hl 0 rfl) ?_
      refine ag_get hC hT G (k_wd (vlt hn2)) (e_wd (vlt hn2)) k_X6 i_N_X7_ofWedding_X6 1 (by decide) (wm 5 rfl) rfl dX7_ofWedding_86 ?_
      exact ag_iret hC hr hlocks G h dX7_ofWedding_89
    · replace h := h.2 c4
      rcases Decidable.em (a2 = 2) with c5 | c5
      · replace h := h.1 c5
        refine lv_tableIn (off := 77) (tgt := 90) hC.1 hC.2.1 dX7_ofWedding_13 (by rw [c5]; decide) (by rw [c5]; decide) (by rw [c5]; rfl) (by decide) ?_
        refine lv_aload_n hC.1 hC.2.1 dX7_ofWedding_90 rfl (lv_at hl 0 rfl) ?_
        refine ag_get hC hT G (k_wd (vlt hn2)) (e_wd (vlt hn2)) k_X6 i_N_X7_ofWedding_X6 2 (by decide) (wm 6 rfl) rfl dX7_ofWedding_91 ?_
        exact ag_iret hC hr hlocks G h dX7_ofWedding_94
      · replace h := h.2 c5
        rcases Decidable.em (a2 = 3) with c6 | c6
        · replace h := h.1 c6
          refine lv_tableIn (off := 82) (tgt := 95) hC.1 hC.2.1 dX7_ofWedding_13 (by rw [c6]; decide) (by rw [c6]; decide) (by rw [c6]; rfl) (by decide) ?_
          refine lv_aload_n hC.1 hC.2.1 dX7_ofWedding_95 rfl (lv_at hl 0 rfl) ?_
          refine ag_get hC hT G (k_wd (vlt hn2)) (e_wd (vlt hn2)) k_X6 i_N_X7_ofWedding_X6 3 (by decide) (wm 7 rfl) rfl dX7_ofWedding_96 ?_
          exact ag_iret hC hr hlocks G h dX7_ofWedding_99
        · replace h := h.2 c6
          rcases Decidable.em (a2 = 4) with c7 | c7
          · replace h := h.1 c7
            refine lv_tableIn (off := 87) (tgt := 100) hC.1 hC.2.1 dX7_ofWedding_13 (by rw [c7]; decide) (by rw [c7]; decide) (by rw [c7]; rfl) (by decide) ?_
            refine lv_aload_n hC.1 hC.2.1 dX7_ofWedding_100 rfl (lv_at hl 0 rfl) ?_
            refine ag_get hC hT G (k_wd (vlt hn2)) (e_wd (vlt hn2)) k_X6 i_N_X7_ofWedding_X6 4 (by decide) (wm 8 rfl) rfl dX7_ofWedding_101 ?_
            exact ag_iret hC hr hlocks G h dX7_ofWedding_104
          · replace h := h.2 c7
            rcases Decidable.em (a2 = 5) with c8 | c8
            · replace h := h.1 c8
              refine lv_tableIn (off := 92) (tgt := 105) hC.1 hC.2.1 dX7_ofWedding_13 (by rw [c8]; decide) (by rw [c8]; decide) (by rw [c8]; rfl) (by decide) ?_
              refine lv_aload_n hC.1 hC.2.1 dX7_ofWedding_105 rfl (lv_at hl 0 rfl) ?_
              refine ag_get hC hT G (k_wd (vlt hn2)) (e_wd (vlt hn2)) k_X6 i_N_X7_ofWedding_X6 5 (by decide) (wm 9 rfl) rfl dX7_ofWedding_106 ?_
              exact ag_iret hC hr hlocks G h dX7_ofWedding_109
            · replace h := h.2 c8
              rcases Decidable.em (a2 = 6) with c9 | c9
              · replace h := h.1 c9
                refine lv_tableIn (off := 97) (tgt := 110) hC.1 hC.2.1 dX7_ofWedding_13 (by rw [c9]; decide) (by rw [c9]; decide) (by rw [c9]; rfl) (by decide) ?_
                refine lv_aload_n hC.1 hC.2.1 dX7_ofWedding_110 rfl (lv_at hl 0 rfl) ?_
                refine ag_get hC hT G (k_wd (vlt hn2)) (e_wd (vlt hn2)) k_X6 i_N_X7_ofWedding_X6 7 (by decide) (wm 10 rfl) rfl dX7_ofWedding_111 ?_
                exact ag_iret hC hr hlocks G h dX7_ofWedding_114
              · replace h := h.2 c9
                rcases Decidable.em (a2 = 7) with c10 | c10
                · replace h := h.1 c10
                  refine lv_tableIn (off := 102) (tgt := 115) hC.1 hC.2.1 dX7_ofWedding_13 (by rw [c10]; decide) (by rw [c10]; decide) (by rw [c10]; rfl) (by decide) ?_
                  refine lv_aload_n hC.1 hC.2.1 dX7_ofWedding_115 rfl (lv_at hl 0 rfl) ?_
                  refine ag_get hC hT G (k_wd (vlt hn2)) (e_wd (vlt hn2)) k_X6 i_N_X7_ofWedding_X6 8 (by decide) (wm 11 rfl) rfl dX7_ofWedding_116 ?_
                  exact ag_iret hC hr hlocks G h dX7_ofWedding_119
                · replace h := h.2 c10
                  rcases Decidable.em (a2 = 8) with c11 | c11
                  · replace h := h.1 c11
                    refine lv_tableIn (off := 107) (tgt := 120) hC.1 hC.2.1 dX7_ofWedding_13 (by rw [c11]; decide) (by rw [c11]; decide) (by rw [c11]; rfl) (by decide) ?_
                    refine lv_aload_n hC.1 hC.2.1 dX7_ofWedding_120 rfl (lv_at hl 0 rfl) ?_
                    refine ag_get hC hT G (k_wd (vlt hn2)) (e_wd (vlt hn2)) k_X6 i_N_X7_ofWedding_X6 9 (by decide) (wm 12 rfl) rfl dX7_ofWedding_121 ?_
                    exact ag_iret hC hr hlocks G h dX7_ofWedding_124
                  · replace h := h.2 c11
                    rcases Decidable.em (a2 = 9) with c12 | c12
                    · replace h := h.1 c12
                      refine lv_tableIn (off := 112) (tgt := 125) hC.1 hC.2.1 dX7_ofWedding_13 (by rw [c12]; decide) (by rw [c12]; decide) (by rw [c12]; rfl) (by decide) ?_
                      refine lv_aload_n hC.1 hC.2.1 dX7_ofWedding_125 rfl (lv_at hl 0 rfl) ?_
                      refine ag_get hC hT G (k_wd (vlt hn2)) (e_wd (vlt hn2)) k_X6 i_N_X7_ofWedding_X6 10 (by decide) (wm 13 rfl) rfl dX7_ofWedding_126 ?_
                      exact ag_iret hC hr hlocks G h dX7_ofWedding_129
                    · replace h := h.2 c12
                      rcases Decidable.em (a2 = 10) with c13 | c13
                      · replace h := h.1 c13
                        refine lv_tableIn (off := 117) (tgt := 130) hC.1 hC.2.1 dX7_ofWedding_13 (by rw [c13]; decide) (by rw [c13]; decide) (by rw [c13]; rfl) (by decide) ?_
                        refine lv_aload_n hC.1 hC.2.1 dX7_ofWedding_130 rfl (lv_at hl 0 rfl) ?_
                        refine ag_get hC hT G (k_wd (vlt hn2)) (e_wd (vlt hn2)) k_X6 i_N_X7_ofWedding_X6 11 (by decide) (wm 14 rfl) rfl dX7_ofWedding_131 ?_
                        exact ag_iret hC hr hlocks G h dX7_ofWedding_134
                      · replace h := h.2 c13
                        rcases Decidable.em (a2 = 11) with c16 | c16
                        · replace h := h.1 c16
                          refine lv_tableIn (off := 122) (tgt := 135) hC.1 hC.2.1 dX7_ofWedding_13 (by rw [c16]; decide) (by rw [c16]; decide) (by rw [c16]; rfl) (by decide) ?_
                          refine lv_aload_n hC.1 hC.2.1 dX7_ofWedding_135 rfl (lv_at hl 1 rfl) ?_
                          refine lv_iload_n hC.1 hC.2.1 dX7_ofWedding_136 rfl (lv_at hl 2 rfl) ?_
                          refine ag_i G (ag_runV (As := [.int a1]) (rest := []) hC hT G (c_X7_placeInQueue l D cy lay h _) (cwV 1 hC.2.2.2.2 gX7_ofWedding_X7_placeInQueue rfl rfl rfl hdV_X7_placeInQueue ⟨Nat.le_of_ble_eq_true rfl, Nat.le_of_ble_eq_true rfl⟩) (ag_recv hT G (by decide) e_ag k_X7) rfl hl.1 rfl (Nat.le_of_ble_eq_true rfl) dX7_ofWedding_137 ⟨Nat.le_of_ble_eq_true rfl, Nat.le_of_ble_eq_true rfl⟩) (fun r15 σ14 H locs h G => ?_)
                          (try dsimp only at h)
                          exact ag_iret hC hr hlocks G h dX7_ofWedding_140
                        · replace h := h.2 c16
                          rcases Decidable.em (a2 = 12) with c19 | c19
                          · replace h := h.1 c19
                            refine lv_tableIn (off := 128) (tgt := 141) hC.1 hC.2.1 dX7_ofWedding_13 (by rw [c19]; decide) (by rw [c19]; decide) (by rw [c19]; rfl) (by decide) ?_
                            refine lv_aload_n hC.1 hC.2.1 dX7_ofWedding_141 rfl (lv_at hl 0 rfl) ?_
                            refine ag_i G (ag_runV (As := []) (rest := []) hC hT G (c_X6_quarters l D cy lay h (vlt hn2) _) (cwV 0 hC.2.2.2.2 gX7_ofWedding_X6_quarters rfl rfl rfl hdV_X6_quarters ⟨Nat.le_of_ble_eq_true rfl, Nat.le_of_ble_eq_true rfl⟩) (ag_recv hT G (k_wd (vlt hn2)) (e_wd (vlt hn2)) k_X6) rfl hl.1 rfl (Nat.le_of_ble_eq_true rfl) dX7_ofWedding_142 ⟨Nat.le_of_ble_eq_true rfl, Nat.le_of_ble_eq_true rfl⟩) (fun r18 σ17 H locs h G => ?_)
                            (try dsimp only at h)
                            exact ag_iret hC hr hlocks G h dX7_ofWedding_145
                          · replace h := h.2 c19
                            refine lv_tableOut (tgt := 146) hC.1 hC.2.1 dX7_ofWedding_13 (tsw_out 13 rfl (by decide) (fun k hk => by rcases (show k = 0 ∨ k = 1 ∨ k = 2 ∨ k = 3 ∨ k = 4 ∨ k = 5 ∨ k = 6 ∨ k = 7 ∨ k = 8 ∨ k = 9 ∨ k = 10 ∨ k = 11 ∨ k = 12 by omega) with rfl | rfl | rfl | rfl | rfl | rfl | rfl | rfl | rfl | rfl | rfl | rfl | rfl <;> assumption)) (by decide) ?_
                            exact h.elim
theorem hdV_X7_ofWedding : yX7_ofWedding.cls = RX7 ∧ yX7_ofWedding.cls ≠ "java/lang/invoke/MethodHandle" ∧ yX7_ofWedding.cls ≠ "java/lang/invoke/VarHandle" ∧ (parseMethodDescriptor yX7_ofWedding.desc).map (fun d => d.parameters.length) = some 2 := by decide +kernel
