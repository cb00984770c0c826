section
abbrev rm_T_X7_pass : Room := { frames := 6, cells := 1, slots := 6, locals := 114 }
theorem i_T_X7_pass_X7 : ∀ w ∈ wsX70, w ∈ wsX7_pass := fun _ h => List.mem_cons_of_mem _ (List.mem_append_left _ (List.mem_append_left _ (List.mem_append_left _ (List.mem_append_left _ (List.mem_append_left _ (List.mem_append_left _ (List.mem_append_left _ (List.mem_append_right _ h))))))))
def u_T_X7_pass_11 (post : Int32 → MS → Prop) (pex : String → MS → Prop) (a1 : Int32) (σ : MS) : Prop := pex "java/lang/IllegalArgumentException" σ
set_option maxHeartbeats 4000000 in
set_option maxRecDepth 100000 in
theorem l_T_X7_pass_11 {p : Program} {l : Launch} {e : Env} {s : State} {m : MethodId} {args : Array Value} {below : List Frame} {meth : Method} {c : Code} {D : va_G} {cy : Nat → ClassId} {lay : Nat → Nat} {post : Int32 → MS → Prop} {pex : String → MS → Prop} (a1 : Int32) (hl0 : l.stackTraces = false) (hC : CallFix p m c cX7_pass 3 s args wsX7_pass RX7) (hr : meth.sig.returnType = some .int) (hlocks : meth.locks = false) (htab : ∀ x ∈ c.exceptionTable.toList, False) (hT : agT D cy lay s) : ∀ (σ : MS), u_T_X7_pass_11 post pex a1 σ → ∀ (H : Heap) (locs : List Loc) (ls : Array Slot), agG D cy lay σ (agA lay s.heap.size) s.heap H locs → lv_has ls 3 [(0, .ref (lay 0)), (1, .int a1)] → W p l e rm_T_X7_pass s m args below meth c H locs 0 0 (vx_MQ below (va_Qi post (agO D cy lay) (agA lay s.heap.size)) (agXC D cy lay pex s.heap.size) args s 1 6 (agA lay s.heap.size)) (F0 m 11 ls []) := by
  intro σ h H locs ls G hl
  unfold u_T_X7_pass_11 at h
  exact ag_throwW (text := "not so many days") (names := ["java/lang/RuntimeException", "java/lang/Exception"]) hl0 hC hT G htab hlocks hl.1 (by decide) (by decide) (wm 1 rfl) (wm 2 rfl) (List.mem_of_getElem? (i := 16) rfl) (fun _ h => List.mem_cons_of_mem _ (List.mem_append_left _ (List.mem_append_right _ h))) exIAE_all exIAE_good dX7_pass_11 dX7_pass_14 dX7_pass_15 dX7_pass_18 dX7_pass_21 (by decide) (Nat.le_of_ble_eq_true rfl) (Nat.le_of_ble_eq_true rfl) (Nat.le_of_ble_eq_true rfl) (by decide) (by decide) h
def u_T_X7_pass_47 (post : Int32 → MS → Prop) (pex : String → MS → Prop) (a1 : Int32) : Nat → MS → Int32 → Prop
  | 0, _, _ => False
  | n + 1, σ, v2 => ((a1 ≤ v2 → post (σ 0 9) σ) ∧ (¬ a1 ≤ v2 → w_X7_endToday (fun σ5 => w_X7_loseThoseWhoWaited (fun σ6 => u_T_X7_pass_47 post pex a1 n σ6 (v2 + 1)) (up2 σ5 0 9 ((σ5 0 9) + 1))) σ))
set_option maxHeartbeats 4000000 in
set_option maxRecDepth 100000 in
theorem l_T_X7_pass_47 {p : Program} {l : Launch} {e : Env} {s : State} {m : MethodId} {args : Array Value} {below : List Frame} {meth : Method} {c : Code} {D : va_G} {cy : Nat → ClassId} {lay : Nat → Nat} {post : Int32 → MS → Prop} {pex : String → MS → Prop} (a1 : Int32) (hl0 : l.stackTraces = false) (hC : CallFix p m c cX7_pass 3 s args wsX7_pass RX7) (hr : meth.sig.returnType = some .int) (hlocks : meth.locks = false) (htab : ∀ x ∈ c.exceptionTable.toList, False) (hT : agT D cy lay s) : ∀ (n : Nat), ∀ (σ : MS) (v2 : Int32), u_T_X7_pass_47 post pex a1 n σ v2 → ∀ (H : Heap) (locs : List Loc) (ls : Array Slot), agG D cy lay σ (agA lay s.heap.size) s.heap H locs → lv_has ls 3 [(0, .ref (lay 0)), (1, .int a1), (2, .int v2)] → W p l e rm_T_X7_pass s m args below meth c H locs 0 0 (vx_MQ below (va_Qi post (agO D cy lay) (agA lay s.heap.size)) (agXC D cy lay pex s.heap.size) args s 1 6 (agA lay s.heap.size)) (F0 m 47 ls []) := by
  intro n
  induction n with
  | zero =>
    intro σ v2 h
    exact h.elim
  | succ n ih =>
    intro σ v2 h H locs ls G hl
    rw [u_T_X7_pass_47] at h
    refine lv_iload_n hC.1 hC.2.1 dX7_pass_47 rfl (lv_at hl 2 rfl) ?_
    refine lv_iload_n hC.1 hC.2.1 dX7_pass_48 rfl (lv_at hl 1 rfl) ?_
    refine lv_icmp_ge (tgt := 76) hC.1 hC.2.1 dX7_pass_49 (by decide) (fun c4 => ?_) (fun c4 => ?_)
    · replace h := h.1 c4
      refine lv_aload_n hC.1 hC.2.1 dX7_pass_76 rfl (lv_at hl 0 rfl) ?_
      refine ag_get hC hT G (by decide) e_ag k_X7 i_T_X7_pass_X7 9 (by decide) (wm 5 rfl) rfl dX7_pass_77 ?_
      refine W.widen (k := 1) (n := 6) (by decide) (by decide) ?_
      exact vx_ret (ag_iret hC hr hlocks G h dX7_pass_80)
    · replace h := h.2 c4
      refine lv_aload_n hC.1 hC.2.1 dX7_pass_52 rfl (lv_at hl 0 rfl) ?_
      refine ag_v G (ag_runV (As := []) (rest := []) hC hT G (c_X7_endToday l D cy lay h _) (cwV 0 hC.2.2.2.2 gX7_pass_X7_endToday rfl rfl rfl hdV_X7_endToday ⟨Nat.le_of_ble_eq_true rfl, Nat.le_of_ble_eq_true rfl⟩) (ag_recv hT G (by decide) e_ag k_X7) rfl hl.1 rfl (Nat.le_of_ble_eq_true rfl) dX7_pass_53 ⟨Nat.le_of_ble_eq_true rfl, Nat.le_of_ble_eq_true rfl⟩) (fun σ5 H locs h G => ?_)
      (try dsimp only at h)
      refine lv_aload_n hC.1 hC.2.1 dX7_pass_56 rfl (lv_at hl 0 rfl) ?_
      refine lv_dup hC.1 hC.2.1 dX7_pass_57 rfl ?_
      refine ag_get hC hT G (by decide) e_ag k_X7 i_T_X7_pass_X7 9 (by decide) (wm 5 rfl) rfl dX7_pass_58 ?_
      refine lv_iconst (v := 1) hC.1 hC.2.1 dX7_pass_61 (by decide) ?_
      refine lv_iadd hC.1 hC.2.1 dX7_pass_62 ?_
      refine ag_put hC hT G (by decide) e_ag k_X7 i_T_X7_pass_X7 9 (by decide) (wm 5 rfl) rfl rfl (by simp) e_ag rfl dX7_pass_63 (fun H locs G => ?_)
      refine lv_aload_n hC.1 hC.2.1 dX7_pass_66 rfl (lv_at hl 0 rfl) ?_
      refine ag_v G (ag_runV (As := []) (rest := []) hC hT G (c_X7_loseThoseWhoWaited l D cy lay h _) (cwV 0 hC.2.2.2.2 gX7_pass_X7_loseThoseWhoWaited rfl rfl rfl hdV_X7_loseThoseWhoWaited ⟨Nat.le_of_ble_eq_true rfl, Nat.le_of_ble_eq_true rfl⟩) (ag_recv hT G (by decide) e_ag k_X7) rfl hl.1 rfl (Nat.le_of_ble_eq_true rfl) dX7_pass_67 ⟨Nat.le_of_ble_eq_true rfl, Nat.le_of_ble_eq_true rfl⟩) (fun σ6 H locs h G => ?_)
      (try dsimp only at h)
      refine lv_iinc (v := v2 + 1) (lv' := [(2, .int (v2 + 1)), (0, .ref (lay 0)), (1, .int a1)]) hC.1 hC.2.1 dX7_pass_70 hl (k := 2) rfl rfl (by decide) rfl (fun ls hl => ?_)
      refine lv_goto (tgt := 47) hC.1 hC.2.1 dX7_pass_73 (by decide) ?_
      exact ih _ _ h _ _ _ G (lv_sub hl [1, 2, 0] rfl)
def w_T_X7_pass (post : Int32 → MS → Prop) (pex : String → MS → Prop) (σ : MS) (a1 : Int32) : Prop := ((a1 < 1 → u_T_X7_pass_11 post pex a1 σ) ∧ (¬ a1 < 1 → ((a1 ≤ 60 → ((((σ 0 9) + a1) ≤ 365 → (∃ k, u_T_X7_pass_47 post pex a1 k σ 0)) ∧ (¬ ((σ 0 9) + a1) ≤ 365 → pex "java/lang/IllegalStateException" σ))) ∧ (¬ a1 ≤ 60 → u_T_X7_pass_11 post pex a1 σ))))
set_option maxHeartbeats 4000000 in
set_option maxRecDepth 100000 in
theorem c_T_X7_pass (l : Launch) (hl0 : l.stackTraces = false) (D : va_G) (cy : Nat → ClassId) (lay : Nat → Nat) {σ : MS} {post : Int32 → MS → Prop} {pex : String → MS → Prop} {a1 : Int32} (h : w_T_X7_pass post pex σ a1) (sz : Nat) : vx_Met l yX7_pass wsX7_pass rm_T_X7_pass (va_Pc [.ref (lay 0), .int a1] (agI D cy lay σ sz)) (va_Qi post (agO D cy lay) (agA lay sz)) (agXC D cy lay pex sz) 1 6 (agA lay sz) := by
  refine ag_ofX (cc := cX7_pass) (maxL := 3) (ret := some .int) (own := RX7) (Qc := fun sz => va_Qi post (agO D cy lay) (agA lay sz)) (by decide) rfl (Nat.le_of_ble_eq_true rfl) rfl ?_
  intro p e s m args below meth c ls hC hr hlocks htab hT G hl
  unfold w_T_X7_pass at h
  have hl : lv_has ls 3 [(0, .ref (lay 0)), (1, .int a1)] := hl
  refine lv_iload_n hC.1 hC.2.1 dX7_pass_0 rfl (lv_at hl 1 rfl) ?_
  refine lv_iconst (v := 1) hC.1 hC.2.1 dX7_pass_1 (by decide) ?_
  refine lv_icmp_lt (tgt := 11) hC.1 hC.2.1 dX7_pass_2 (by decide) (fun c1 => ?_) (fun c1 => ?_)
  · replace h := h.1 c1
    exact l_T_X7_pass_11 a1 hl0 hC hr hlocks htab hT _ h _ _ _ G (lv_sub hl [0, 1] rfl)
  · replace h := h.2 c1
    refine lv_iload_n hC.1 hC.2.1 dX7_pass_5 rfl (lv_at hl 1 rfl) ?_
    refine lv_bipush (v := 60) hC.1 hC.2.1 dX7_pass_6 (by decide) ?_
    refine lv_icmp_le (tgt := 22) hC.1 hC.2.1 dX7_pass_8 (by decide) (fun c2 => ?_) (fun c2 => ?_)
    · replace h := h.1 c2
      refine lv_aload_n hC.1 hC.2.1 dX7_pass_22 rfl (lv_at hl 0 rfl) ?_
      refine ag_get hC hT G (by decide) e_ag k_X7 i_T_X7_pass_X7 9 (by decide) (wm 5 rfl) rfl dX7_pass_23 ?_
      refine lv_iload_n hC.1 hC.2.1 dX7_pass_26 rfl (lv_at hl 1 rfl) ?_
      refine lv_iadd hC.1 hC.2.1 dX7_pass_27 ?_
      refine lv_sipush (v := 365) hC.1 hC.2.1 dX7_pass_28 (by decide) ?_
      refine lv_icmp_le (tgt := 45) hC.1 hC.2.1 dX7_pass_31 (by decide) (fun c3 => ?_) (fun c3 => ?_)
      · replace h := h.1 c3
        refine lv_iconst (v := 0) hC.1 hC.2.1 dX7_pass_45 (by decide) ?_
        refine lv_istore_n (lv' := [(2, .int 0), (0, .ref (lay 0)), (1, .int a1)]) hC.1 hC.2.1 dX7_pass_46 rfl hl (by decide) rfl (fun ls hl => ?_)
        obtain ⟨n1, h⟩ := h
        exact l_T_X7_pass_47 a1 hl0 hC hr hlocks htab hT n1 _ _ h _ _ _ G (lv_sub hl [1, 2, 0] rfl)
      · replace h := h.2 c3
        exact ag_throwW (text := "there is no such day") (names := ["java/lang/RuntimeException", "java/lang/Exception"]) hl0 hC hT G htab hlocks hl.1 (by decide) (by decide) (wm 3 rfl) (wm 4 rfl) (List.mem_of_getElem? (i := 17) rfl) (fun _ h => List.mem_cons_of_mem _ (List.mem_append_right _ h)) exISE_all exISE_good dX7_pass_34 dX7_pass_37 dX7_pass_38 dX7_pass_41 dX7_pass_44 (by decide) (Nat.le_of_ble_eq_true rfl) (Nat.le_of_ble_eq_true rfl) (Nat.le_of_ble_eq_true rfl) (by decide) (by decide) h
    · replace h := h.2 c2
      exact l_T_X7_pass_11 a1 hl0 hC hr hlocks htab hT _ h _ _ _ G (lv_sub hl [0, 1] rfl)
theorem hdV_X7_pass : yX7_pass.cls = RX7 ∧ yX7_pass.cls ≠ "java/lang/invoke/MethodHandle" ∧ yX7_pass.cls ≠ "java/lang/invoke/VarHandle" ∧ (parseMethodDescriptor yX7_pass.desc).map (fun d => d.parameters.length) = some 1 := by decide +kernel
abbrev rm_T_X7_ofPlayer : Room := { frames := 7, cells := 2, slots := 12, locals := 103 }
theorem i_T_X7_ofPlayer_X7 : ∀ w ∈ wsX70, w ∈ wsX7_ofPlayer := fun _ h => List.mem_cons_of_mem _ (List.mem_append_left _ (List.mem_append_left _ (List.mem_append_left _ (List.mem_append_left _ (List.mem_append_right _ h)))))
theorem i_T_X7_ofPlayer_X3 : ∀ w ∈ wsX30, w ∈ wsX7_ofPlayer := fun _ h => List.mem_cons_of_mem _ (List.mem_append_left _ (List.mem_append_left _ (List.mem_append_left _ (List.mem_append_right _ h))))
def w_T_X7_ofPlayer (post : Int32 → MS → Prop) (pex : String → MS → Prop) (σ : MS) (a1 : Int32) (a2 : Int32) : Prop := w_T_X7_checkPlayer (fun σ1 => (vp_in a1 10 ∧ ((a2 = 0 → post (σ1 (29 + (Int32.toNatClampNeg a1)) 0) σ1) ∧ (¬ a2 = 0 → ((a2 = 1 → post (σ1 (29 + (Int32.toNatClampNeg a1)) 1) σ1) ∧ (¬ a2 = 1 → ((a2 = 2 → post (σ1 (29 + (Int32.toNatClampNeg a1)) 2) σ1) ∧ (¬ a2 = 2 → ((a2 = 3 → post (σ1 (29 + (Int32.toNatClampNeg a1)) 3) σ1) ∧ (¬ a2 = 3 → ((a2 = 4 → post (σ1 (29 + (Int32.toNatClampNeg a1)) 4) σ1) ∧ (¬ a2 = 4 → ((a2 = 5 → post (σ1 (29 + (Int32.toNatClampNeg a1)) 5) σ1) ∧ (¬ a2 = 5 → ((a2 = 6 → w_X7_countFixedWith (fun r10 σ9 => post r10 σ9) σ1 a1) ∧ (¬ a2 = 6 → ((a2 = 7 → post (σ1 (29 + (Int32.toNatClampNeg a1)) 6) σ1) ∧ (¬ a2 = 7 → ((a2 = 8 → post (σ1 (29 + (Int32.toNatClampNeg a1)) 7) σ1) ∧ (¬ a2 = 8 → pex "java/lang/IllegalArgumentException" σ1)))))))))))))))))))) pex σ a1
set_option maxHeartbeats 4000000 in
set_option maxRecDepth 100000 in
theorem c_T_X7_ofPlayer (l : Launch) (hl0 : l.stackTraces = false) (D : va_G) (cy : Nat → ClassId) (lay : Nat → Nat) {σ : MS} {post : Int32 → MS → Prop} {pex : String → MS → Prop} {a1 : Int32} {a2 : Int32} (h : w_T_X7_ofPlayer post pex σ a1 a2) (sz : Nat) : vx_Met l yX7_ofPlayer wsX7_ofPlayer rm_T_X7_ofPlayer (va_Pc [.ref (lay 0), .int a1, .int a2] (agI D cy lay σ sz)) (va_Qi post (agO D cy lay) (agA lay sz)) (agXC D cy lay pex sz) 2 12 (agA lay sz) := by
  refine ag_ofX (cc := cX7_ofPlayer) (maxL := 4) (ret := some .int) (own := RX7) (Qc := fun sz => va_Qi post (agO D cy lay) (agA lay sz)) (by decide) rfl (Nat.le_of_ble_eq_true rfl) rfl ?_
  intro p e s m args below meth c ls hC hr hlocks htab hT G hl
  unfold w_T_X7_ofPlayer at h
  have hl : lv_has ls 4 [(0, .ref (lay 0)), (1, .int a1), (2, .int a2)] := hl
  refine lv_aload_n hC.1 hC.2.1 dX7_ofPlayer_0 rfl (lv_at hl 0 rfl) ?_
  refine lv_iload_n hC.1 hC.2.1 dX7_ofPlayer_1 rfl (lv_at hl 1 rfl) ?_
  refine ag_vT G htab hlocks (ag_runVT (As := [.int a1]) (rest := []) hC hT G (c_T_X7_checkPlayer l hl0 D cy lay h _) (cwV 1 hC.2.2.2.2 gX7_ofPlayer_X7_checkPlayer rfl rfl rfl hdV_X7_checkPlayer ⟨Nat.le_of_ble_eq_true rfl, Nat.le_of_ble_eq_true rfl⟩) (ag_recv hT G (by decide) e_ag k_X7) rfl hl.1 rfl (Nat.le_of_ble_eq_true rfl) dX7_ofPlayer_2 ⟨Nat.le_of_ble_eq_true rfl, Nat.le_of_ble_eq_true rfl⟩) (by decide) (by decide) (fun σ1 H locs h G => ?_)
  (try dsimp only at h)
  refine lv_aload_n hC.1 hC.2.1 dX7_ofPlayer_5 rfl (lv_at hl 0 rfl) ?_
  refine ag_get hC hT G (by decide) e_ag k_X7 i_T_X7_ofPlayer_X7 0 (by decide) (wm 3 rfl) rfl dX7_ofPlayer_6 ?_
  refine lv_iload_n hC.1 hC.2.1 dX7_ofPlayer_9 rfl (lv_at hl 1 rfl) ?_
  obtain ⟨hn2, h⟩ := h
  refine ag_aald hC hT G (by decide) _ rfl e_pls hn2 dX7_ofPlayer_10 ?_
  refine lv_astore_n (lv' := [(3, .ref (lay (29 + (Int32.toNatClampNeg a1)))), (0, .ref (lay 0)), (1, .int a1), (2, .int a2)]) hC.1 hC.2.1 dX7_ofPlayer_11 rfl hl (by decide) rfl (fun ls hl => ?_)
  refine lv_iload_n hC.1 hC.2.1 dX7_ofPlayer_12 rfl (lv_at hl 3 rfl) ?_
  rcases Decidable.em (a2 = 0) with c3 | c3
  · replace h := h.1 c3
    refine lv_tableIn (off := 51) (tgt := 64) hC.1 hC.2.1 dX7_ofPlayer_13 (by rw [c3]; decide) (by rw [c3]; decide) (by rw [c3]; rfl) (by decide) ?_
    refine lv_aload_n hC.1 hC.2.1 dX7_ofPlayer_64 rfl (lv_at hl 0 rfl) ?_
    refine ag_get hC hT G (k_pl (vlt hn2)) (e_pl (vlt hn2)) k_X3 i_T_X7_ofPlayer_X3 0 (by decide) (wm 4 rfl) rfl dX7_ofPlayer_65 ?_
    refine W.widen (k := 2) (n := 12) (by decide) (by decide) ?_
    exact vx_ret (ag_iret hC hr hlocks G h dX7_ofPlayer_68)
  · replace h := h.2 c3
    rcases Decidable.em (a2 = 1) with c4 | c4
    · replace h := h.1 c4
      refine lv_tableIn (off := 56) (tgt := 69) hC.1 hC.2.1 dX7_ofPlayer_13 (by rw [c4]; decide) (by rw [c4]; decide) (by rw [c4]; rfl) (by decide) ?_
      refine lv_aload_n hC.1 hC.2.1 dX7_ofPlayer_69 rfl (lv_at hl 0 rfl) ?_
      refine ag_get hC hT G (k_pl (vlt hn2)) (e_pl (vlt hn2)) k_X3 i_T_X7_ofPlayer_X3 1 (by decide) (wm 5 rfl) rfl dX7_ofPlayer_70 ?_
      refine W.widen (k := 2) (n := 12) (by decide) (by decide) ?_
      exact vx_ret (ag_iret hC hr hlocks G h dX7_ofPlayer_73)
    · replace h := h.2 c4
      rcases Decidable.em (a2 = 2) with c5 | c5
      · replace h := h.1 c5
        refine lv_tableIn (off := 61) (tgt := 74) hC.1 hC.2.1 dX7_ofPlayer_13 (by rw [c5]; decide) (by rw [c5]; decide) (by rw [c5]; rfl) (by decide) ?_
        refine lv_aload_n hC.1 hC.2.1 dX7_ofPlayer_74 rfl (lv_at hl 0 rfl) ?_
        refine ag_get hC hT G (k_pl (vlt hn2)) (e_pl (vlt hn2)) k_X3 i_T_X7_ofPlayer_X3 2 (by decide) (wm 6 rfl) rfl dX7_ofPlayer_75 ?_
        refine W.widen (k := 2) (n := 12) (by decide) (by decide) ?_
        exact vx_ret (ag_iret hC hr hlocks G h dX7_ofPlayer_78)
      · replace h := h.2 c5
        rcases Decidable.em (a2 = 3) with c6 | c6
        · replace h := h.1 c6
          refine lv_tableIn (off := 66) (tgt := 79) hC.1 hC.2.1 dX7_ofPlayer_13 (by rw [c6]; decide) (by rw [c6]; decide) (by rw [c6]; rfl) (by decide) ?_
          refine lv_aload_n hC.1 hC.2.1 dX7_ofPlayer_79 rfl (lv_at hl 0 rfl) ?_
          refine ag_get hC hT G (k_pl (vlt hn2)) (e_pl (vlt hn2)) k_X3 i_T_X7_ofPlayer_X3 3 (by decide) (wm 7 rfl) rfl dX7_ofPlayer_80 ?_
          refine W.widen (k := 2) (n := 12) (by decide) (by decide) ?_
          exact vx_ret (ag_iret hC hr hlocks G h dX7_ofPlayer_83)
        · replace h := h.2 c6
          rcases Decidable.em (a2 = 4) with c7 | c7
          · replace h := h.1 c7
            refine lv_tableIn (off := 71) (tgt := 84) hC.1 hC.2.1 dX7_ofPlayer_13 (by rw [c7]; decide) (by rw [c7]; decide) (by rw [c7]; rfl) (by decide) ?_
            refine lv_aload_n hC.1 hC.2.1 dX7_ofPlayer_84 rfl (lv_at hl 0 rfl) ?_
            refine ag_get hC hT G (k_pl (vlt hn2)) (e_pl (vlt hn2)) k_X3 i_T_X7_ofPlayer_X3 4 (by decide) (wm 8 rfl) rfl dX7_ofPlayer_85 ?_
            refine W.widen (k := 2) (n := 12) (by decide) (by decide) ?_
            exact vx_ret (ag_iret hC hr hlocks G h dX7_ofPlayer_88)
          · replace h := h.2 c7
            rcases Decidable.em (a2 = 5) with c8 | c8
            · replace h := h.1 c8
              refine lv_tableIn (off := 76) (tgt := 89) hC.1 hC.2.1 dX7_ofPlayer_13 (by rw [c8]; decide) (by rw [c8]; decide) (by rw [c8]; rfl) (by decide) ?_
              refine lv_aload_n hC.1 hC.2.1 dX7_ofPlayer_89 rfl (lv_at hl 0 rfl) ?_
              refine ag_get hC hT G (k_pl (vlt hn2)) (e_pl (vlt hn2)) k_X3 i_T_X7_ofPlayer_X3 5 (by decide) (wm 9 rfl) rfl dX7_ofPlayer_90 ?_
              refine W.widen (k := 2) (n := 12) (by decide) (by decide) ?_
              exact vx_ret (ag_iret hC hr hlocks G h dX7_ofPlayer_93)
            · replace h := h.2 c8
              rcases Decidable.em (a2 = 6) with c11 | c11
              · replace h := h.1 c11
                refine lv_tableIn (off := 81) (tgt := 94) hC.1 hC.2.1 dX7_ofPlayer_13 (by rw [c11]; decide) (by rw [c11]; decide) (by rw [c11]; rfl) (by decide) ?_
                refine lv_aload_n hC.1 hC.2.1 dX7_ofPlayer_94 rfl (lv_at hl 1 rfl) ?_
                refine lv_iload_n hC.1 hC.2.1 dX7_ofPlayer_95 rfl (lv_at hl 2 rfl) ?_
                refine ag_i G (ag_runV (As := [.int a1]) (rest := []) hC hT G (c_X7_countFixedWith l D cy lay h _) (cwV 1 hC.2.2.2.2 gX7_ofPlayer_X7_countFixedWith rfl rfl rfl hdV_X7_countFixedWith ⟨Nat.le_of_ble_eq_true rfl, Nat.le_of_ble_eq_true rfl⟩) (ag_recv hT G (by decide) e_ag k_X7) rfl hl.1 rfl (Nat.le_of_ble_eq_true rfl) dX7_ofPlayer_96 ⟨Nat.le_of_ble_eq_true rfl, Nat.le_of_ble_eq_true rfl⟩) (fun r10 σ9 H locs h G => ?_)
                (try dsimp only at h)
                refine W.widen (k := 2) (n := 12) (by decide) (by decide) ?_
                exact vx_ret (ag_iret hC hr hlocks G h dX7_ofPlayer_99)
              · replace h := h.2 c11
                rcases Decidable.em (a2 = 7) with c12 | c12
                · replace h := h.1 c12
                  refine lv_tableIn (off := 87) (tgt := 100) hC.1 hC.2.1 dX7_ofPlayer_13 (by rw [c12]; decide) (by rw [c12]; decide) (by rw [c12]; rfl) (by decide) ?_
                  refine lv_aload_n hC.1 hC.2.1 dX7_ofPlayer_100 rfl (lv_at hl 0 rfl) ?_
                  refine ag_get hC hT G (k_pl (vlt hn2)) (e_pl (vlt hn2)) k_X3 i_T_X7_ofPlayer_X3 6 (by decide) (wm 10 rfl) rfl dX7_ofPlayer_101 ?_
                  refine W.widen (k := 2) (n := 12) (by decide) (by decide) ?_
                  exact vx_ret (ag_iret hC hr hlocks G h dX7_ofPlayer_104)
                · replace h := h.2 c12
                  rcases Decidable.em (a2 = 8) with c13 | c13
                  · replace h := h.1 c13
                    refine lv_tableIn (off := 92) (tgt := 105) hC.1 hC.2.1 dX7_ofPlayer_13 (by rw [c13]; decide) (by rw [c13]; decide) (by rw [c13]; rfl) (by decide) ?_
                    refine lv_aload_n hC.1 hC.2.1 dX7_ofPlayer_105 rfl (lv_at hl 0 rfl) ?_
                    refine ag_get hC hT G (k_pl (vlt hn2)) (e_pl (vlt hn2)) k_X3 i_T_X7_ofPlayer_X3 7 (by decide) (wm 11 rfl) rfl dX7_ofPlayer_106 ?_
                    refine W.widen (k := 2) (n := 12) (by decide) (by decide) ?_
                    exact vx_ret (ag_iret hC hr hlocks G h dX7_ofPlayer_109)
                  · replace h := h.2 c13
                    refine lv_tableOut (tgt := 110) hC.1 hC.2.1 dX7_ofPlayer_13 (tsw_out 9 rfl (by decide) (fun k hk => by rcases (show k = 0 ∨ k = 1 ∨ k = 2 ∨ k = 3 ∨ k = 4 ∨ k = 5 ∨ k = 6 ∨ k = 7 ∨ k = 8 by omega) with rfl | rfl | rfl | rfl | rfl | rfl | rfl | rfl | rfl <;> assumption)) (by decide) ?_
                    exact ag_throwW (text := "nothing like that is known of a player") (names := ["java/lang/RuntimeException", "java/lang/Exception"]) hl0 hC hT G htab hlocks hl.1 (by decide) (by decide) (wm 1 rfl) (wm 2 rfl) (List.mem_of_getElem? (i := 18) rfl) (fun _ h => List.mem_cons_of_mem _ (List.mem_append_left _ (List.mem_append_right _ h))) exIAE_all exIAE_good dX7_ofPlayer_110 dX7_ofPlayer_113 dX7_ofPlayer_114 dX7_ofPlayer_117 dX7_ofPlayer_120 (by decide) (Nat.le_of_ble_eq_true rfl) (Nat.le_of_ble_eq_true rfl) (Nat.le_of_ble_eq_true rfl) (by decide) (by decide) h
abbrev rm_T_X7_ofSong : Room := { frames := 7, cells := 2, slots := 12, locals := 102 }
theorem i_T_X7_ofSong_X7 : ∀ w ∈ wsX70, w ∈ wsX7_ofSong := fun _ h => List.mem_cons_of_mem _ (List.mem_append_left _ (List.mem_append_left _ (List.mem_append_left _ (List.mem_append_left _ (List.mem_append_right _ h)))))
theorem i_T_X7_ofSong_X5 : ∀ w ∈ wsX50, w ∈ wsX7_ofSong := fun _ h => List.mem_cons_of_mem _ (List.mem_append_left _ (List.mem_append_left _ (List.mem_append_left _ (List.mem_append_right _ h))))
def w_T_X7_ofSong (post : Int32 → MS → Prop) (pex : String → MS → Prop) (σ : MS) (a1 : Int32) (a2 : Int32) : Prop := w_T_X7_checkSong (fun σ1 => (vp_in a1 16 ∧ ((a2 = 0 → post (σ1 (39 + (Int32.toNatClampNeg a1)) 0) σ1) ∧ (¬ a2 = 0 → ((a2 = 1 → post (σ1 (39 + (Int32.toNatClampNeg a1)) 1) σ1) ∧ (¬ a2 = 1 → ((a2 = 2 → post (σ1 (39 + (Int32.toNatClampNeg a1)) 2) σ1) ∧ (¬ a2 = 2 → ((a2 = 3 → post (σ1 (39 + (Int32.toNatClampNeg a1)) 3) σ1) ∧ (¬ a2 = 3 → ((a2 = 4 → w_X7_shareOf (fun r8 σ7 => post r8 σ7) σ1 (Int32.toNatClampNeg a1)) ∧ (¬ a2 = 4 → ((a2 = 5 → w_X7_countKnowing (fun r11 σ10 => post r11 σ10) σ1 a1) ∧ (¬ a2 = 5 → pex "java/lang/IllegalArgumentException" σ1)))))))))))))) pex σ a1
set_option maxHeartbeats 4000000 in
set_option maxRecDepth 100000 in
theorem c_T_X7_ofSong (l : Launch) (hl0 : l.stackTraces = false) (D : va_G) (cy : Nat → ClassId) (lay : Nat → Nat) {σ : MS} {post : Int32 → MS → Prop} {pex : String → MS → Prop} {a1 : Int32} {a2 : Int32} (h : w_T_X7_ofSong post pex σ a1 a2) (sz : Nat) : vx_Met l yX7_ofSong wsX7_ofSong rm_T_X7_ofSong (va_Pc [.ref (lay 0), .int a1, .int a2] (agI D cy lay σ sz)) (va_Qi post (agO D cy lay) (agA lay sz)) (agXC D cy lay pex sz) 2 12 (agA lay sz) := by
  refine ag_ofX (cc := cX7_ofSong) (maxL := 4) (ret := some .int) (own := RX7) (Qc := fun sz => va_Qi post (agO D cy lay) (agA lay sz)) (by decide) rfl (Nat.le_of_ble_eq_true rfl) rfl ?_
  intro p e s m args below meth c ls hC hr hlocks htab hT G hl
  unfold w_T_X7_ofSong at h
  have hl : lv_has ls 4 [(0, .ref (lay 0)), (1, .int a1), (2, .int a2)] := hl
  refine lv_iload_n hC.1 hC.2.1 dX7_ofSong_0 rfl (lv_at hl 1 rfl) ?_
  refine ag_vT G htab hlocks (ag_runST (As := [.int a1]) (rest := []) hC hT G (c_T_X7_checkSong l hl0 D cy lay h _) (va_cwS 1 hC.2.2.2.2 gX7_ofSong_X7_checkSong rfl rfl rfl hdS_X7_checkSong ⟨Nat.le_of_ble_eq_true rfl, Nat.le_of_ble_eq_true rfl⟩) rfl hl.1 rfl (Nat.le_of_ble_eq_true rfl) dX7_ofSong_1 ⟨Nat.le_of_ble_eq_true rfl, Nat.le_of_ble_eq_true rfl⟩) (by decide) (by decide) (fun σ1 H locs h G => ?_)
  (try dsimp only at h)
  refine lv_aload_n hC.1 hC.2.1 dX7_ofSong_4 rfl (lv_at hl 0 rfl) ?_
  refine ag_get hC hT G (by decide) e_ag k_X7 i_T_X7_ofSong_X7 1 (by decide) (wm 3 rfl) rfl dX7_ofSong_5 ?_
  refine lv_iload_n hC.1 hC.2.1 dX7_ofSong_8 rfl (lv_at hl 1 rfl) ?_
  obtain ⟨hn2, h⟩ := h
  refine ag_aald hC hT G (by decide) _ rfl e_sgs hn2 dX7_ofSong_9 ?_
  refine lv_astore_n (lv' := [(3, .ref (lay (39 + (Int32.toNatClampNeg a1)))), (0, .ref (lay 0)), (1, .int a1), (2, .int a2)]) hC.1 hC.2.1 dX7_ofSong_10 rfl hl (by decide) rfl (fun ls hl => ?_)
  refine lv_iload_n hC.1 hC.2.1 dX7_ofSong_11 rfl (lv_at hl 3 rfl) ?_
  rcases Decidable.em (a2 = 0) with c3 | c3
  · replace h := h.1 c3
    refine lv_tableIn (off := 40) (tgt := 52) hC.1 hC.2.1 dX7_ofSong_12 (by rw [c3]; decide) (by rw [c3]; decide) (by rw [c3]; rfl) (by decide) ?_
    refine lv_aload_n hC.1 hC.2.1 dX7_ofSong_52 rfl (lv_at hl 0 rfl) ?_
    refine ag_get hC hT G (k_sg (vlt hn2)) (e_sg (vlt hn2)) k_X5 i_T_X7_ofSong_X5 0 (by decide) (wm 4 rfl) rfl dX7_ofSong_53 ?_
    refine W.widen (k := 2) (n := 12) (by decide) (by decide) ?_
    exact vx_ret (ag_iret hC hr hlocks G h dX7_ofSong_56)
  · replace h := h.2 c3
    rcases Decidable.em (a2 = 1) with c4 | c4
    · replace h := h.1 c4
      refine lv_tableIn (off := 45) (tgt := 57) hC.1 hC.2.1 dX7_ofSong_12 (by rw [c4]; decide) (by rw [c4]; decide) (by rw [c4]; rfl) (by decide) ?_
      refine lv_aload_n hC.1 hC.2.1 dX7_ofSong_57 rfl (lv_at hl 0 rfl) ?_
      refine ag_get hC hT G (k_sg (vlt hn2)) (e_sg (vlt hn2)) k_X5 i_T_X7_ofSong_X5 1 (by decide) (wm 5 rfl) rfl dX7_ofSong_58 ?_
      refine W.widen (k := 2) (n := 12) (by decide) (by decide) ?_
      exact vx_ret (ag_iret hC hr hlocks G h dX7_ofSong_61)
    · replace h := h.2 c4
      rcases Decidable.em (a2 = 2) with c5 | c5
      · replace h := h.1 c5
        refine lv_tableIn (off := 50) (tgt := 62) hC.1 hC.2.1 dX7_ofSong_12 (by rw [c5]; decide) (by rw [c5]; decide) (by rw [c5]; rfl) (by decide) ?_
        refine lv_aload_n hC.1 hC.2.1 dX7_ofSong_62 rfl (lv_at hl 0 rfl) ?_
        refine ag_get hC hT G (k_sg (vlt hn2)) (e_sg (vlt hn2)) k_X5 i_T_X7_ofSong_X5 2 (by decide) (wm 6 rfl) rfl dX7_ofSong_63 ?_
        refine W.widen (k := 2) (n := 12) (by decide) (by decide) ?_
        exact vx_ret (ag_iret hC hr hlocks G h dX7_ofSong_66)
      · replace h := h.2 c5
        rcases Decidable.em (a2 = 3) with c6 | c6
        · replace h := h.1 c6
          refine lv_tableIn (off := 55) (tgt := 67) hC.1 hC.2.1 dX7_ofSong_12 (by rw [c6]; decide) (by rw [c6]; decide) (by rw [c6]; rfl) (by decide) ?_
          refine lv_aload_n hC.1 hC.2.1 dX7_ofSong_67 rfl (lv_at hl 0 rfl) ?_
          refine ag_get hC hT G (k_sg (vlt hn2)) (e_sg (vlt hn2)) k_X5 i_T_X7_ofSong_X5 3 (by decide) (wm 7 rfl) rfl dX7_ofSong_68 ?_
          refine W.widen (k := 2) (n := 12) (by decide) (by decide) ?_
          exact vx_ret (ag_iret hC hr hlocks G h dX7_ofSong_71)
        · replace h := h.2 c6
          rcases Decidable.em (a2 = 4) with c9 | c9
          · replace h := h.1 c9
            refine lv_tableIn (off := 60) (tgt := 72) hC.1 hC.2.1 dX7_ofSong_12 (by rw [c9]; decide) (by rw [c9]; decide) (by rw [c9]; rfl) (by decide) ?_
            refine lv_aload_n hC.1 hC.2.1 dX7_ofSong_72 rfl (lv_at hl 1 rfl) ?_
            refine lv_aload_n hC.1 hC.2.1 dX7_ofSong_73 rfl (lv_at hl 0 rfl) ?_
            refine ag_i G (ag_runV (As := [.ref (lay (39 + (Int32.toNatClampNeg a1)))]) (rest := []) hC hT G (c_X7_shareOf l D cy lay h (vlt hn2) _) (cwV 1 hC.2.2.2.2 gX7_ofSong_X7_shareOf rfl rfl rfl hdV_X7_shareOf ⟨Nat.le_of_ble_eq_true rfl, Nat.le_of_ble_eq_true rfl⟩) (ag_recv hT G (by decide) e_ag k_X7) rfl hl.1 rfl (Nat.le_of_ble_eq_true rfl) dX7_ofSong_74 ⟨Nat.le_of_ble_eq_true rfl, Nat.le_of_ble_eq_true rfl⟩) (fun r8 σ7 H locs h G => ?_)
            (try dsimp only at h)
            refine W.widen (k := 2) (n := 12) (by decide) (by decide) ?_
            exact vx_ret (ag_iret hC hr hlocks G h dX7_ofSong_77)
          · replace h := h.2 c9
            rcases Decidable.em (a2 = 5) with c12 | c12
            · replace h := h.1 c12
              refine lv_tableIn (off := 66) (tgt := 78) hC.1 hC.2.1 dX7_ofSong_12 (by rw [c12]; decide) (by rw [c12]; decide) (by rw [c12]; rfl) (by decide) ?_
              refine lv_aload_n hC.1 hC.2.1 dX7_ofSong_78 rfl (lv_at hl 1 rfl) ?_
              refine lv_iload_n hC.1 hC.2.1 dX7_ofSong_79 rfl (lv_at hl 2 rfl) ?_
              refine ag_i G (ag_runV (As := [.int a1]) (rest := []) hC hT G (c_X7_countKnowing l D cy lay h _) (cwV 1 hC.2.2.2.2 gX7_ofSong_X7_countKnowing rfl rfl rfl hdV_X7_countKnowing ⟨Nat.le_of_ble_eq_true rfl, Nat.le_of_ble_eq_true rfl⟩) (ag_recv hT G (by decide) e_ag k_X7) rfl hl.1 rfl (Nat.le_of_ble_eq_true rfl) dX7_ofSong_80 ⟨Nat.le_of_ble_eq_true rfl, Nat.le_of_ble_eq_true rfl⟩) (fun r11 σ10 H locs h G => ?_)
              (try dsimp only at h)
              refine W.widen (k := 2) (n := 12) (by decide) (by decide) ?_
              exact vx_ret (ag_iret hC hr hlocks G h dX7_ofSong_83)
            · replace h := h.2 c12
              refine lv_tableOut (tgt := 84) hC.1 hC.2.1 dX7_ofSong_12 (tsw_out 6 rfl (by decide) (fun k hk => by rcases (show k = 0 ∨ k = 1 ∨ k = 2 ∨ k = 3 ∨ k = 4 ∨ k = 5 by omega) with rfl | rfl | rfl | rfl | rfl | rfl <;> assumption)) (by decide) ?_
              exact ag_throwW (text := "nothing like that is known of a song") (names := ["java/lang/RuntimeException", "java/lang/Exception"]) hl0 hC hT G htab hlocks hl.1 (by decide) (by decide) (wm 1 rfl) (wm 2 rfl) (List.mem_of_getElem? (i := 19) rfl) (fun _ h => List.mem_cons_of_mem _ (List.mem_append_left _ (List.mem_append_right _ h))) exIAE_all exIAE_good dX7_ofSong_84 dX7_ofSong_87 dX7_ofSong_88 dX7_ofSong_91 dX7_ofSong_94 (by decide) (Nat.le_of_ble_eq_true rfl) (Nat.le_of_ble_eq_true rfl) (Nat.le_of_ble_eq_true rfl) (by decide) (by decide) h
abbrev rm_T_X7_ofBand : Room := { frames := 7, cells := 2, slots := 12, locals := 103 }
theorem i_T_X7_ofBand_X7 : ∀ w ∈ wsX70, w ∈ wsX7_ofBand := fun _ h => List.mem_cons_of_mem _ (List.mem_append_left _ (List.mem_append_left _ (List.mem_append_left _ (List.mem_append_left _ (List.mem_append_right _ h)))))
theorem i_T_X7_ofBand_X0 : ∀ w ∈ wsX00, w ∈ wsX7_ofBand := fun _ h => List.mem_cons_of_mem _ (List.mem_append_left _ (List.mem_append_left _ (List.mem_append_left _ (List.mem_append_right _ h))))
def u_T_X7_ofBand_15 (post : Int32 → MS → Prop) (pex : String → MS → Prop) (a1 : Int32) (a2 : Int32) (σ : MS) : Prop := pex "java/lang/IllegalArgumentException" σ
set_option maxHeartbeats 4000000 in
set_option maxRecDepth 100000 in
theorem l_T_X7_ofBand_15 {p : Program} {l : Launch} {e : Env} {s : State} {m : MethodId} {args : Array Value} {below : List Frame} {meth : Method} {c : Code} {D : va_G} {cy : Nat → ClassId} {lay : Nat → Nat} {post : Int32 → MS → Prop} {pex : String → MS → Prop} (a1 : Int32) (a2 : Int32) (hl0 : l.stackTraces = false) (hC : CallFix p m c cX7_ofBand 3 s args wsX7_ofBand RX7) (hr : meth.sig.returnType = some .int) (hlocks : meth.locks = false) (htab : ∀ x ∈ c.exceptionTable.toList, False) (hT : agT D cy lay s) : ∀ (σ : MS), u_T_X7_ofBand_15 post pex a1 a2 σ → ∀ (H : Heap) (locs : List Loc) (ls : Array Slot), agG D cy lay σ (agA lay s.heap.size) s.heap H locs → lv_has ls 3 [(0, .ref (lay 0)), (1, .int a1), (2, .int a2)] → W p l e rm_T_X7_ofBand s m args below meth c H locs 1 6 (vx_MQ below (va_Qi post (agO D cy lay) (agA lay s.heap.size)) (agXC D cy lay pex s.heap.size) args s 2 12 (agA lay s.heap.size)) (F0 m 15 ls []) := by
  intro σ h H locs ls G hl
  unfold u_T_X7_ofBand_15 at h
  exact ag_throwW (text := "nothing like that is known of a band") (names := ["java/lang/RuntimeException", "java/lang/Exception"]) hl0 hC hT G htab hlocks hl.1 (by decide) (by decide) (wm 1 rfl) (wm 2 rfl) (List.mem_of_getElem? (i := 20) rfl) (fun _ h => List.mem_cons_of_mem _ (List.mem_append_left _ (List.mem_append_right _ h))) exIAE_all exIAE_good dX7_ofBand_15 dX7_ofBand_18 dX7_ofBand_19 dX7_ofBand_22 dX7_ofBand_25 (by decide) (Nat.le_of_ble_eq_true rfl) (Nat.le_of_ble_eq_true rfl) (Nat.le_of_ble_eq_true rfl) (by decide) (by decide) h
def w_T_X7_ofBand (post : Int32 → MS → Prop) (pex : String → MS → Prop) (σ : MS) (a1 : Int32) (a2 : Int32) : Prop := w_T_X7_checkBand (fun σ1 => ((a2 < 0 → u_T_X7_ofBand_15 post pex a1 a2 σ1) ∧ (¬ a2 < 0 → ((a2 ≤ 8 → ((6 ≤ a2 → ((a2 = 6 → (vp_in a1 6 ∧ post (σ1 (55 + (Int32.toNatClampNeg a1)) 2) σ1)) ∧ (¬ a2 = 6 → ((a2 = 8 → w_X7_countOfBand (fun r10 σ9 => post r10 σ9) σ1 a1 1) ∧ (¬ a2 = 8 → w_X7_countOfBand (fun r8 σ7 => post r8 σ7) σ1 a1 0))))) ∧ (¬ 6 ≤ a2 → (vp_in a1 6 ∧ (vp_in a2 6 ∧ post (σ1 (61 + (Int32.toNatClampNeg a1)) (Int32.toNatClampNeg a2)) σ1))))) ∧ (¬ a2 ≤ 8 → u_T_X7_ofBand_15 post pex a1 a2 σ1))))) pex σ a1
set_option maxHeartbeats 4000000 in
set_option maxRecDepth 100000 in
theorem c_T_X7_ofBand (l : Launch) (hl0 : l.stackTraces = false) (D : va_G) (cy : Nat → ClassId) (lay : Nat → Nat) {σ : MS} {post : Int32 → MS → Prop} {pex : String → MS → Prop} {a1 : Int32} {a2 : Int32} (h : w_T_X7_ofBand post pex σ a1 a2) (sz : Nat) : vx_Met l yX7_ofBand wsX7_ofBand rm_T_X7_ofBand (va_Pc [.ref (lay 0), .int a1, .int a2] (agI D cy lay σ sz)) (va_Qi post (agO D cy lay) (agA lay sz)) (agXC D cy lay pex sz) 2 12 (agA lay sz) := by
  refine ag_ofX (cc := cX7_ofBand) (maxL := 3) (ret := some .int) (own := RX7) (Qc := fun sz => va_Qi post (agO D cy lay) (agA lay sz)) (by decide) rfl (Nat.le_of_ble_eq_true rfl) rfl ?_
  intro p e s m args below meth c ls hC hr hlocks htab hT G hl
  unfold w_T_X7_ofBand at h
  have hl : lv_has ls 3 [(0, .ref (lay 0)), (1, .int a1), (2, .int a2)] := hl
  refine lv_aload_n hC.1 hC.2.1 dX7_ofBand_0 rfl (lv_at hl 0 rfl) ?_
  refine lv_iload_n hC.1 hC.2.1 dX7_ofBand_1 rfl (lv_at hl 1 rfl) ?_
  refine ag_vT G htab hlocks (ag_runVT (As := [.int a1]) (rest := []) hC hT G (c_T_X7_checkBand l hl0 D cy lay h _) (cwV 1 hC.2.2.2.2 gX7_ofBand_X7_checkBand rfl rfl rfl hdV_X7_checkBand ⟨Nat.le_of_ble_eq_true rfl, Nat.le_of_ble_eq_true rfl⟩) (ag_recv hT G (by decide) e_ag k_X7) rfl hl.1 rfl (Nat.le_of_ble_eq_true rfl) dX7_ofBand_2 ⟨Nat.le_of_ble_eq_true rfl, Nat.le_of_ble_eq_true rfl⟩) (by decide) (by decide) (fun σ1 H locs h G => ?_)
  (try dsimp only at h)
  refine lv_iload_n hC.1 hC.2.1 dX7_ofBand_5 rfl (lv_at hl 2 rfl) ?_
  refine lv_if_lt (tgt := 15) hC.1 hC.2.1 dX7_ofBand_6 (by decide) (fun c2 => ?_) (fun c2 => ?_)
  · replace h := h.1 c2
    exact l_T_X7_ofBand_15 a1 a2 hl0 hC hr hlocks htab hT _ h _ _ _ G (lv_sub hl [0, 1, 2] rfl)
  · replace h := h.2 c2
    refine lv_iload_n hC.1 hC.2.1 dX7_ofBand_9 rfl (lv_at hl 2 rfl) ?_
    refine lv_bipush (v := 8) hC.1 hC.2.1 dX7_ofBand_10 (by decide) ?_
    refine lv_icmp_le (tgt := 26) hC.1 hC.2.1 dX7_ofBand_12 (by decide) (fun c3 => ?_) (fun c3 => ?_)
    · replace h := h.1 c3
      refine lv_iload_n hC.1 hC.2.1 dX7_ofBand_26 rfl (lv_at hl 2 rfl) ?_
      refine lv_bipush (v := 6) hC.1 hC.2.1 dX7_ofBand_27 (by decide) ?_
      refine lv_icmp_ge (tgt := 44) hC.1 hC.2.1 dX7_ofBand_29 (by decide) (fun c4 => ?_) (fun c4 => ?_)
      · replace h := h.1 c4
        refine lv_iload_n hC.1 hC.2.1 dX7_ofBand_44 rfl (lv_at hl 2 rfl) ?_
        refine lv_bipush (v := 6) hC.1 hC.2.1 dX7_ofBand_45 (by decide) ?_
        refine lv_icmp_ne (tgt := 60) hC.1 hC.2.1 dX7_ofBand_47 (by decide) (fun c5 => ?_) (fun c5 => ?_)
        · replace h := h.2 c5
          refine lv_aload_n hC.1 hC.2.1 dX7_ofBand_60 rfl (lv_at hl 0 rfl) ?_
          refine lv_iload_n hC.1 hC.2.1 dX7_ofBand_61 rfl (lv_at hl 1 rfl) ?_
          refine lv_iload_n hC.1 hC.2.1 dX7_ofBand_62 rfl (lv_at hl 2 rfl) ?_
          refine lv_bipush (v := 8) hC.1 hC.2.1 dX7_ofBand_63 (by decide) ?_
          refine lv_icmp_ne (tgt := 72) hC.1 hC.2.1 dX7_ofBand_65 (by decide) (fun c6 => ?_) (fun c6 => ?_)
          · replace h := h.2 c6
            refine lv_iconst (v := 0) hC.1 hC.2.1 dX7_ofBand_72 (by decide) ?_
            refine ag_i G (ag_runV (As := [.int a1, .int 0]) (rest := []) hC hT G (c_X7_countOfBand l D cy lay h _) (cwV 2 hC.2.2.2.2 gX7_ofBand_X7_countOfBand rfl rfl rfl hdV_X7_countOfBand ⟨Nat.le_of_ble_eq_true rfl, Nat.le_of_ble_eq_true rfl⟩) (ag_recv hT G (by decide) e_ag k_X7) rfl hl.1 rfl (Nat.le_of_ble_eq_true rfl) dX7_ofBand_73 ⟨Nat.le_of_ble_eq_true rfl, Nat.le_of_ble_eq_true rfl⟩) (fun r8 σ7 H locs h G => ?_)
            (try dsimp only at h)
            refine W.widen (k := 2) (n := 12) (by decide) (by decide) ?_
            exact vx_ret (ag_iret hC hr hlocks G h dX7_ofBand_76)
          · replace h := h.1 c6
            refine lv_iconst (v := 1) hC.1 hC.2.1 dX7_ofBand_68 (by decide) ?_
            refine lv_goto (tgt := 73) hC.1 hC.2.1 dX7_ofBand_69 (by decide) ?_
            refine ag_i G (ag_runV (As := [.int a1, .int 1]) (rest := []) hC hT G (c_X7_countOfBand l D cy lay h _) (cwV 2 hC.2.2.2.2 gX7_ofBand_X7_countOfBand rfl rfl rfl hdV_X7_countOfBand ⟨Nat.le_of_ble_eq_true rfl, Nat.le_of_ble_eq_true rfl⟩) (ag_recv hT G (by decide) e_ag k_X7) rfl hl.1 rfl (Nat.le_of_ble_eq_true rfl) dX7_ofBand_73 ⟨Nat.le_of_ble_eq_true rfl, Nat.le_of_ble_eq_true rfl⟩) (fun r10 σ9 H locs h G => ?_)
            (try dsimp only at h)
            refine W.widen (k := 2) (n := 12) (by decide) (by decide) ?_
            exact vx_ret (ag_iret hC hr hlocks G h dX7_ofBand_76)
        · replace h := h.1 c5
          refine lv_aload_n hC.1 hC.2.1 dX7_ofBand_50 rfl (lv_at hl 0 rfl) ?_
          refine ag_get hC hT G (by decide) e_ag k_X7 i_T_X7_ofBand_X7 2 (by decide) (wm 3 rfl) rfl dX7_ofBand_51 ?_
          refine lv_iload_n hC.1 hC.2.1 dX7_ofBand_54 rfl (lv_at hl 1 rfl) ?_
          obtain ⟨hn11, h⟩ := h
          refine ag_aald hC hT G (by decide) _ rfl e_bds hn11 dX7_ofBand_55 ?_
          refine ag_get hC hT G (k_bd (vlt hn11)) (e_bd (vlt hn11)) k_X0 i_T_X7_ofBand_X0 2 (by decide) (wm 5 rfl) rfl dX7_ofBand_56 ?_
          refine W.widen (k := 2) (n := 12) (by decide) (by decide) ?_
          exact vx_ret (ag_iret hC hr hlocks G h dX7_ofBand_59)
      · replace h := h.2 c4
        refine lv_aload_n hC.1 hC.2.1 dX7_ofBand_32 rfl (lv_at hl 0 rfl) ?_
        refine ag_get hC hT G (by decide) e_ag k_X7 i_T_X7_ofBand_X7 2 (by decide) (wm 3 rfl) rfl dX7_ofBand_33 ?_
        refine lv_iload_n hC.1 hC.2.1 dX7_ofBand_36 rfl (lv_at hl 1 rfl) ?_
        obtain ⟨hn12, h⟩ := h
        refine ag_aald hC hT G (by decide) _ rfl e_bds hn12 dX7_ofBand_37 ?_
        refine ag_get hC hT G (k_bd (vlt hn12)) (e_bd (vlt hn12)) k_X0 i_T_X7_ofBand_X0 0 (by decide) (wm 4 rfl) rfl dX7_ofBand_38 ?_
        refine lv_iload_n hC.1 hC.2.1 dX7_ofBand_41 rfl (lv_at hl 2 rfl) ?_
        obtain ⟨hn13, h⟩ := h
        refine ag_iald hC hT G (k_nds (vlt hn12)) (e_nds (vlt hn12)) hn13 dX7_ofBand_42 ?_
        refine W.widen (k := 2) (n := 12) (by decide) (by decide) ?_
        exact vx_ret (ag_iret hC hr hlocks G h dX7_ofBand_43)
    · replace h := h.2 c3
      exact l_T_X7_ofBand_15 a1 a2 hl0 hC hr hlocks htab hT _ h _ _ _ G (lv_sub hl [0, 1, 2] rfl)
abbrev rm_T_X7_ofWedding : Room := { frames := 7, cells := 2, slots := 12, locals := 103 }
theorem i_T_X7_ofWedding_X7 : ∀ w ∈ wsX70, w ∈ wsX7_ofWedding := fun _ h => List.mem_cons_of_mem _ (List.mem_append_left _ (List.mem_append_left _ (List.mem_append_left _ (List.mem_append_right _ h))))
theorem i_T_X7_ofWedding_X6 : ∀ w ∈ wsX60, w ∈ wsX7_ofWedding := fun _ h => List.mem_cons_of_mem _ (List.mem_append_left _ (List.mem_append_left _ (List.mem_append_right _ h)))
def w_T_X7_ofWedding (post : Int32 → MS → Prop) (pex : String → MS → Prop) (σ : MS) (a1 : Int32) (a2 : Int32) : Prop := w_T_X7_checkWedding (fun σ1 => (vp_in a1 14 ∧ ((a2 = 0 → post (σ1 (73 + (Int32.toNatClampNeg a1)) 0) σ1) ∧ (¬ a2 = 0 → ((a2 = 1 → post (σ1 (73 + (Int32.toNatClampNeg a1)) 1) σ1) ∧ (¬ a2 = 1 → ((a2 = 2 → post (σ1 (73 + (Int32.toNatClampNeg a1)) 2) σ1) ∧ (¬ a2 = 2 → ((a2 = 3 → post (σ1 (73 + (Int32.toNatClampNeg a1)) 3) σ1) ∧ (¬ a2 = 3 → ((a2 = 4 → post (σ1 (73 + (Int32.toNatClampNeg a1)) 4) σ1) ∧ (¬ a2 = 4 → ((a2 = 5 → post (σ1 (73 + (Int32.toNatClampNeg a1)) 5) σ1) ∧ (¬ a2 = 5 → ((a2 = 6 → post (σ1 (73 + (Int32.toNatClampNeg a1)) 7) σ1) ∧ (¬ a2 = 6 → ((a2 = 7 → post (σ1 (73 + (Int32.toNatClampNeg a1)) 8) σ1) ∧ (¬ a2 = 7 → ((a2 = 8 → post (σ1 (73 + (Int32.toNatClampNeg a1)) 9) σ1) ∧ (¬ a2 = 8 → ((a2 = 9 → post (σ1 (73 + (Int32.toNatClampNeg a1)) 10) σ1) ∧ (¬ a2 = 9 → ((a2 = 10 → post (σ1 (73 + (Int32.toNatClampNeg a1)) 11) σ1) ∧ (¬ a2 = 10 → ((a2 = 11 → w_X7_placeInQueue (fun r15 σ14 => post r15 σ14) σ1 a1) ∧ (¬ a2 = 11 → ((a2 = 12 → w_X6_quarters (fun r18 σ17 => post r18 σ17) σ1 (Int32.toNatClampNeg a1)) ∧ (¬ a2 = 12 → pex "java/lang/IllegalArgumentException" σ1)))))))))))))))))))))))))))) pex σ a1
set_option maxHeartbeats 4000000 in
set_option maxRecDepth 100000 in
theorem c_T_X7_ofWedding (l : Launch) (hl0 : l.stackTraces = false) (D : va_G) (cy : Nat → ClassId) (lay : Nat → Nat) {σ : MS} {post : Int32 → MS → Prop} {pex : String → MS → Prop} {a1 : Int32} {a2 : Int32} (h : w_T_X7_ofWedding post pex σ a1 a2) (sz : Nat) : vx_Met l yX7_ofWedding wsX7_ofWedding rm_T_X7_ofWedding (va_Pc [.ref (lay 0), .int a1, .int a2] (agI D cy lay σ sz)) (va_Qi post (agO D cy lay) (agA lay sz)) (agXC D cy lay pex sz) 2 12 (agA lay sz) := by
  refine ag_ofX (cc := cX7_ofWedding) (maxL := 4) (ret := some .int) (own := RX7) (Qc := fun sz => va_Qi post (agO D cy lay) (agA lay sz)) (by decide) rfl (Nat.le_of_ble_eq_true rfl) rfl ?_
  intro p e s m args below meth c ls hC hr hlocks htab hT G hl
  unfold w_T_X7_ofWedding at h
  have hl : lv_has ls 4 [(0, .ref (lay 0)), (1, .int a1), (2, .int a2)] := hl
  refine lv_aload_n hC.1 hC.2.1 dX7_ofWedding_0 rfl (lv_at hl 0 rfl) ?_
  refine lv_iload_n hC.1 hC.2.1 dX7_ofWedding_1 rfl (lv_at hl 1 rfl) ?_
  refine ag_vT G htab hlocks (ag_runVT (As := [.int a1]) (rest := []) hC hT G (c_T_X7_checkWedding l hl0 D cy lay h _) (cwV 1 hC.2.2.2.2 gX7_ofWedding_X7_checkWedding rfl rfl rfl hdV_X7_checkWedding ⟨Nat.le_of_ble_eq_true rfl, Nat.le_of_ble_eq_true rfl⟩) (ag_recv hT G (by decide) e_ag k_X7) rfl hl.1 rfl (Nat.le_of_ble_eq_true rfl) dX7_ofWedding_2 ⟨Nat.le_of_ble_eq_true rfl, Nat.le_of_ble_eq_true rfl⟩) (by decide) (by decide) (fun σ1 H locs h G => ?_)
  (try dsimp only at h)
  refine lv_aload_n hC.1 hC.2.1 dX7_ofWedding_5 rfl (lv_at hl 0 rfl) ?_
  refine ag_get hC hT G (by decide) e_ag k_X7 i_T_X7_ofWedding_X7 3 (by decide) (wm 3 rfl) rfl dX7_ofWedding_6 ?_
  refine lv_iload_n hC.1 hC.2.1 dX7_ofWedding_9 rfl (lv_at hl 1 rfl) ?_
  obtain ⟨hn2, h⟩ := h
  refine ag_aald hC hT G (by decide) _ rfl e_wds hn2 dX7_ofWedding_10 ?_
  refine lv_astore_n (lv' := [(3, .ref (lay (73 + (Int32.toNatClampNeg a1)))), (0, .ref (lay 0)), (1, .int a1), (2, .int a2)]) hC.1 hC.2.1 dX7_ofWedding_11 rfl hl (by decide) rfl (fun ls hl => ?_)
  refine lv_iload_n hC.1 hC.2.1 dX7_ofWedding_12 rfl (lv_at hl 3 rfl) ?_
  rcases Decidable.em (a2 = 0) with c3 | c3
  · replace h := h.1 c3
    refine lv_tableIn (off := 67) (tgt := 80) hC.1 hC.2.1 dX7_ofWedding_13 (by rw [c3]; decide) (by rw [c3]; decide) (by rw [c3]; rfl) (by decide) ?_
    refine lv_aload_n hC.1 hC.2.1 dX7_ofWedding_80 rfl (lv_at hl 0 rfl) ?_
    refine ag_get hC hT G (k_wd (vlt hn2)) (e_wd (vlt hn2)) k_X6 i_T_X7_ofWedding_X6 0 (by decide) (wm 4 rfl) rfl dX7_ofWedding_81 ?_
    refine W.widen (k := 2) (n := 12) (by decide) (by decide) ?_
    exact vx_ret (ag_iret hC hr hlocks G h dX7_ofWedding_84)
  · replace h := h.2 c3
    rcases Decidable.em (a2 = 1) with c4 | c4
    · replace h := h.1 c4
      refine lv_tableIn (off := 72) (tgt := 85) hC.1 hC.2.1 dX7_ofWedding_13 (by rw [c4]; decide) (by rw [c4]; decide) (by rw [c4]; rfl) (by decide) ?_
      refine lv_aload_n hC.1 hC.2.1 dX7_ofWedding_85 rfl (lv_at hl 0 rfl) ?_
      refine ag_get hC hT G (k_wd (vlt hn2)) (e_wd (vlt hn2)) k_X6 i_T_X7_ofWedding_X6 1 (by decide) (wm 5 rfl) rfl dX7_ofWedding_86 ?_
      refine W.widen (k := 2) (n := 12) (by decide) (by decide) ?_
      exact vx_ret (ag_iret hC hr hlocks G h dX7_ofWedding_89)
    · replace h := h.2 c4
      rcases Decidable.em (a2 = 2) with c5 | c5
      · replace h := h.1 c5
        refine lv_tableIn (off := 77) (tgt := 90) hC.1 hC.2.1 dX7_ofWedding_13 (by rw [c5]; decide) (by rw [c5]; decide) (by rw [c5]; rfl) (by decide) ?_
        refine lv_aload_n hC.1 hC.2.1 dX7_ofWedding_90 rfl (lv_at hl 0 rfl) ?_
        refine ag_get hC hT G (k_wd (vlt hn2)) (e_wd (vlt hn2)) k_X6 i_T_X7_ofWedding_X6 2 (by decide) (wm 6 rfl) rfl dX7_ofWedding_91 ?_
        refine W.widen (k := 2) (n := 12) (by decide) (by decide) ?_
        exact vx_ret (ag_iret hC hr hlocks G h dX7_ofWedding_94)
      · replace h := h.2 c5
        rcases Decidable.em (a2 = 3) with c6 | c6
        · replace h := h.1 c6
          refine lv_tableIn (off := 82) (tgt := 95) hC.1 hC.2.1 dX7_ofWedding_13 (by rw [c6]; decide) (by rw [c6]; decide) (by rw [c6]; rfl) (by decide) ?_
          refine lv_aload_n hC.1 hC.2.1 dX7_ofWedding_95 rfl (lv_at hl 0 rfl) ?_
          refine ag_get hC hT G (k_wd (vlt hn2)) (e_wd (vlt hn2)) k_X6 i_T_X7_ofWedding_X6 3 (by decide) (wm 7 rfl) rfl dX7_ofWedding_96 ?_
          refine W.widen (k := 2) (n := 12) (by decide) (by decide) ?_
          exact vx_ret (ag_iret hC hr hlocks G h dX7_ofWedding_99)
        · replace h := h.2 c6
          rcases Decidable.em (a2 = 4) with c7 | c7
          · replace h := h.1 c7
            refine lv_tableIn (off := 87) (tgt := 100) hC.1 hC.2.1 dX7_ofWedding_13 (by rw [c7]; decide) (by rw [c7]; decide) (by rw [c7]; rfl) (by decide) ?_
            refine lv_aload_n hC.1 hC.2.1 dX7_ofWedding_100 rfl (lv_at hl 0 rfl) ?_
            refine ag_get hC hT G (k_wd (vlt hn2)) (e_wd (vlt hn2)) k_X6 i_T_X7_ofWedding_X6 4 (by decide) (wm 8 rfl) rfl dX7_ofWedding_101 ?_
            refine W.widen (k := 2) (n := 12) (by decide) (by decide) ?_
            exact vx_ret (ag_iret hC hr hlocks G h dX7_ofWedding_104)
          · replace h := h.2 c7
            rcases Decidable.em (a2 = 5) with c8 | c8
            · replace h := h.1 c8
              refine lv_tableIn (off := 92) (tgt := 105) hC.1 hC.2.1 dX7_ofWedding_13 (by rw [c8]; decide) (by rw [c8]; decide) (by rw [c8]; rfl) (by decide) ?_
              refine lv_aload_n hC.1 hC.2.1 dX7_ofWedding_105 rfl (lv_at hl 0 rfl) ?_
              refine ag_get hC hT G (k_wd (vlt hn2)) (e_wd (vlt hn2)) k_X6 i_T_X7_ofWedding_X6 5 (by decide) (wm 9 rfl) rfl dX7_ofWedding_106 ?_
              refine W.widen (k := 2) (n := 12) (by decide) (by decide) ?_
              exact vx_ret (ag_iret hC hr hlocks G h dX7_ofWedding_109)
            · replace h := h.2 c8
              rcases Decidable.em (a2 = 6) with c9 | c9
              · replace h := h.1 c9
                refine lv_tableIn (off := 97) (tgt := 110) hC.1 hC.2.1 dX7_ofWedding_13 (by rw [c9]; decide) (by rw [c9]; decide) (by rw [c9]; rfl) (by decide) ?_
                refine lv_aload_n hC.1 hC.2.1 dX7_ofWedding_110 rfl (lv_at hl 0 rfl) ?_
                refine ag_get hC hT G (k_wd (vlt hn2)) (e_wd (vlt hn2)) k_X6 i_T_X7_ofWedding_X6 7 (by decide) (wm 10 rfl) rfl dX7_ofWedding_111 ?_
                refine W.widen (k := 2) (n := 12) (by decide) (by decide) ?_
                exact vx_ret (ag_iret hC hr hlocks G h dX7_ofWedding_114)
              · replace h := h.2 c9
                rcases Decidable.em (a2 = 7) with c10 | c10
                · replace h := h.1 c10
                  refine lv_tableIn (off := 102) (tgt := 115) hC.1 hC.2.1 dX7_ofWedding_13 (by rw [c10]; decide) (by rw [c10]; decide) (by rw [c10]; rfl) (by decide) ?_
                  refine lv_aload_n hC.1 hC.2.1 dX7_ofWedding_115 rfl (lv_at hl 0 rfl) ?_
                  refine ag_get hC hT G (k_wd (vlt hn2)) (e_wd (vlt hn2)) k_X6 i_T_X7_ofWedding_X6 8 (by decide) (wm 11 rfl) rfl dX7_ofWedding_116 ?_
                  refine W.widen (k := 2) (n := 12) (by decide) (by decide) ?_
                  exact vx_ret (ag_iret hC hr hlocks G h dX7_ofWedding_119)
                · replace h := h.2 c10
                  rcases Decidable.em (a2 = 8) with c11 | c11
                  · replace h := h.1 c11
                    refine lv_tableIn (off := 107) (tgt := 120) hC.1 hC.2.1 dX7_ofWedding_13 (by rw [c11]; decide) (by rw [c11]; decide) (by rw [c11]; rfl) (by decide) ?_
                    refine lv_aload_n hC.1 hC.2.1 dX7_ofWedding_120 rfl (lv_at hl 0 rfl) ?_
                    refine ag_get hC hT G (k_wd (vlt hn2)) (e_wd (vlt hn2)) k_X6 i_T_X7_ofWedding_X6 9 (by decide) (wm 12 rfl) rfl dX7_ofWedding_121 ?_
                    refine W.widen (k := 2) (n := 12) (by decide) (by decide) ?_
                    exact vx_ret (ag_iret hC hr hlocks G h dX7_ofWedding_124)
                  · replace h := h.2 c11
                    rcases Decidable.em (a2 = 9) with c12 | c12
                    · replace h := h.1 c12
                      refine lv_tableIn (off := 112) (tgt := 125) hC.1 hC.2.1 dX7_ofWedding_13 (by rw [c12]; decide) (by rw [c12]; decide) (by rw [c12]; rfl) (by decide) ?_
                      refine lv_aload_n hC.1 hC.2.1 dX7_ofWedding_125 rfl (lv_at hl 0 rfl) ?_
                      refine ag_get hC hT G (k_wd (vlt hn2)) (e_wd (vlt hn2)) k_X6 i_T_X7_ofWedding_X6 10 (by decide) (wm 13 rfl) rfl dX7_ofWedding_126 ?_
                      refine W.widen (k := 2) (n := 12) (by decide) (by decide) ?_
                      exact vx_ret (ag_iret hC hr hlocks G h dX7_ofWedding_129)
                    · replace h := h.2 c12
                      rcases Decidable.em (a2 = 10) with c13 | c13
                      · replace h := h.1 c13
                        refine lv_tableIn (off := 117) (tgt := 130) hC.1 hC.2.1 dX7_ofWedding_13 (by rw [c13]; decide) (by rw [c13]; decide) (by rw [c13]; rfl) (by decide) ?_
                        refine lv_aload_n hC.1 hC.2.1 dX7_ofWedding_130 rfl (lv_at hl 0 rfl) ?_
                        refine ag_get hC hT G (k_wd (vlt hn2)) (e_wd (vlt hn2)) k_X6 i_T_X7_ofWedding_X6 11 (by decide) (wm 14 rfl) rfl dX7_ofWedding_131 ?_
                        refine W.widen (k := 2) (n := 12) (by decide) (by decide) ?_
                        exact vx_ret (ag_iret hC hr hlocks G h dX7_ofWedding_134)
                      · replace h := h.2 c13
                        rcases Decidable.em (a2 = 11) with c16 | c16
                        · replace h := h.1 c16
                          refine lv_tableIn (off := 122) (tgt := 135) hC.1 hC.2.1 dX7_ofWedding_13 (by rw [c16]; decide) (by rw [c16]; decide) (by rw [c16]; rfl) (by decide) ?_
                          refine lv_aload_n hC.1 hC.2.1 dX7_ofWedding_135 rfl (lv_at hl 1 rfl) ?_
                          refine lv_iload_n hC.1 hC.2.1 dX7_ofWedding_136 rfl (lv_at hl 2 rfl) ?_
                          refine ag_i G (ag_runV (As := [.int a1]) (rest := []) hC hT G (c_X7_placeInQueue l D cy lay h _) (cwV 1 hC.2.2.2.2 gX7_ofWedding_X7_placeInQueue rfl rfl rfl hdV_X7_placeInQueue ⟨Nat.le_of_ble_eq_true rfl, Nat.le_of_ble_eq_true rfl⟩) (ag_recv hT G (by decide) e_ag k_X7) rfl hl.1 rfl (Nat.le_of_ble_eq_true rfl) dX7_ofWedding_137 ⟨Nat.le_of_ble_eq_true rfl, Nat.le_of_ble_eq_true rfl⟩) (fun r15 σ14 H locs h G => ?_)
                          (try dsimp only at h)
                          refine W.widen (k := 2) (n := 12) (by decide) (by decide) ?_
                          exact vx_ret (ag_iret hC hr hlocks G h dX7_ofWedding_140)
                        · replace h := h.2 c16
                          rcases Decidable.em (a2 = 12) with c19 | c19
                          · replace h := h.1 c19
                            refine lv_tableIn (off := 128) (tgt := 141) hC.1 hC.2.1 dX7_ofWedding_13 (by rw [c19]; decide) (by rw [c19]; decide) (by rw [c19]; rfl) (by decide) ?_
                            refine lv_aload_n hC.1 hC.2.1 dX7_ofWedding_141 rfl (lv_at hl 0 rfl) ?_
                            refine ag_i G (ag_runV (As := []) (rest := []) hC hT G (c_X6_quarters l D cy lay h (vlt hn2) _) (cwV 0 hC.2.2.2.2 gX7_ofWedding_X6_quarters rfl rfl rfl hdV_X6_quarters ⟨Nat.le_of_ble_eq_true rfl, Nat.le_of_ble_eq_true rfl⟩) (ag_recv hT G (k_wd (vlt hn2)) (e_wd (vlt hn2)) k_X6) rfl hl.1 rfl (Nat.le_of_ble_eq_true rfl) dX7_ofWedding_142 ⟨Nat.le_of_ble_eq_true rfl, Nat.le_of_ble_eq_true rfl⟩) (fun r18 σ17 H locs h G => ?_)
                            (try dsimp only at h)
                            refine W.widen (k := 2) (n := 12) (by decide) (by decide) ?_
                            exact vx_ret (ag_iret hC hr hlocks G h dX7_ofWedding_145)
                          · replace h := h.2 c19
                            refine lv_tableOut (tgt := 146) hC.1 hC.2.1 dX7_ofWedding_13 (tsw_out 13 rfl (by decide) (fun k hk => by rcases (show k = 0 ∨ k = 1 ∨ k = 2 ∨ k = 3 ∨ k = 4 ∨ k = 5 ∨ k = 6 ∨ k = 7 ∨ k = 8 ∨ k = 9 ∨ k = 10 ∨ k = 11 ∨ k = 12 by omega) with rfl | rfl | rfl | rfl | rfl | rfl | rfl | rfl | rfl | rfl | rfl | rfl | rfl <;> assumption)) (by decide) ?_
                            exact ag_throwW (text := "nothing like that is known of a wedding") (names := ["java/lang/RuntimeException", "java/lang/Exception"]) hl0 hC hT G htab hlocks hl.1 (by decide) (by decide) (wm 1 rfl) (wm 2 rfl) (List.mem_of_getElem? (i := 21) rfl) (fun _ h => List.mem_cons_of_mem _ (List.mem_append_left _ (List.mem_append_right _ h))) exIAE_all exIAE_good dX7_ofWedding_146 dX7_ofWedding_149 dX7_ofWedding_150 dX7_ofWedding_153 dX7_ofWedding_156 (by decide) (Nat.le_of_ble_eq_true rfl) (Nat.le_of_ble_eq_true rfl) (Nat.le_of_ble_eq_true rfl) (by decide) (by decide) h
abbrev rm_T_X7_drive : Room := { frames := 7, cells := 2, slots := 12, locals := 102 }
theorem i_T_X7_drive_X7 : ∀ w ∈ wsX70, w ∈ wsX7_drive := fun _ h => List.mem_cons_of_mem _ (List.mem_append_left _ (List.mem_append_left _ (List.mem_append_right _ h)))
def w_T_X7_drive (post : Int32 → MS → Prop) (pex : String → MS → Prop) (σ : MS) (a1 : Int32) (a2 : Int32) : Prop := w_T_X7_checkTown (fun σ1 => w_T_X7_checkTown (fun σ2 => w_X4_between (fun r4 σ3 => post r4 σ3) σ2 a1 a2) pex σ1 a2) pex σ a1
set_option maxHeartbeats 4000000 in
set_option maxRecDepth 100000 in
theorem c_T_X7_drive (l : Launch) (hl0 : l.stackTraces = false) (D : va_G) (cy : Nat → ClassId) (lay : Nat → Nat) {σ : MS} {post : Int32 → MS → Prop} {pex : String → MS → Prop} {a1 : Int32} {a2 : Int32} (h : w_T_X7_drive post pex σ a1 a2) (sz : Nat) : vx_Met l yX7_drive wsX7_drive rm_T_X7_drive (va_Pc [.ref (lay 0), .int a1, .int a2] (agI D cy lay σ sz)) (va_Qi post (agO D cy lay) (agA lay sz)) (agXC D cy lay pex sz) 2 12 (agA lay sz) := by
  refine ag_ofX (cc := cX7_drive) (maxL := 3) (ret := some .int) (own := RX7) (Qc := fun sz => va_Qi post (agO D cy lay) (agA lay sz)) (by decide) rfl (Nat.le_of_ble_eq_true rfl) rfl ?_
  intro p e s m args below meth c ls hC hr hlocks htab hT G hl
  unfold w_T_X7_drive at h
  have hl : lv_has ls 3 [(0, .ref (lay 0)), (1, .int a1), (2, .int a2)] := hl
  refine lv_iload_n hC.1 hC.2.1 dX7_drive_0 rfl (lv_at hl 1 rfl) ?_
  refine ag_vT G htab hlocks (ag_runST (As := [.int a1]) (rest := []) hC hT G (c_T_X7_checkTown l hl0 D cy lay h _) (va_cwS 1 hC.2.2.2.2 gX7_drive_X7_checkTown rfl rfl rfl hdS_X7_checkTown ⟨Nat.le_of_ble_eq_true rfl, Nat.le_of_ble_eq_true rfl⟩) rfl hl.1 rfl (Nat.le_of_ble_eq_true rfl) dX7_drive_1 ⟨Nat.le_of_ble_eq_true rfl, Nat.le_of_ble_eq_true rfl⟩) (by decide) (by decide) (fun σ1 H locs h G => ?_)
  (try dsimp only at h)
  refine lv_iload_n hC.1 hC.2.1 dX7_drive_4 rfl (lv_at hl 2 rfl) ?_
  refine ag_vT G htab hlocks (ag_runST (As := [.int a2]) (rest := []) hC hT G (c_T_X7_checkTown l hl0 D cy lay h _) (va_cwS 1 hC.2.2.2.2 gX7_drive_X7_checkTown rfl rfl rfl hdS_X7_checkTown ⟨Nat.le_of_ble_eq_true rfl, Nat.le_of_ble_eq_true rfl⟩) rfl hl.1 rfl (Nat.le_of_ble_eq_true rfl) dX7_drive_5 ⟨Nat.le_of_ble_eq_true rfl, Nat.le_of_ble_eq_true rfl⟩) (by decide) (by decide) (fun σ2 H locs h G => ?_)
  (try dsimp only at h)
  refine lv_aload_n hC.1 hC.2.1 dX7_drive_8 rfl (lv_at hl 0 rfl) ?_
  refine ag_get hC hT G (by decide) e_ag k_X7 i_T_X7_drive_X7 4 (by decide) (wm 1 rfl) rfl dX7_drive_9 ?_
  refine lv_iload_n hC.1 hC.2.1 dX7_drive_12 rfl (lv_at hl 1 rfl) ?_
  refine lv_iload_n hC.1 hC.2.1 dX7_drive_13 rfl (lv_at hl 2 rfl) ?_
  refine ag_i G (ag_runV (As := [.int a1, .int a2]) (rest := []) hC hT G (c_X4_between l D cy lay h _) (cwV 2 hC.2.2.2.2 gX7_drive_X4_between rfl rfl rfl hdV_X4_between ⟨Nat.le_of_ble_eq_true rfl, Nat.le_of_ble_eq_true rfl⟩) (ag_recv hT G (by decide) e_rd k_X4) rfl hl.1 rfl (Nat.le_of_ble_eq_true rfl) dX7_drive_14 ⟨Nat.le_of_ble_eq_true rfl, Nat.le_of_ble_eq_true rfl⟩) (fun r4 σ3 H locs h G => ?_)
  (try dsimp only at h)
  refine W.widen (k := 2) (n := 12) (by decide) (by decide) ?_
  exact vx_ret (ag_iret hC hr hlocks G h dX7_drive_17)
abbrev rm_T_X7_free : Room := { frames := 7, cells := 2, slots := 12, locals := 103 }
def w_T_X7_free (post : Int32 → MS → Prop) (pex : String → MS → Prop) (σ : MS) (a1 : Int32) (a2 : Int32) : Prop := w_T_X7_checkPlayer (fun σ1 => w_T_X7_checkWedding (fun σ2 => w_X7_stageAsFixed (fun σ3 => w_X7_isFreeFor (fun r5 σ4 => (narrow .boolean (.int r5) = .int r5 ∧ post r5 σ4)) σ3 a1 a2) σ2) pex σ1 a2) pex σ a1
set_option maxHeartbeats 4000000 in
set_option maxRecDepth 100000 in
theorem c_T_X7_free (l : Launch) (hl0 : l.stackTraces = false) (D : va_G) (cy : Nat → ClassId) (lay : Nat → Nat) {σ : MS} {post : Int32 → MS → Prop} {pex : String → MS → Prop} {a1 : Int32} {a2 : Int32} (h : w_T_X7_free post pex σ a1 a2) (sz : Nat) : vx_Met l yX7_free wsX7_free rm_T_X7_free (va_Pc [.ref (lay 0), .int a1, .int a2] (agI D cy lay σ sz)) (va_Qi post (agO D cy lay) (agA lay sz)) (agXC D cy lay pex sz) 2 12 (agA lay sz) := by
  refine ag_ofX (cc := cX7_free) (maxL := 3) (ret := some .boolean) (own := RX7) (Qc := fun sz => va_Qi post (agO D cy lay) (agA lay sz)) (by decide) rfl (Nat.le_of_ble_eq_true rfl) rfl ?_
  intro p e s m args below meth c ls hC hr hlocks htab hT G hl
  unfold w_T_X7_free at h
  have hl : lv_has ls 3 [(0, .ref (lay 0)), (1, .int a1), (2, .int a2)] := hl
  refine lv_aload_n hC.1 hC.2.1 dX7_free_0 rfl (lv_at hl 0 rfl) ?_
  refine lv_iload_n hC.1 hC.2.1 dX7_free_1 rfl (lv_at hl 1 rfl) ?_
  refine ag_vT G htab hlocks (ag_runVT (As := [.int a1]) (rest := []) hC hT G (c_T_X7_checkPlayer l hl0 D cy lay h _) (cwV 1 hC.2.2.2.2 gX7_free_X7_checkPlayer rfl rfl rfl hdV_X7_checkPlayer ⟨Nat.le_of_ble_eq_true rfl, Nat.le_of_ble_eq_true rfl⟩) (ag_recv hT G (by decide) e_ag k_X7) rfl hl.1 rfl (Nat.le_of_ble_eq_true rfl) dX7_free_2 ⟨Nat.le_of_ble_eq_true rfl, Nat.le_of_ble_eq_true rfl⟩) (by decide) (by decide) (fun σ1 H locs h G => ?_)
  (try dsimp only at h)
  refine lv_aload_n hC.1 hC.2.1 dX7_free_5 rfl (lv_at hl 0 rfl) ?_
  refine lv_iload_n hC.1 hC.2.1 dX7_free_6 rfl (lv_at hl 2 rfl) ?_
  refine ag_vT G htab hlocks (ag_runVT (As := [.int a2]) (rest := []) hC hT G (c_T_X7_checkWedding l hl0 D cy lay h _) (cwV 1 hC.2.2.2.2 gX7_free_X7_checkWedding rfl rfl rfl hdV_X7_checkWedding ⟨Nat.le_of_ble_eq_true rfl, Nat.le_of_ble_eq_true rfl⟩) (ag_recv hT G (by decide) e_ag k_X7) rfl hl.1 rfl (Nat.le_of_ble_eq_true rfl) dX7_free_7 ⟨Nat.le_of_ble_eq_true rfl, Nat.le_of_ble_eq_true rfl⟩) (by decide) (by decide) (fun σ2 H locs h G => ?_)
  (try dsimp only at h)
  refine lv_aload_n hC.1 hC.2.1 dX7_free_10 rfl (lv_at hl 0 rfl) ?_
  refine ag_v G (ag_runV (As := []) (rest := []) hC hT G (c_X7_stageAsFixed l D cy lay h _) (cwV 0 hC.2.2.2.2 gX7_free_X7_stageAsFixed rfl rfl rfl hdV_X7_stageAsFixed ⟨Nat.le_of_ble_eq_true rfl, Nat.le_of_ble_eq_true rfl⟩) (ag_recv hT G (by decide) e_ag k_X7) rfl hl.1 rfl (Nat.le_of_ble_eq_true rfl) dX7_free_11 ⟨Nat.le_of_ble_eq_true rfl, Nat.le_of_ble_eq_true rfl⟩) (fun σ3 H locs h G => ?_)
  (try dsimp only at h)
  refine lv_aload_n hC.1 hC.2.1 dX7_free_14 rfl (lv_at hl 0 rfl) ?_
  refine lv_iload_n hC.1 hC.2.1 dX7_free_15 rfl (lv_at hl 1 rfl) ?_
  refine lv_iload_n hC.1 hC.2.1 dX7_free_16 rfl (lv_at hl 2 rfl) ?_
  refine ag_i G (ag_runV (As := [.int a1, .int a2]) (rest := []) hC hT G (c_X7_isFreeFor l D cy lay h _) (cwV 2 hC.2.2.2.2 gX7_free_X7_isFreeFor rfl rfl rfl hdV_X7_isFreeFor ⟨Nat.le_of_ble_eq_true rfl, Nat.le_of_ble_eq_true rfl⟩) (ag_recv hT G (by decide) e_ag k_X7) rfl hl.1 rfl (Nat.le_of_ble_eq_true rfl) dX7_free_17 ⟨Nat.le_of_ble_eq_true rfl, Nat.le_of_ble_eq_true rfl⟩) (fun r5 σ4 H locs h G => ?_)
  (try dsimp only at h)
  refine W.widen (k := 2) (n := 12) (by decide) (by decide) ?_
  exact vx_ret (ag_zret hC hr hlocks G h.1 h.2 dX7_free_20)
theorem hdV_X7_free : yX7_free.cls = RX7 ∧ yX7_free.cls ≠ "java/lang/invoke/MethodHandle" ∧ yX7_free.cls ≠ "java/lang/invoke/VarHandle" ∧ (parseMethodDescriptor yX7_free.desc).map (fun d => d.parameters.length) = some 2 := by decide +kernel
abbrev rm_T_X7_filling : Room := { frames := 7, cells := 2, slots := 12, locals := 118 }
theorem i_T_X7_filling_X7 : ∀ w ∈ wsX70, w ∈ wsX7_filling := fun _ h => List.mem_cons_of_mem _ (List.mem_append_left _ (List.mem_append_left _ (List.mem_append_left _ (List.mem_append_left _ (List.mem_append_left _ (List.mem_append_left _ (List.mem_append_left _ (List.mem_append_right _ h))))))))
theorem i_T_X7_filling_X2 : ∀ w ∈ wsX20, w ∈ wsX7_filling := fun _ h => List.mem_cons_of_mem _ (List.mem_append_left _ (List.mem_append_left _ (List.mem_append_left _ (List.mem_append_left _ (List.mem_append_left _ (List.mem_append_left _ (List.mem_append_right _ h)))))))
def u_T_X7_filling_14 (post : Int32 → MS → Prop) (pex : String → MS → Prop) (a1 : Int32) (a2 : Int32) (σ : MS) : Prop := pex "java/lang/IllegalArgumentException" σ
set_option maxHeartbeats 4000000 in
set_option maxRecDepth 100000 in
theorem l_T_X7_filling_14 {p : Program} {l : Launch} {e : Env} {s : State} {m : MethodId} {args : Array Value} {below : List Frame} {meth : Method} {c : Code} {D : va_G} {cy : Nat → ClassId} {lay : Nat → Nat} {post : Int32 → MS → Prop} {pex : String → MS → Prop} (a1 : Int32) (a2 : Int32) (hl0 : l.stackTraces = false) (hC : CallFix p m c cX7_filling 3 s args wsX7_filling RX7) (hr : meth.sig.returnType = some .int) (hlocks : meth.locks = false) (htab : ∀ x ∈ c.exceptionTable.toList, False) (hT : agT D cy lay s) : ∀ (σ : MS), u_T_X7_filling_14 post pex a1 a2 σ → ∀ (H : Heap) (locs : List Loc) (ls : Array Slot), agG D cy lay σ (agA lay s.heap.size) s.heap H locs → lv_has ls 3 [(0, .ref (lay 0)), (1, .int a1), (2, .int a2)] → W p l e rm_T_X7_filling s m args below meth c H locs 1 6 (vx_MQ below (va_Qi post (agO D cy lay) (agA lay s.heap.size)) (agXC D cy lay pex s.heap.size) args s 2 12 (agA lay s.heap.size)) (F0 m 14 ls []) := by
  intro σ h H locs ls G hl
  unfold u_T_X7_filling_14 at h
  exact ag_throwW (text := "nothing like that is known of a filling") (names := ["java/lang/RuntimeException", "java/lang/Exception"]) hl0 hC hT G htab hlocks hl.1 (by decide) (by decide) (wm 1 rfl) (wm 2 rfl) (List.mem_of_getElem? (i := 22) rfl) (fun _ h => List.mem_cons_of_mem _ (List.mem_append_left _ (List.mem_append_right _ h))) exIAE_all exIAE_good dX7_filling_14 dX7_filling_17 dX7_filling_18 dX7_filling_21 dX7_filling_24 (by decide) (Nat.le_of_ble_eq_true rfl) (Nat.le_of_ble_eq_true rfl) (Nat.le_of_ble_eq_true rfl) (by decide) (by decide) h
def w_T_X7_filling (post : Int32 → MS → Prop) (pex : String → MS → Prop) (σ : MS) (a1 : Int32) (a2 : Int32) : Prop := w_T_X7_checkWedding (fun σ1 => ((a2 < 0 → u_T_X7_filling_14 post pex a1 a2 σ1) ∧ (¬ a2 < 0 → ((a2 ≤ 3 → w_X7_surveyNow (fun σ4 => ((a2 = 0 → post (σ4 9 0) σ4) ∧ (¬ a2 = 0 → ((a2 = 1 → post (σ4 9 1) σ4) ∧ (¬ a2 = 1 → ((a2 = 2 → post (σ4 9 3) σ4) ∧ (¬ a2 = 2 → post (σ4 9 5) σ4))))))) σ1 a1) ∧ (¬ a2 ≤ 3 → u_T_X7_filling_14 post pex a1 a2 σ1))))) pex σ a1
set_option maxHeartbeats 4000000 in
set_option maxRecDepth 100000 in
theorem c_T_X7_filling (l : Launch) (hl0 : l.stackTraces = false) (D : va_G) (cy : Nat → ClassId) (lay : Nat → Nat) {σ : MS} {post : Int32 → MS → Prop} {pex : String → MS → Prop} {a1 : Int32} {a2 : Int32} (h : w_T_X7_filling post pex σ a1 a2) (sz : Nat) : vx_Met l yX7_filling wsX7_filling rm_T_X7_filling (va_Pc [.ref (lay 0), .int a1, .int a2] (agI D cy lay σ sz)) (va_Qi post (agO D cy lay) (agA lay sz)) (agXC D cy lay pex sz) 2 12 (agA lay sz) := by
  refine ag_ofX (cc := cX7_filling) (maxL := 3) (ret := some .int) (own := RX7) (Qc := fun sz => va_Qi post (agO D cy lay) (agA lay sz)) (by decide) rfl (Nat.le_of_ble_eq_true rfl) rfl ?_
  intro p e s m args below meth c ls hC hr hlocks htab hT G hl
  unfold w_T_X7_filling at h
  have hl : lv_has ls 3 [(0, .ref (lay 0)), (1, .int a1), (2, .int a2)] := hl
  refine lv_aload_n hC.1 hC.2.1 dX7_filling_0 rfl (lv_at hl 0 rfl) ?_
  refine lv_iload_n hC.1 hC.2.1 dX7_filling_1 rfl (lv_at hl 1 rfl) ?_
  refine ag_vT G htab hlocks (ag_runVT (As := [.int a1]) (rest := []) hC hT G (c_T_X7_checkWedding l hl0 D cy lay h _) (cwV 1 hC.2.2.2.2 gX7_filling_X7_checkWedding rfl rfl rfl hdV_X7_checkWedding ⟨Nat.le_of_ble_eq_true rfl, Nat.le_of_ble_eq_true rfl⟩) (ag_recv hT G (by decide) e_ag k_X7) rfl hl.1 rfl (Nat.le_of_ble_eq_true rfl) dX7_filling_2 ⟨Nat.le_of_ble_eq_true rfl, Nat.le_of_ble_eq_true rfl⟩) (by decide) (by decide) (fun σ1 H locs h G => ?_)
  (try dsimp only at h)
  refine lv_iload_n hC.1 hC.2.1 dX7_filling_5 rfl (lv_at hl 2 rfl) ?_
  refine lv_if_lt (tgt := 14) hC.1 hC.2.1 dX7_filling_6 (by decide) (fun c2 => ?_) (fun c2 => ?_)
  · replace h := h.1 c2
    exact l_T_X7_filling_14 a1 a2 hl0 hC hr hlocks htab hT _ h _ _ _ G (lv_sub hl [0, 1, 2] rfl)
  · replace h := h.2 c2
    refine lv_iload_n hC.1 hC.2.1 dX7_filling_9 rfl (lv_at hl 2 rfl) ?_
    refine lv_iconst (v := 3) hC.1 hC.2.1 dX7_filling_10 (by decide) ?_
    refine lv_icmp_le (tgt := 25) hC.1 hC.2.1 dX7_filling_11 (by decide) (fun c3 => ?_) (fun c3 => ?_)
    · replace h := h.1 c3
      refine lv_aload_n hC.1 hC.2.1 dX7_filling_25 rfl (lv_at hl 0 rfl) ?_
      refine lv_iload_n hC.1 hC.2.1 dX7_filling_26 rfl (lv_at hl 1 rfl) ?_
      refine ag_v G (ag_runV (As := [.int a1]) (rest := []) hC hT G (c_X7_surveyNow l D cy lay h _) (cwV 1 hC.2.2.2.2 gX7_filling_X7_surveyNow rfl rfl rfl hdV_X7_surveyNow ⟨Nat.le_of_ble_eq_true rfl, Nat.le_of_ble_eq_true rfl⟩) (ag_recv hT G (by decide) e_ag k_X7) rfl hl.1 rfl (Nat.le_of_ble_eq_true rfl) dX7_filling_27 ⟨Nat.le_of_ble_eq_true rfl, Nat.le_of_ble_eq_true rfl⟩) (fun σ4 H locs h G => ?_)
      (try dsimp only at h)
      refine lv_iload_n hC.1 hC.2.1 dX7_filling_30 rfl (lv_at hl 2 rfl) ?_
      rcases Decidable.em (a2 = 0) with c5 | c5
      · replace h := h.1 c5
        refine lv_tableIn (off := 25) (tgt := 56) hC.1 hC.2.1 dX7_filling_31 (by rw [c5]; decide) (by rw [c5]; decide) (by rw [c5]; rfl) (by decide) ?_
        refine lv_aload_n hC.1 hC.2.1 dX7_filling_56 rfl (lv_at hl 0 rfl) ?_
        refine ag_get hC hT G (by decide) e_ag k_X7 i_T_X7_filling_X7 13 (by decide) (wm 3 rfl) rfl dX7_filling_57 ?_
        refine ag_get hC hT G (by decide) e_fd k_X2 i_T_X7_filling_X2 0 (by decide) (wm 4 rfl) rfl dX7_filling_60 ?_
        refine W.widen (k := 2) (n := 12) (by decide) (by decide) ?_
        exact vx_ret (ag_iret hC hr hlocks G h dX7_filling_63)
      · replace h := h.2 c5
        rcases Decidable.em (a2 = 1) with c6 | c6
        · replace h := h.1 c6
          refine lv_tableIn (off := 33) (tgt := 64) hC.1 hC.2.1 dX7_filling_31 (by rw [c6]; decide) (by rw [c6]; decide) (by rw [c6]; rfl) (by decide) ?_
          refine lv_aload_n hC.1 hC.2.1 dX7_filling_64 rfl (lv_at hl 0 rfl) ?_
          refine ag_get hC hT G (by decide) e_ag k_X7 i_T_X7_filling_X7 13 (by decide) (wm 3 rfl) rfl dX7_filling_65 ?_
          refine ag_get hC hT G (by decide) e_fd k_X2 i_T_X7_filling_X2 1 (by decide) (wm 5 rfl) rfl dX7_filling_68 ?_
          refine W.widen (k := 2) (n := 12) (by decide) (by decide) ?_
          exact vx_ret (ag_iret hC hr hlocks G h dX7_filling_71)
        · replace h := h.2 c6
          rcases Decidable.em (a2 = 2) with c7 | c7
          · replace h := h.1 c7
            refine lv_tableIn (off := 41) (tgt := 72) hC.1 hC.2.1 dX7_filling_31 (by rw [c7]; decide) (by rw [c7]; decide) (by rw [c7]; rfl) (by decide) ?_
            refine lv_aload_n hC.1 hC.2.1 dX7_filling_72 rfl (lv_at hl 0 rfl) ?_
            refine ag_get hC hT G (by decide) e_ag k_X7 i_T_X7_filling_X7 13 (by decide) (wm 3 rfl) rfl dX7_filling_73 ?_
            refine ag_get hC hT G (by decide) e_fd k_X2 i_T_X7_filling_X2 3 (by decide) (wm 6 rfl) rfl dX7_filling_76 ?_
            refine W.widen (k := 2) (n := 12) (by decide) (by decide) ?_
            exact vx_ret (ag_iret hC hr hlocks G h dX7_filling_79)
          · replace h := h.2 c7
            refine lv_tableOut (tgt := 80) hC.1 hC.2.1 dX7_filling_31 (tsw_out 3 rfl (by decide) (fun k hk => by rcases (show k = 0 ∨ k = 1 ∨ k = 2 by omega) with rfl | rfl | rfl <;> assumption)) (by decide) ?_
            refine lv_aload_n hC.1 hC.2.1 dX7_filling_80 rfl (lv_at hl 0 rfl) ?_
            refine ag_get hC hT G (by decide) e_ag k_X7 i_T_X7_filling_X7 13 (by decide) (wm 3 rfl) rfl dX7_filling_81 ?_
            refine ag_get hC hT G (by decide) e_fd k_X2 i_T_X7_filling_X2 5 (by decide) (wm 7 rfl) rfl dX7_filling_84 ?_
            refine W.widen (k := 2) (n := 12) (by decide) (by decide) ?_
            exact vx_ret (ag_iret hC hr hlocks G h dX7_filling_87)
    · replace h := h.2 c3
      exact l_T_X7_filling_14 a1 a2 hl0 hC hr hlocks htab hT _ h _ _ _ G (lv_sub hl [0, 1, 2] rfl)
theorem hdV_X7_filling : yX7_filling.cls = RX7 ∧ yX7_filling.cls ≠ "java/lang/invoke/MethodHandle" ∧ yX7_filling.cls ≠ "java/lang/invoke/VarHandle" ∧ (parseMethodDescriptor yX7_filling.desc).map (fun d => d.parameters.length) = some 2 := by decide +kernel
abbrev rm_T_X7_set : Room := { frames := 6, cells := 1, slots := 6, locals := 82 }
theorem i_T_X7_set_X7 : ∀ w ∈ wsX70, w ∈ wsX7_set := fun _ h => List.mem_cons_of_mem _ (List.mem_append_left _ (List.mem_append_left _ (List.mem_append_left _ (List.mem_append_left _ (List.mem_append_right _ h)))))
theorem i_T_X7_set_X1 : ∀ w ∈ wsX10, w ∈ wsX7_set := fun _ h => List.mem_cons_of_mem _ (List.mem_append_left _ (List.mem_append_left _ (List.mem_append_left _ (List.mem_append_right _ h))))
def u_T_X7_set_14 (post : Int32 → MS → Prop) (pex : String → MS → Prop) (a1 : Int32) (a2 : Int32) (σ : MS) : Prop := pex "java/lang/IllegalArgumentException" σ
set_option maxHeartbeats 4000000 in
set_option maxRecDepth 100000 in
theorem l_T_X7_set_14 {p : Program} {l : Launch} {e : Env} {s : State} {m : MethodId} {args : Array Value} {below : List Frame} {meth : Method} {c : Code} {D : va_G} {cy : Nat → ClassId} {lay : Nat → Nat} {post : Int32 → MS → Prop} {pex : String → MS → Prop} (a1 : Int32) (a2 : Int32) (hl0 : l.stackTraces = false) (hC : CallFix p m c cX7_set 3 s args wsX7_set RX7) (hr : meth.sig.returnType = some .int) (hlocks : meth.locks = false) (htab : ∀ x ∈ c.exceptionTable.toList, False) (hT : agT D cy lay s) : ∀ (σ : MS), u_T_X7_set_14 post pex a1 a2 σ → ∀ (H : Heap) (locs : List Loc) (ls : Array Slot), agG D cy lay σ (agA lay s.heap.size) s.heap H locs → lv_has ls 3 [(0, .ref (lay 0)), (1, .int a1), (2, .int a2)] → W p l e rm_T_X7_set s m args below meth c H locs 0 0 (vx_MQ below (va_Qi post (agO D cy lay) (agA lay s.heap.size)) (agXC D cy lay pex s.heap.size) args s 1 6 (agA lay s.heap.size)) (F0 m 14 ls []) := by
  intro σ h H locs ls G hl
  unfold u_T_X7_set_14 at h
  exact ag_throwW (text := "not a set of players") (names := ["java/lang/RuntimeException", "java/lang/Exception"]) hl0 hC hT G htab hlocks hl.1 (by decide) (by decide) (wm 1 rfl) (wm 2 rfl) (List.mem_of_getElem? (i := 23) rfl) (fun _ h => List.mem_cons_of_mem _ (List.mem_append_right _ h)) exIAE_all exIAE_good dX7_set_14 dX7_set_17 dX7_set_18 dX7_set_21 dX7_set_24 (by decide) (Nat.le_of_ble_eq_true rfl) (Nat.le_of_ble_eq_true rfl) (Nat.le_of_ble_eq_true rfl) (by decide) (by decide) h
def w_T_X7_set (post : Int32 → MS → Prop) (pex : String → MS → Prop) (σ : MS) (a1 : Int32) (a2 : Int32) : Prop := ((a1 < 0 → u_T_X7_set_14 post pex a1 a2 σ) ∧ (¬ a1 < 0 → ((a1 < (1 <<< ((σ 0 6) &&& 31)) → w_X7_playableFor (fun r4 σ3 => w_X1_choose (fun σ5 => ((a2 = 0 → post (σ5 10 1) σ5) ∧ (¬ a2 = 0 → post (σ5 10 2) σ5))) σ3 r4) σ a1) ∧ (¬ a1 < (1 <<< ((σ 0 6) &&& 31)) → u_T_X7_set_14 post pex a1 a2 σ))))
set_option maxHeartbeats 4000000 in
set_option maxRecDepth 100000 in
theorem c_T_X7_set (l : Launch) (hl0 : l.stackTraces = false) (D : va_G) (cy : Nat → ClassId) (lay : Nat → Nat) {σ : MS} {post : Int32 → MS → Prop} {pex : String → MS → Prop} {a1 : Int32} {a2 : Int32} (h : w_T_X7_set post pex σ a1 a2) (sz : Nat) : vx_Met l yX7_set wsX7_set rm_T_X7_set (va_Pc [.ref (lay 0), .int a1, .int a2] (agI D cy lay σ sz)) (va_Qi post (agO D cy lay) (agA lay sz)) (agXC D cy lay pex sz) 1 6 (agA lay sz) := by
  refine ag_ofX (cc := cX7_set) (maxL := 3) (ret := some .int) (own := RX7) (Qc := fun sz => va_Qi post (agO D cy lay) (agA lay sz)) (by decide) rfl (Nat.le_of_ble_eq_true rfl) rfl ?_
  intro p e s m args below meth c ls hC hr hlocks htab hT G hl
  unfold w_T_X7_set at h
  have hl : lv_has ls 3 [(0, .ref (lay 0)), (1, .int a1), (2, .int a2)] := hl
  refine lv_iload_n hC.1 hC.2.1 dX7_set_0 rfl (lv_at hl 1 rfl) ?_
  refine lv_if_lt (tgt := 14) hC.1 hC.2.1 dX7_set_1 (by decide) (fun c1 => ?_) (fun c1 => ?_)
  · replace h := h.1 c1
    exact l_T_X7_set_14 a1 a2 hl0 hC hr hlocks htab hT _ h _ _ _ G (lv_sub hl [0, 1, 2] rfl)
  · replace h := h.2 c1
    refine lv_iload_n hC.1 hC.2.1 dX7_set_4 rfl (lv_at hl 1 rfl) ?_
    refine lv_iconst (v := 1) hC.1 hC.2.1 dX7_set_5 (by decide) ?_
    refine lv_aload_n hC.1 hC.2.1 dX7_set_6 rfl (lv_at hl 0 rfl) ?_
    refine ag_get hC hT G (by decide) e_ag k_X7 i_T_X7_set_X7 6 (by decide) (wm 3 rfl) rfl dX7_set_7 ?_
    refine lv_ishl hC.1 hC.2.1 dX7_set_10 ?_
    refine lv_icmp_lt (tgt := 25) hC.1 hC.2.1 dX7_set_11 (by decide) (fun c2 => ?_) (fun c2 => ?_)
    · replace h := h.1 c2
      refine lv_aload_n hC.1 hC.2.1 dX7_set_25 rfl (lv_at hl 0 rfl) ?_
      refine ag_get hC hT G (by decide) e_ag k_X7 i_T_X7_set_X7 14 (by decide) (wm 4 rfl) rfl dX7_set_26 ?_
      refine lv_aload_n hC.1 hC.2.1 dX7_set_29 rfl (lv_at hl 0 rfl) ?_
      refine ag_get hC hT G (by decide) e_ag k_X7 i_T_X7_set_X7 1 (by decide) (wm 5 rfl) rfl dX7_set_30 ?_
      refine lv_aload_n hC.1 hC.2.1 dX7_set_33 rfl (lv_at hl 0 rfl) ?_
      refine lv_iload_n hC.1 hC.2.1 dX7_set_34 rfl (lv_at hl 1 rfl) ?_
      refine ag_i G (ag_runV (As := [.int a1]) (rest := [.ref (lay 2), .ref (lay 10)]) hC hT G (c_X7_playableFor l D cy lay h _) (cwV 1 hC.2.2.2.2 gX7_set_X7_playableFor rfl rfl rfl hdV_X7_playableFor ⟨Nat.le_of_ble_eq_true rfl, Nat.le_of_ble_eq_true rfl⟩) (ag_recv hT G (by decide) e_ag k_X7) rfl hl.1 rfl (Nat.le_of_ble_eq_true rfl) dX7_set_35 ⟨Nat.le_of_ble_eq_true rfl, Nat.le_of_ble_eq_true rfl⟩) (fun r4 σ3 H locs h G => ?_)
      (try dsimp only at h)
      refine ag_v G (ag_runV (As := [.ref (lay 2), .int r4]) (rest := []) hC hT G (c_X1_choose l D cy lay h _) (cwV 2 hC.2.2.2.2 gX7_set_X1_choose rfl rfl rfl hdV_X1_choose ⟨Nat.le_of_ble_eq_true rfl, Nat.le_of_ble_eq_true rfl⟩) (ag_recv hT G (by decide) e_bs k_X1) rfl hl.1 rfl (Nat.le_of_ble_eq_true rfl) dX7_set_38 ⟨Nat.le_of_ble_eq_true rfl, Nat.le_of_ble_eq_true rfl⟩) (fun σ5 H locs h G => ?_)
      (try dsimp only at h)
      refine lv_iload_n hC.1 hC.2.1 dX7_set_41 rfl (lv_at hl 2 rfl) ?_
      refine lv_if_eq (tgt := 55) hC.1 hC.2.1 dX7_set_42 (by decide) (fun c6 => ?_) (fun c6 => ?_)
      · replace h := h.1 c6
        refine lv_aload_n hC.1 hC.2.1 dX7_set_55 rfl (lv_at hl 0 rfl) ?_
        refine ag_get hC hT G (by decide) e_ag k_X7 i_T_X7_set_X7 14 (by decide) (wm 4 rfl) rfl dX7_set_56 ?_
        refine ag_get hC hT G (by decide) e_bs k_X1 i_T_X7_set_X1 1 (by decide) (wm 7 rfl) rfl dX7_set_59 ?_
        refine W.widen (k := 1) (n := 6) (by decide) (by decide) ?_
        exact vx_ret (ag_iret hC hr hlocks G h dX7_set_62)
      · replace h := h.2 c6
        refine lv_aload_n hC.1 hC.2.1 dX7_set_45 rfl (lv_at hl 0 rfl) ?_
        refine ag_get hC hT G (by decide) e_ag k_X7 i_T_X7_set_X7 14 (by decide) (wm 4 rfl) rfl dX7_set_46 ?_
        refine ag_get hC hT G (by decide) e_bs k_X1 i_T_X7_set_X1 2 (by decide) (wm 6 rfl) rfl dX7_set_49 ?_
        refine lv_goto (tgt := 62) hC.1 hC.2.1 dX7_set_52 (by decide) ?_
        refine W.widen (k := 1) (n := 6) (by decide) (by decide) ?_
        exact vx_ret (ag_iret hC hr hlocks G h dX7_set_62)
    · replace h := h.2 c2
      exact l_T_X7_set_14 a1 a2 hl0 hC hr hlocks htab hT _ h _ _ _ G (lv_sub hl [0, 1, 2] rfl)
end
section
abbrev rm_T_X7_desk : Room := { frames := 6, cells := 1, slots := 6, locals := 82 }
theorem i_T_X7_desk_X7 : ∀ w ∈ wsX70, w ∈ wsX7_desk := fun _ h => List.mem_cons_of_mem _ (List.mem_append_left _ (List.mem_append_left _ (List.mem_append_left _ (List.mem_append_right _ h))))
def w_T_X7_desk (post : Int32 → MS → Prop) (pex : String → MS → Prop) (σ : MS) (a1 : Int32) : Prop := ((a1 = 0 → post (σ 0 9) σ) ∧ (¬ a1 = 0 → ((a1 = 1 → post (σ 0 6) σ) ∧ (¬ a1 = 1 → ((a1 = 2 → post (σ 0 7) σ) ∧ (¬ a1 = 2 → ((a1 = 3 → post (σ 0 8) σ) ∧ (¬ a1 = 3 → ((a1 = 4 → w_X7_countInState (fun r6 σ5 => post r6 σ5) σ 0) ∧ (¬ a1 = 4 → ((a1 = 5 → w_X7_countInState (fun r9 σ8 => post r9 σ8) σ 1) ∧ (¬ a1 = 5 → ((a1 = 6 → w_X7_countInState (fun r12 σ11 => post r12 σ11) σ 2) ∧ (¬ a1 = 6 → ((a1 = 7 → w_X7_countInState (fun r15 σ14 => post r15 σ14) σ 3) ∧ (¬ a1 = 7 → ((a1 = 8 → post (σ 0 10) σ) ∧ (¬ a1 = 8 → ((a1 = 9 → w_X7_countFeuds (fun r19 σ18 => post r19 σ18) σ) ∧ (¬ a1 = 9 → ((a1 = 10 → w_X7_allEarned (fun r22 σ21 => post r22 σ21) σ) ∧ (¬ a1 = 10 → ((a1 = 11 → w_X7_countDaysOff (fun r25 σ24 => post r25 σ24) σ) ∧ (¬ a1 = 11 → ((a1 = 12 → w_X7_gapOfHours (fun r28 σ27 => post r28 σ27) σ) ∧ (¬ a1 = 12 → pex "java/lang/IllegalArgumentException" σ))))))))))))))))))))))))))
set_option maxHeartbeats 4000000 in
set_option maxRecDepth 100000 in
theorem c_T_X7_desk (l : Launch) (hl0 : l.stackTraces = false) (D : va_G) (cy : Nat → ClassId) (lay : Nat → Nat) {σ : MS} {post : Int32 → MS → Prop} {pex : String → MS → Prop} {a1 : Int32} (h : w_T_X7_desk post pex σ a1) (sz : Nat) : vx_Met l yX7_desk wsX7_desk rm_T_X7_desk (va_Pc [.ref (lay 0), .int a1] (agI D cy lay σ sz)) (va_Qi post (agO D cy lay) (agA lay sz)) (agXC D cy lay pex sz) 1 6 (agA lay sz) := by
  refine ag_ofX (cc := cX7_desk) (maxL := 2) (ret := some .int) (own := RX7) (Qc := fun sz => va_Qi post (agO D cy lay) (agA lay sz)) (by decide) rfl (Nat.le_of_ble_eq_true rfl) rfl ?_
  intro p e s m args below meth c ls hC hr hlocks htab hT G hl
  unfold w_T_X7_desk at h
  have hl : lv_has ls 2 [(0, .ref (lay 0)), (1, .int a1)] := hl
  refine lv_iload_n hC.1 hC.2.1 dX7_desk_0 rfl (lv_at hl 1 rfl) ?_
  rcases Decidable.em (a1 = 0) with c1 | c1
  · replace h := h.1 c1
    refine lv_tableIn (off := 67) (tgt := 68) hC.1 hC.2.1 dX7_desk_1 (by rw [c1]; decide) (by rw [c1]; decide) (by rw [c1]; rfl) (by decide) ?_
    refine lv_aload_n hC.1 hC.2.1 dX7_desk_68 rfl (lv_at hl 0 rfl) ?_
    refine ag_get hC hT G (by decide) e_ag k_X7 i_T_X7_desk_X7 9 (by decide) (wm 3 rfl) rfl dX7_desk_69 ?_
    refine W.widen (k := 1) (n := 6) (by decide) (by decide) ?_
    exact vx_ret (ag_iret hC hr hlocks G h dX7_desk_72)
  · replace h := h.2 c1
    rcases Decidable.em (a1 = 1) with c2 | c2
    · replace h := h.1 c2
      refine lv_tableIn (off := 72) (tgt := 73) hC.1 hC.2.1 dX7_desk_1 (by rw [c2]; decide) (by rw [c2]; decide) (by rw [c2]; rfl) (by decide) ?_
      refine lv_aload_n hC.1 hC.2.1 dX7_desk_73 rfl (lv_at hl 0 rfl) ?_
      refine ag_get hC hT G (by decide) e_ag k_X7 i_T_X7_desk_X7 6 (by decide) (wm 4 rfl) rfl dX7_desk_74 ?_
      refine W.widen (k := 1) (n := 6) (by decide) (by decide) ?_
      exact vx_ret (ag_iret hC hr hlocks G h dX7_desk_77)
    · replace h := h.2 c2
      rcases Decidable.em (a1 = 2) with c3 | c3
      · replace h := h.1 c3
        refine lv_tableIn (off := 77) (tgt := 78) hC.1 hC.2.1 dX7_desk_1 (by rw [c3]; decide) (by rw [c3]; decide) (by rw [c3]; rfl) (by decide) ?_
        refine lv_aload_n hC.1 hC.2.1 dX7_desk_78 rfl (lv_at hl 0 rfl) ?_
        refine ag_get hC hT G (by decide) e_ag k_X7 i_T_X7_desk_X7 7 (by decide) (wm 5 rfl) rfl dX7_desk_79 ?_
        refine W.widen (k := 1) (n := 6) (by decide) (by decide) ?_
        exact vx_ret (ag_iret hC hr hlocks G h dX7_desk_82)
      · replace h := h.2 c3
        rcases Decidable.em (a1 = 3) with c4 | c4
        · replace h := h.1 c4
          refine lv_tableIn (off := 82) (tgt := 83) hC.1 hC.2.1 dX7_desk_1 (by rw [c4]; decide) (by rw [c4]; decide) (by rw [c4]; rfl) (by decide) ?_
          refine lv_aload_n hC.1 hC.2.1 dX7_desk_83 rfl (lv_at hl 0 rfl) ?_
          refine ag_get hC hT G (by decide) e_ag k_X7 i_T_X7_desk_X7 8 (by decide) (wm 6 rfl) rfl dX7_desk_84 ?_
          refine W.widen (k := 1) (n := 6) (by decide) (by decide) ?_
          exact vx_ret (ag_iret hC hr hlocks G h dX7_desk_87)
        · replace h := h.2 c4
          rcases Decidable.em (a1 = 4) with c7 | c7
          · replace h := h.1 c7
            refine lv_tableIn (off := 87) (tgt := 88) hC.1 hC.2.1 dX7_desk_1 (by rw [c7]; decide) (by rw [c7]; decide) (by rw [c7]; rfl) (by decide) ?_
            refine lv_aload_n hC.1 hC.2.1 dX7_desk_88 rfl (lv_at hl 0 rfl) ?_
            refine lv_iconst (v := 0) hC.1 hC.2.1 dX7_desk_89 (by decide) ?_
            refine ag_i G (ag_runV (As := [.int 0]) (rest := []) hC hT G (c_X7_countInState l D cy lay h _) (cwV 1 hC.2.2.2.2 gX7_desk_X7_countInState rfl rfl rfl hdV_X7_countInState ⟨Nat.le_of_ble_eq_true rfl, Nat.le_of_ble_eq_true rfl⟩) (ag_recv hT G (by decide) e_ag k_X7) rfl hl.1 rfl (Nat.le_of_ble_eq_true rfl) dX7_desk_90 ⟨Nat.le_of_ble_eq_true rfl, Nat.le_of_ble_eq_true rfl⟩) (fun r6 σ5 H locs h G => ?_)
            (try dsimp only at h)
            refine W.widen (k := 1) (n := 6) (by decide) (by decide) ?_
            exact vx_ret (ag_iret hC hr hlocks G h dX7_desk_93)
          · replace h := h.2 c7
            rcases Decidable.em (a1 = 5) with c10 | c10
            · replace h := h.1 c10
              refine lv_tableIn (off := 93) (tgt := 94) hC.1 hC.2.1 dX7_desk_1 (by rw [c10]; decide) (by rw [c10]; decide) (by rw [c10]; rfl) (by decide) ?_
              refine lv_aload_n hC.1 hC.2.1 dX7_desk_94 rfl (lv_at hl 0 rfl) ?_
              refine lv_iconst (v := 1) hC.1 hC.2.1 dX7_desk_95 (by decide) ?_
              refine ag_i G (ag_runV (As := [.int 1]) (rest := []) hC hT G (c_X7_countInState l D cy lay h _) (cwV 1 hC.2.2.2.2 gX7_desk_X7_countInState rfl rfl rfl hdV_X7_countInState ⟨Nat.le_of_ble_eq_true rfl, Nat.le_of_ble_eq_true rfl⟩) (ag_recv hT G (by decide) e_ag k_X7) rfl hl.1 rfl (Nat.le_of_ble_eq_true rfl) dX7_desk_96 ⟨Nat.le_of_ble_eq_true rfl, Nat.le_of_ble_eq_true rfl⟩) (fun r9 σ8 H locs h G => ?_)
              (try dsimp only at h)
              refine W.widen (k := 1) (n := 6) (by decide) (by decide) ?_
              exact vx_ret (ag_iret hC hr hlocks G h dX7_desk_99)
            · replace h := h.2 c10
              rcases Decidable.em (a1 = 6) with c13 | c13
              · replace h := h.1 c13
                refine lv_tableIn (off := 99) (tgt := 100) hC.1 hC.2.1 dX7_desk_1 (by rw [c13]; decide) (by rw [c13]; decide) (by rw [c13]; rfl) (by decide) ?_
                refine lv_aload_n hC.1 hC.2.1 dX7_desk_100 rfl (lv_at hl 0 rfl) ?_
                refine lv_iconst (v := 2) hC.1 hC.2.1 dX7_desk_101 (by decide) ?_
                refine ag_i G (ag_runV (As := [.int 2]) (rest := []) hC hT G (c_X7_countInState l D cy lay h _) (cwV 1 hC.2.2.2.2 gX7_desk_X7_countInState rfl rfl rfl hdV_X7_countInState ⟨Nat.le_of_ble_eq_true rfl, Nat.le_of_ble_eq_true rfl⟩) (ag_recv hT G (by decide) e_ag k_X7) rfl hl.1 rfl (Nat.le_of_ble_eq_true rfl) dX7_desk_102 ⟨Nat.le_of_ble_eq_true rfl, Nat.le_of_ble_eq_true rfl⟩) (fun r12 σ11 H locs h G => ?_)
                (try dsimp only at h)
                refine W.widen (k := 1) (n := 6) (by decide) (by decide) ?_
                exact vx_ret (ag_iret hC hr hlocks G h dX7_desk_105)
              · replace h := h.2 c13
                rcases Decidable.em (a1 = 7) with c16 | c16
                · replace h := h.1 c16
                  refine lv_tableIn (off := 105) (tgt := 106) hC.1 hC.2.1 dX7_desk_1 (by rw [c16]; decide) (by rw [c16]; decide) (by rw [c16]; rfl) (by decide) ?_
                  refine lv_aload_n hC.1 hC.2.1 dX7_desk_106 rfl (lv_at hl 0 rfl) ?_
                  refine lv_iconst (v := 3) hC.1 hC.2.1 dX7_desk_107 (by decide) ?_
                  refine ag_i G (ag_runV (As := [.int 3]) (rest := []) hC hT G (c_X7_countInState l D cy lay h _) (cwV 1 hC.2.2.2.2 gX7_desk_X7_countInState rfl rfl rfl hdV_X7_countInState ⟨Nat.le_of_ble_eq_true rfl, Nat.le_of_ble_eq_true rfl⟩) (ag_recv hT G (by decide) e_ag k_X7) rfl hl.1 rfl (Nat.le_of_ble_eq_true rfl) dX7_desk_108 ⟨Nat.le_of_ble_eq_true rfl, Nat.le_of_ble_eq_true rfl⟩) (fun r15 σ14 H locs h G => ?_)
                  (try dsimp only at h)
                  refine W.widen (k := 1) (n := 6) (by decide) (by decide) ?_
                  exact vx_ret (ag_iret hC hr hlocks G h dX7_desk_111)
                · replace h := h.2 c16
                  rcases Decidable.em (a1 = 8) with c17 | c17
                  · replace h := h.1 c17
                    refine lv_tableIn (off := 111) (tgt := 112) hC.1 hC.2.1 dX7_desk_1 (by rw [c17]; decide) (by rw [c17]; decide) (by rw [c17]; rfl) (by decide) ?_
                    refine lv_aload_n hC.1 hC.2.1 dX7_desk_112 rfl (lv_at hl 0 rfl) ?_
                    refine ag_get hC hT G (by decide) e_ag k_X7 i_T_X7_desk_X7 10 (by decide) (wm 7 rfl) rfl dX7_desk_113 ?_
                    refine W.widen (k := 1) (n := 6) (by decide) (by decide) ?_
                    exact vx_ret (ag_iret hC hr hlocks G h dX7_desk_116)
                  · replace h := h.2 c17
                    rcases Decidable.em (a1 = 9) with c20 | c20
                    · replace h := h.1 c20
                      refine lv_tableIn (off := 116) (tgt := 117) hC.1 hC.2.1 dX7_desk_1 (by rw [c20]; decide) (by rw [c20]; decide) (by rw [c20]; rfl) (by decide) ?_
                      refine lv_aload_n hC.1 hC.2.1 dX7_desk_117 rfl (lv_at hl 0 rfl) ?_
                      refine ag_i G (ag_runV (As := []) (rest := []) hC hT G (c_X7_countFeuds l D cy lay h _) (cwV 0 hC.2.2.2.2 gX7_desk_X7_countFeuds rfl rfl rfl hdV_X7_countFeuds ⟨Nat.le_of_ble_eq_true rfl, Nat.le_of_ble_eq_true rfl⟩) (ag_recv hT G (by decide) e_ag k_X7) rfl hl.1 rfl (Nat.le_of_ble_eq_true rfl) dX7_desk_118 ⟨Nat.le_of_ble_eq_true rfl, Nat.le_of_ble_eq_true rfl⟩) (fun r19 σ18 H locs h G => ?_)
                      (try dsimp only at h)
                      refine W.widen (k := 1) (n := 6) (by decide) (by decide) ?_
                      exact vx_ret (ag_iret hC hr hlocks G h dX7_desk_121)
                    · replace h := h.2 c20
                      rcases Decidable.em (a1 = 10) with c23 | c23
                      · replace h := h.1 c23
                        refine lv_tableIn (off := 121) (tgt := 122) hC.1 hC.2.1 dX7_desk_1 (by rw [c23]; decide) (by rw [c23]; decide) (by rw [c23]; rfl) (by decide) ?_
                        refine lv_aload_n hC.1 hC.2.1 dX7_desk_122 rfl (lv_at hl 0 rfl) ?_
                        refine ag_i G (ag_runV (As := []) (rest := []) hC hT G (c_X7_allEarned l D cy lay h _) (cwV 0 hC.2.2.2.2 gX7_desk_X7_allEarned rfl rfl rfl hdV_X7_allEarned ⟨Nat.le_of_ble_eq_true rfl, Nat.le_of_ble_eq_true rfl⟩) (ag_recv hT G (by decide) e_ag k_X7) rfl hl.1 rfl (Nat.le_of_ble_eq_true rfl) dX7_desk_123 ⟨Nat.le_of_ble_eq_true rfl, Nat.le_of_ble_eq_true rfl⟩) (fun r22 σ21 H locs h G => ?_)
                        (try dsimp only at h)
                        refine W.widen (k := 1) (n := 6) (by decide) (by decide) ?_
                        exact vx_ret (ag_iret hC hr hlocks G h dX7_desk_126)
                      · replace h := h.2 c23
                        rcases Decidable.em (a1 = 11) with c26 | c26
                        · replace h := h.1 c26
                          refine lv_tableIn (off := 126) (tgt := 127) hC.1 hC.2.1 dX7_desk_1 (by rw [c26]; decide) (by rw [c26]; decide) (by rw [c26]; rfl) (by decide) ?_
                          refine lv_aload_n hC.1 hC.2.1 dX7_desk_127 rfl (lv_at hl 0 rfl) ?_
                          refine ag_i G (ag_runV (As := []) (rest := []) hC hT G (c_X7_countDaysOff l D cy lay h _) (cwV 0 hC.2.2.2.2 gX7_desk_X7_countDaysOff rfl rfl rfl hdV_X7_countDaysOff ⟨Nat.le_of_ble_eq_true rfl, Nat.le_of_ble_eq_true rfl⟩) (ag_recv hT G (by decide) e_ag k_X7) rfl hl.1 rfl (Nat.le_of_ble_eq_true rfl) dX7_desk_128 ⟨Nat.le_of_ble_eq_true rfl, Nat.le_of_ble_eq_true rfl⟩) (fun r25 σ24 H locs h G => ?_)
                          (try dsimp only at h)
                          refine W.widen (k := 1) (n := 6) (by decide) (by decide) ?_
                          exact vx_ret (ag_iret hC hr hlocks G h dX7_desk_131)
                        · replace h := h.2 c26
                          rcases Decidable.em (a1 = 12) with c29 | c29
                          · replace h := h.1 c29
                            refine lv_tableIn (off := 131) (tgt := 132) hC.1 hC.2.1 dX7_desk_1 (by rw [c29]; decide) (by rw [c29]; decide) (by rw [c29]; rfl) (by decide) ?_
                            refine lv_aload_n hC.1 hC.2.1 dX7_desk_132 rfl (lv_at hl 0 rfl) ?_
                            refine ag_i G (ag_runV (As := []) (rest := []) hC hT G (c_X7_gapOfHours l D cy lay h _) (cwV 0 hC.2.2.2.2 gX7_desk_X7_gapOfHours rfl rfl rfl hdV_X7_gapOfHours ⟨Nat.le_of_ble_eq_true rfl, Nat.le_of_ble_eq_true rfl⟩) (ag_recv hT G (by decide) e_ag k_X7) rfl hl.1 rfl (Nat.le_of_ble_eq_true rfl) dX7_desk_133 ⟨Nat.le_of_ble_eq_true rfl, Nat.le_of_ble_eq_true rfl⟩) (fun r28 σ27 H locs h G => ?_)
                            (try dsimp only at h)
                            refine W.widen (k := 1) (n := 6) (by decide) (by decide) ?_
                            exact vx_ret (ag_iret hC hr hlocks G h dX7_desk_136)
                          · replace h := h.2 c29
                            refine lv_tableOut (tgt := 137) hC.1 hC.2.1 dX7_desk_1 (tsw_out 13 rfl (by decide) (fun k hk => by rcases (show k = 0 ∨ k = 1 ∨ k = 2 ∨ k = 3 ∨ k = 4 ∨ k = 5 ∨ k = 6 ∨ k = 7 ∨ k = 8 ∨ k = 9 ∨ k = 10 ∨ k = 11 ∨ k = 12 by omega) with rfl | rfl | rfl | rfl | rfl | rfl | rfl | rfl | rfl | rfl | rfl | rfl | rfl <;> assumption)) (by decide) ?_
                            exact ag_throwW (text := "nothing like that is on the desk") (names := ["java/lang/RuntimeException", "java/lang/Exception"]) hl0 hC hT G htab hlocks hl.1 (by decide) (by decide) (wm 1 rfl) (wm 2 rfl) (List.mem_of_getElem? (i := 25) rfl) (fun _ h => List.mem_cons_of_mem _ (List.mem_append_right _ h)) exIAE_all exIAE_good dX7_desk_137 dX7_desk_140 dX7_desk_141 dX7_desk_144 dX7_desk_147 (by decide) (Nat.le_of_ble_eq_true rfl) (Nat.le_of_ble_eq_true rfl) (Nat.le_of_ble_eq_true rfl) (by decide) (by decide) h
abbrev rm_T_X7_wouldLose : Room := { frames := 7, cells := 2, slots := 12, locals := 121 }
def w_T_X7_wouldLose (post : Int32 → MS → Prop) (pex : String → MS → Prop) (σ : MS) (a1 : Int32) (a2 : Int32) : Prop := w_T_X7_checkPlayer (fun σ1 => w_T_X7_checkDayToCome (fun σ2 => w_X7_stageWithout (fun r4 σ3 => post r4 σ3) σ2 a1 a2) pex σ1 a2) pex σ a1
set_option maxHeartbeats 4000000 in
set_option maxRecDepth 100000 in
theorem c_T_X7_wouldLose (l : Launch) (hl0 : l.stackTraces = false) (D : va_G) (cy : Nat → ClassId) (lay : Nat → Nat) {σ : MS} {post : Int32 → MS → Prop} {pex : String → MS → Prop} {a1 : Int32} {a2 : Int32} (h : w_T_X7_wouldLose post pex σ a1 a2) (sz : Nat) : vx_Met l yX7_wouldLose wsX7_wouldLose rm_T_X7_wouldLose (va_Pc [.ref (lay 0), .int a1, .int a2] (agI D cy lay σ sz)) (va_Qi post (agO D cy lay) (agA lay sz)) (agXC D cy lay pex sz) 2 12 (agA lay sz) := by
  refine ag_ofX (cc := cX7_wouldLose) (maxL := 3) (ret := some .int) (own := RX7) (Qc := fun sz => va_Qi post (agO D cy lay) (agA lay sz)) (by decide) rfl (Nat.le_of_ble_eq_true rfl) rfl ?_
  intro p e s m args below meth c ls hC hr hlocks htab hT G hl
  unfold w_T_X7_wouldLose at h
  have hl : lv_has ls 3 [(0, .ref (lay 0)), (1, .int a1), (2, .int a2)] := hl
  refine lv_aload_n hC.1 hC.2.1 dX7_wouldLose_0 rfl (lv_at hl 0 rfl) ?_
  refine lv_iload_n hC.1 hC.2.1 dX7_wouldLose_1 rfl (lv_at hl 1 rfl) ?_
  refine ag_vT G htab hlocks (ag_runVT (As := [.int a1]) (rest := []) hC hT G (c_T_X7_checkPlayer l hl0 D cy lay h _) (cwV 1 hC.2.2.2.2 gX7_wouldLose_X7_checkPlayer rfl rfl rfl hdV_X7_checkPlayer ⟨Nat.le_of_ble_eq_true rfl, Nat.le_of_ble_eq_true rfl⟩) (ag_recv hT G (by decide) e_ag k_X7) rfl hl.1 rfl (Nat.le_of_ble_eq_true rfl) dX7_wouldLose_2 ⟨Nat.le_of_ble_eq_true rfl, Nat.le_of_ble_eq_true rfl⟩) (by decide) (by decide) (fun σ1 H locs h G => ?_)
  (try dsimp only at h)
  refine lv_aload_n hC.1 hC.2.1 dX7_wouldLose_5 rfl (lv_at hl 0 rfl) ?_
  refine lv_iload_n hC.1 hC.2.1 dX7_wouldLose_6 rfl (lv_at hl 2 rfl) ?_
  refine ag_vT G htab hlocks (ag_runVT (As := [.int a2]) (rest := []) hC hT G (c_T_X7_checkDayToCome l hl0 D cy lay h _) (cwV 1 hC.2.2.2.2 gX7_wouldLose_X7_checkDayToCome rfl rfl rfl hdV_X7_checkDayToCome ⟨Nat.le_of_ble_eq_true rfl, Nat.le_of_ble_eq_true rfl⟩) (ag_recv hT G (by decide) e_ag k_X7) rfl hl.1 rfl (Nat.le_of_ble_eq_true rfl) dX7_wouldLose_7 ⟨Nat.le_of_ble_eq_true rfl, Nat.le_of_ble_eq_true rfl⟩) (by decide) (by decide) (fun σ2 H locs h G => ?_)
  (try dsimp only at h)
  refine lv_aload_n hC.1 hC.2.1 dX7_wouldLose_10 rfl (lv_at hl 0 rfl) ?_
  refine lv_iload_n hC.1 hC.2.1 dX7_wouldLose_11 rfl (lv_at hl 1 rfl) ?_
  refine lv_iload_n hC.1 hC.2.1 dX7_wouldLose_12 rfl (lv_at hl 2 rfl) ?_
  refine ag_i G (ag_runV (As := [.int a1, .int a2]) (rest := []) hC hT G (c_X7_stageWithout l D cy lay h _) (cwV 2 hC.2.2.2.2 gX7_wouldLose_X7_stageWithout rfl rfl rfl hdV_X7_stageWithout ⟨Nat.le_of_ble_eq_true rfl, Nat.le_of_ble_eq_true rfl⟩) (ag_recv hT G (by decide) e_ag k_X7) rfl hl.1 rfl (Nat.le_of_ble_eq_true rfl) dX7_wouldLose_13 ⟨Nat.le_of_ble_eq_true rfl, Nat.le_of_ble_eq_true rfl⟩) (fun r4 σ3 H locs h G => ?_)
  (try dsimp only at h)
  refine W.widen (k := 2) (n := 12) (by decide) (by decide) ?_
  exact vx_ret (ag_iret hC hr hlocks G h dX7_wouldLose_16)
theorem hdV_X7_wouldLose : yX7_wouldLose.cls = RX7 ∧ yX7_wouldLose.cls ≠ "java/lang/invoke/MethodHandle" ∧ yX7_wouldLose.cls ≠ "java/lang/invoke/VarHandle" ∧ (parseMethodDescriptor yX7_wouldLose.desc).map (fun d => d.parameters.length) = some 2 := by decide +kernel
abbrev rm_T_X7_plan : Room := { frames := 6, cells := 1, slots := 6, locals := 120 }
def u_T_X7_plan_11 (post : Int32 → MS → Prop) (pex : String → MS → Prop) (a1 : Int32) (a2 : Int32) (σ : MS) : Prop := pex "java/lang/IllegalArgumentException" σ
set_option maxHeartbeats 4000000 in
set_option maxRecDepth 100000 in
theorem l_T_X7_plan_11 {p : Program} {l : Launch} {e : Env} {s : State} {m : MethodId} {args : Array Value} {below : List Frame} {meth : Method} {c : Code} {D : va_G} {cy : Nat → ClassId} {lay : Nat → Nat} {post : Int32 → MS → Prop} {pex : String → MS → Prop} (a1 : Int32) (a2 : Int32) (hl0 : l.stackTraces = false) (hC : CallFix p m c cX7_plan 9 s args wsX7_plan RX7) (hr : meth.sig.returnType = some .int) (hlocks : meth.locks = false) (htab : ∀ x ∈ c.exceptionTable.toList, False) (hT : agT D cy lay s) : ∀ (σ : MS), u_T_X7_plan_11 post pex a1 a2 σ → ∀ (H : Heap) (locs : List Loc) (ls : Array Slot), agG D cy lay σ (agA lay s.heap.size) s.heap H locs → lv_has ls 9 [(0, .ref (lay 0)), (1, .int a1), (2, .int a2)] → W p l e rm_T_X7_plan s m args below meth c H locs 0 0 (vx_MQ below (va_Qi post (agO D cy lay) (agA lay s.heap.size)) (agXC D cy lay pex s.heap.size) args s 1 6 (agA lay s.heap.size)) (F0 m 11 ls []) := by
  intro σ h H locs ls G hl
  unfold u_T_X7_plan_11 at h
  exact ag_throwW (text := "not a day") (names := ["java/lang/RuntimeException", "java/lang/Exception"]) hl0 hC hT G htab hlocks hl.1 (by decide) (by decide) (wm 1 rfl) (wm 2 rfl) (List.mem_of_getElem? (i := 29) rfl) (fun _ h => List.mem_cons_of_mem _ (List.mem_append_right _ h)) exIAE_all exIAE_good dX7_plan_11 dX7_plan_14 dX7_plan_15 dX7_plan_18 dX7_plan_21 (by decide) (Nat.le_of_ble_eq_true rfl) (Nat.le_of_ble_eq_true rfl) (Nat.le_of_ble_eq_true rfl) (by decide) (by decide) h
def u_T_X7_plan_37 (post : Int32 → MS → Prop) (pex : String → MS → Prop) (a1 : Int32) (a2 : Int32) : Nat → MS → Int32 → Int32 → Int32 → Int32 → Prop
  | 0, _, _, _, _, _ => False
  | n + 1, σ, v3, v4, v5, v6 => w_J6_bitCount_0f7a4 (fun r6 σ5 => (((1 <<< (r6 &&& 31)) ≤ v6 → ((a2 = 0 → post v5 σ5) ∧ (¬ a2 = 0 → post v4 σ5))) ∧ (¬ (1 <<< (r6 &&& 31)) ≤ v6 → w_X7_membersAt (fun r10 σ9 => w_X7_stageAll (fun r12 σ11 => ((r12 ≤ v5 → u_T_X7_plan_37 post pex a1 a2 n σ11 v3 v4 v5 (v6 + 1)) ∧ (¬ r12 ≤ v5 → u_T_X7_plan_37 post pex a1 a2 n σ11 v3 r10 r12 (v6 + 1)))) σ9 r10) σ5 v3 v6))) σ v3
set_option maxHeartbeats 4000000 in
set_option maxRecDepth 100000 in
theorem l_T_X7_plan_37 {p : Program} {l : Launch} {e : Env} {s : State} {m : MethodId} {args : Array Value} {below : List Frame} {meth : Method} {c : Code} {D : va_G} {cy : Nat → ClassId} {lay : Nat → Nat} {post : Int32 → MS → Prop} {pex : String → MS → Prop} (a1 : Int32) (a2 : Int32) (hl0 : l.stackTraces = false) (hC : CallFix p m c cX7_plan 9 s args wsX7_plan RX7) (hr : meth.sig.returnType = some .int) (hlocks : meth.locks = false) (htab : ∀ x ∈ c.exceptionTable.toList, False) (hT : agT D cy lay s) : ∀ (n : Nat), ∀ (σ : MS) (v3 : Int32) (v4 : Int32) (v5 : Int32) (v6 : Int32), u_T_X7_plan_37 post pex a1 a2 n σ v3 v4 v5 v6 → ∀ (H : Heap) (locs : List Loc) (ls : Array Slot), agG D cy lay σ (agA lay s.heap.size) s.heap H locs → lv_has ls 9 [(0, .ref (lay 0)), (1, .int a1), (2, .int a2), (3, .int v3), (4, .int v4), (5, .int v5), (6, .int v6)] → W p l e rm_T_X7_plan s m args below meth c H locs 0 0 (vx_MQ below (va_Qi post (agO D cy lay) (agA lay s.heap.size)) (agXC D cy lay pex s.heap.size) args s 1 6 (agA lay s.heap.size)) (F0 m 37 ls []) := by
  intro n
  induction n with
  | zero =>
    intro σ v3 v4 v5 v6 h
    exact h.elim
  | succ n ih =>
    intro σ v3 v4 v5 v6 h H locs ls G hl
    rw [u_T_X7_plan_37] at h
    refine lv_iload hC.1 hC.2.1 dX7_plan_37 (lv_at hl 6 rfl) ?_
    refine lv_iconst (v := 1) hC.1 hC.2.1 dX7_plan_39 (by decide) ?_
    refine lv_iload_n hC.1 hC.2.1 dX7_plan_40 rfl (lv_at hl 3 rfl) ?_
    refine ag_i G (ag_runS (As := [.int v3]) (rest := [.int 1, .int v6]) hC hT G (c_J6_bitCount_0f7a4 l D cy lay h _) (va_cwS 1 hC.2.2.2.2 gX7_plan_J6_bitCount_0f7a4 rfl rfl rfl hdS_J6_bitCount_0f7a4 ⟨Nat.le_of_ble_eq_true rfl, Nat.le_of_ble_eq_true rfl⟩) rfl hl.1 rfl (Nat.le_of_ble_eq_true rfl) dX7_plan_41 ⟨Nat.le_of_ble_eq_true rfl, Nat.le_of_ble_eq_true rfl⟩) (fun r6 σ5 H locs h G => ?_)
    (try dsimp only at h)
    refine lv_ishl hC.1 hC.2.1 dX7_plan_44 ?_
    refine lv_icmp_ge (tgt := 85) hC.1 hC.2.1 dX7_plan_45 (by decide) (fun c7 => ?_) (fun c7 => ?_)
    · replace h := h.1 c7
      refine lv_iload_n hC.1 hC.2.1 dX7_plan_85 rfl (lv_at hl 2 rfl) ?_
      refine lv_if_eq (tgt := 94) hC.1 hC.2.1 dX7_plan_86 (by decide) (fun c8 => ?_) (fun c8 => ?_)
      · replace h := h.1 c8
        refine lv_iload hC.1 hC.2.1 dX7_plan_94 (lv_at hl 5 rfl) ?_
        refine W.widen (k := 1) (n := 6) (by decide) (by decide) ?_
        exact vx_ret (ag_iret hC hr hlocks G h dX7_plan_96)
      · replace h := h.2 c8
        refine lv_iload hC.1 hC.2.1 dX7_plan_89 (lv_at hl 4 rfl) ?_
        refine lv_goto (tgt := 96) hC.1 hC.2.1 dX7_plan_91 (by decide) ?_
        refine W.widen (k := 1) (n := 6) (by decide) (by decide) ?_
        exact vx_ret (ag_iret hC hr hlocks G h dX7_plan_96)
    · replace h := h.2 c7
      refine lv_iload_n hC.1 hC.2.1 dX7_plan_48 rfl (lv_at hl 3 rfl) ?_
      refine lv_iload hC.1 hC.2.1 dX7_plan_49 (lv_at hl 6 rfl) ?_
      refine ag_i G (ag_runS (As := [.int v3, .int v6]) (rest := []) hC hT G (c_X7_membersAt l D cy lay h _) (va_cwS 2 hC.2.2.2.2 gX7_plan_X7_membersAt rfl rfl rfl hdS_X7_membersAt ⟨Nat.le_of_ble_eq_true rfl, Nat.le_of_ble_eq_true rfl⟩) rfl hl.1 rfl (Nat.le_of_ble_eq_true rfl) dX7_plan_51 ⟨Nat.le_of_ble_eq_true rfl, Nat.le_of_ble_eq_true rfl⟩) (fun r10 σ9 H locs h G => ?_)
      (try dsimp only at h)
      refine lv_istore (lv' := [(7, .int r10), (0, .ref (lay 0)), (1, .int a1), (2, .int a2), (3, .int v3), (4, .int v4), (5, .int v5), (6, .int v6)]) hC.1 hC.2.1 dX7_plan_54 hl (by decide) rfl (fun ls hl => ?_)
      refine lv_aload_n hC.1 hC.2.1 dX7_plan_56 rfl (lv_at hl 1 rfl) ?_
      refine lv_iload hC.1 hC.2.1 dX7_plan_57 (lv_at hl 0 rfl) ?_
      refine ag_i G (ag_runV (As := [.int r10]) (rest := []) hC hT G (c_X7_stageAll l D cy lay h _) (cwV 1 hC.2.2.2.2 gX7_plan_X7_stageAll rfl rfl rfl hdV_X7_stageAll ⟨Nat.le_of_ble_eq_true rfl, Nat.le_of_ble_eq_true rfl⟩) (ag_recv hT G (by decide) e_ag k_X7) rfl hl.1 rfl (Nat.le_of_ble_eq_true rfl) dX7_plan_59 ⟨Nat.le_of_ble_eq_true rfl, Nat.le_of_ble_eq_true rfl⟩) (fun r12 σ11 H locs h G => ?_)
      (try dsimp only at h)
      refine lv_istore (lv' := [(8, .int r12), (7, .int r10), (0, .ref (lay 0)), (1, .int a1), (2, .int a2), (3, .int v3), (4, .int v4), (5, .int v5), (6, .int v6)]) hC.1 hC.2.1 dX7_plan_62 hl (by decide) rfl (fun ls hl => ?_)
      refine lv_iload hC.1 hC.2.1 dX7_plan_64 (lv_at hl 0 rfl) ?_
      refine lv_iload hC.1 hC.2.1 dX7_plan_66 (lv_at hl 7 rfl) ?_
      refine lv_icmp_le (tgt := 79) hC.1 hC.2.1 dX7_plan_68 (by decide) (fun c13 => ?_) (fun c13 => ?_)
      · replace h := h.1 c13
        refine lv_iinc (v := v6 + 1) (lv' := [(6, .int (v6 + 1)), (8, .int r12), (7, .int r10), (0, .ref (lay 0)), (1, .int a1), (2, .int a2), (3, .int v3), (4, .int v4), (5, .int v5)]) hC.1 hC.2.1 dX7_plan_79 hl (k := 8) rfl rfl (by decide) rfl (fun ls hl => ?_)
        refine lv_goto (tgt := 37) hC.1 hC.2.1 dX7_plan_82 (by decide) ?_
        exact ih _ _ _ _ _ h _ _ _ G (lv_sub hl [3, 4, 5, 6, 7, 8, 0] rfl)
      · replace h := h.2 c13
        refine lv_iload hC.1 hC.2.1 dX7_plan_71 (lv_at hl 0 rfl) ?_
        refine lv_istore (lv' := [(5, .int r12), (8, .int r12), (7, .int r10), (0, .ref (lay 0)), (1, .int a1), (2, .int a2), (3, .int v3), (4, .int v4), (6, .int v6)]) hC.1 hC.2.1 dX7_plan_73 hl (by decide) rfl (fun ls hl => ?_)
        refine lv_iload hC.1 hC.2.1 dX7_plan_75 (lv_at hl 2 rfl) ?_
        refine lv_istore (lv' := [(4, .int r10), (5, .int r12), (8, .int r12), (7, .int r10), (0, .ref (lay 0)), (1, .int a1), (2, .int a2), (3, .int v3), (6, .int v6)]) hC.1 hC.2.1 dX7_plan_77 hl (by decide) rfl (fun ls hl => ?_)
        refine lv_iinc (v := v6 + 1) (lv' := [(6, .int (v6 + 1)), (4, .int r10), (5, .int r12), (8, .int r12), (7, .int r10), (0, .ref (lay 0)), (1, .int a1), (2, .int a2), (3, .int v3)]) hC.1 hC.2.1 dX7_plan_79 hl (k := 8) rfl rfl (by decide) rfl (fun ls hl => ?_)
        refine lv_goto (tgt := 37) hC.1 hC.2.1 dX7_plan_82 (by decide) ?_
        exact ih _ _ _ _ _ h _ _ _ G (lv_sub hl [5, 6, 7, 8, 1, 2, 0] rfl)
def w_T_X7_plan (post : Int32 → MS → Prop) (pex : String → MS → Prop) (σ : MS) (a1 : Int32) (a2 : Int32) : Prop := ((a1 < 0 → u_T_X7_plan_11 post pex a1 a2 σ) ∧ (¬ a1 < 0 → ((a1 ≤ 365 → w_X7_firstOnesOf (fun r4 σ3 => (∃ k, u_T_X7_plan_37 post pex a1 a2 k σ3 r4 0 0 1)) σ a1) ∧ (¬ a1 ≤ 365 → u_T_X7_plan_11 post pex a1 a2 σ))))
set_option maxHeartbeats 4000000 in
set_option maxRecDepth 100000 in
theorem c_T_X7_plan (l : Launch) (hl0 : l.stackTraces = false) (D : va_G) (cy : Nat → ClassId) (lay : Nat → Nat) {σ : MS} {post : Int32 → MS → Prop} {pex : String → MS → Prop} {a1 : Int32} {a2 : Int32} (h : w_T_X7_plan post pex σ a1 a2) (sz : Nat) : vx_Met l yX7_plan wsX7_plan rm_T_X7_plan (va_Pc [.ref (lay 0), .int a1, .int a2] (agI D cy lay σ sz)) (va_Qi post (agO D cy lay) (agA lay sz)) (agXC D cy lay pex sz) 1 6 (agA lay sz) := by
  refine ag_ofX (cc := cX7_plan) (maxL := 9) (ret := some .int) (own := RX7) (Qc := fun sz => va_Qi post (agO D cy lay) (agA lay sz)) (by decide) rfl (Nat.le_of_ble_eq_true rfl) rfl ?_
  intro p e s m args below meth c ls hC hr hlocks htab hT G hl
  unfold w_T_X7_plan at h
  have hl : lv_has ls 9 [(0, .ref (lay 0)), (1, .int a1), (2, .int a2)] := hl
  refine lv_iload_n hC.1 hC.2.1 dX7_plan_0 rfl (lv_at hl 1 rfl) ?_
  refine lv_if_lt (tgt := 11) hC.1 hC.2.1 dX7_plan_1 (by decide) (fun c1 => ?_) (fun c1 => ?_)
  · replace h := h.1 c1
    exact l_T_X7_plan_11 a1 a2 hl0 hC hr hlocks htab hT _ h _ _ _ G (lv_sub hl [0, 1, 2] rfl)
  · replace h := h.2 c1
    refine lv_iload_n hC.1 hC.2.1 dX7_plan_4 rfl (lv_at hl 1 rfl) ?_
    refine lv_sipush (v := 365) hC.1 hC.2.1 dX7_plan_5 (by decide) ?_
    refine lv_icmp_le (tgt := 22) hC.1 hC.2.1 dX7_plan_8 (by decide) (fun c2 => ?_) (fun c2 => ?_)
    · replace h := h.1 c2
      refine lv_aload_n hC.1 hC.2.1 dX7_plan_22 rfl (lv_at hl 0 rfl) ?_
      refine lv_iload_n hC.1 hC.2.1 dX7_plan_23 rfl (lv_at hl 1 rfl) ?_
      refine ag_i G (ag_runV (As := [.int a1]) (rest := []) hC hT G (c_X7_firstOnesOf l D cy lay h _) (cwV 1 hC.2.2.2.2 gX7_plan_X7_firstOnesOf rfl rfl rfl hdV_X7_firstOnesOf ⟨Nat.le_of_ble_eq_true rfl, Nat.le_of_ble_eq_true rfl⟩) (ag_recv hT G (by decide) e_ag k_X7) rfl hl.1 rfl (Nat.le_of_ble_eq_true rfl) dX7_plan_24 ⟨Nat.le_of_ble_eq_true rfl, Nat.le_of_ble_eq_true rfl⟩) (fun r4 σ3 H locs h G => ?_)
      (try dsimp only at h)
      refine lv_istore_n (lv' := [(3, .int r4), (0, .ref (lay 0)), (1, .int a1), (2, .int a2)]) hC.1 hC.2.1 dX7_plan_27 rfl hl (by decide) rfl (fun ls hl => ?_)
      refine lv_iconst (v := 0) hC.1 hC.2.1 dX7_plan_28 (by decide) ?_
      refine lv_istore (lv' := [(4, .int 0), (3, .int r4), (0, .ref (lay 0)), (1, .int a1), (2, .int a2)]) hC.1 hC.2.1 dX7_plan_29 hl (by decide) rfl (fun ls hl => ?_)
      refine lv_iconst (v := 0) hC.1 hC.2.1 dX7_plan_31 (by decide) ?_
      refine lv_istore (lv' := [(5, .int 0), (4, .int 0), (3, .int r4), (0, .ref (lay 0)), (1, .int a1), (2, .int a2)]) hC.1 hC.2.1 dX7_plan_32 hl (by decide) rfl (fun ls hl => ?_)
      refine lv_iconst (v := 1) hC.1 hC.2.1 dX7_plan_34 (by decide) ?_
      refine lv_istore (lv' := [(6, .int 1), (5, .int 0), (4, .int 0), (3, .int r4), (0, .ref (lay 0)), (1, .int a1), (2, .int a2)]) hC.1 hC.2.1 dX7_plan_35 hl (by decide) rfl (fun ls hl => ?_)
      obtain ⟨n1, h⟩ := h
      exact l_T_X7_plan_37 a1 a2 hl0 hC hr hlocks htab hT n1 _ _ _ _ _ h _ _ _ G (lv_sub hl [4, 5, 6, 3, 2, 1, 0] rfl)
    · replace h := h.2 c2
      exact l_T_X7_plan_11 a1 a2 hl0 hC hr hlocks htab hT _ h _ _ _ G (lv_sub hl [0, 1, 2] rfl)
theorem hdV_X7_plan : yX7_plan.cls = RX7 ∧ yX7_plan.cls ≠ "java/lang/invoke/MethodHandle" ∧ yX7_plan.cls ≠ "java/lang/invoke/VarHandle" ∧ (parseMethodDescriptor yX7_plan.desc).map (fun d => d.parameters.length) = some 2 := by decide +kernel
abbrev rm_T_X7_wouldCancel : Room := { frames := 7, cells := 2, slots := 12, locals := 103 }
theorem i_T_X7_wouldCancel_X7 : ∀ w ∈ wsX70, w ∈ wsX7_wouldCancel := fun _ h => List.mem_cons_of_mem _ (List.mem_append_left _ (List.mem_append_left _ (List.mem_append_left _ (List.mem_append_left _ (List.mem_append_left _ (List.mem_append_right _ h))))))
theorem i_T_X7_wouldCancel_X6 : ∀ w ∈ wsX60, w ∈ wsX7_wouldCancel := fun _ h => List.mem_cons_of_mem _ (List.mem_append_left _ (List.mem_append_left _ (List.mem_append_left _ (List.mem_append_left _ (List.mem_append_right _ h)))))
def w_T_X7_wouldCancel (post : Int32 → MS → Prop) (pex : String → MS → Prop) (σ : MS) (a1 : Int32) : Prop := w_T_X7_checkWedding (fun σ1 => (vp_in a1 14 ∧ (((σ1 (73 + (Int32.toNatClampNeg a1)) 7) = 1 → w_X7_owedFor (fun r5 σ4 => w_X7_extraOf (fun r7 σ6 => w_X7_allWagesAt (fun r9 σ8 => (∀ y10 : Int32, y10 = (if 0 < (r5 - (σ4 (73 + (Int32.toNatClampNeg a1)) 11)) then (r5 - (σ4 (73 + (Int32.toNatClampNeg a1)) 11)) else 0) - ((((σ4 (73 + (Int32.toNatClampNeg a1)) 9) - (σ4 (73 + (Int32.toNatClampNeg a1)) 11)) + r7) - r9) → post y10 σ8)) σ6 (Int32.toNatClampNeg a1)) σ4 (Int32.toNatClampNeg a1)) σ1 (Int32.toNatClampNeg a1)) ∧ (¬ (σ1 (73 + (Int32.toNatClampNeg a1)) 7) = 1 → pex "java/lang/IllegalStateException" σ1)))) pex σ a1
set_option maxHeartbeats 4000000 in
set_option maxRecDepth 100000 in
theorem c_T_X7_wouldCancel (l : Launch) (hl0 : l.stackTraces = false) (D : va_G) (cy : Nat → ClassId) (lay : Nat → Nat) {σ : MS} {post : Int32 → MS → Prop} {pex : String → MS → Prop} {a1 : Int32} (h : w_T_X7_wouldCancel post pex σ a1) (sz : Nat) : vx_Met l yX7_wouldCancel wsX7_wouldCancel rm_T_X7_wouldCancel (va_Pc [.ref (lay 0), .int a1] (agI D cy lay σ sz)) (va_Qi post (agO D cy lay) (agA lay sz)) (agXC D cy lay pex sz) 2 12 (agA lay sz) := by
  refine ag_ofX (cc := cX7_wouldCancel) (maxL := 5) (ret := some .int) (own := RX7) (Qc := fun sz => va_Qi post (agO D cy lay) (agA lay sz)) (by decide) rfl (Nat.le_of_ble_eq_true rfl) rfl ?_
  intro p e s m args below meth c ls hC hr hlocks htab hT G hl
  unfold w_T_X7_wouldCancel at h
  have hl : lv_has ls 5 [(0, .ref (lay 0)), (1, .int a1)] := hl
  refine lv_aload_n hC.1 hC.2.1 dX7_wouldCancel_0 rfl (lv_at hl 0 rfl) ?_
  refine lv_iload_n hC.1 hC.2.1 dX7_wouldCancel_1 rfl (lv_at hl 1 rfl) ?_
  refine ag_vT G htab hlocks (ag_runVT (As := [.int a1]) (rest := []) hC hT G (c_T_X7_checkWedding l hl0 D cy lay h _) (cwV 1 hC.2.2.2.2 gX7_wouldCancel_X7_checkWedding rfl rfl rfl hdV_X7_checkWedding ⟨Nat.le_of_ble_eq_true rfl, Nat.le_of_ble_eq_true rfl⟩) (ag_recv hT G (by decide) e_ag k_X7) rfl hl.1 rfl (Nat.le_of_ble_eq_true rfl) dX7_wouldCancel_2 ⟨Nat.le_of_ble_eq_true rfl, Nat.le_of_ble_eq_true rfl⟩) (by decide) (by decide) (fun σ1 H locs h G => ?_)
  (try dsimp only at h)
  refine lv_aload_n hC.1 hC.2.1 dX7_wouldCancel_5 rfl (lv_at hl 0 rfl) ?_
  refine ag_get hC hT G (by decide) e_ag k_X7 i_T_X7_wouldCancel_X7 3 (by decide) (wm 3 rfl) rfl dX7_wouldCancel_6 ?_
  refine lv_iload_n hC.1 hC.2.1 dX7_wouldCancel_9 rfl (lv_at hl 1 rfl) ?_
  obtain ⟨hn2, h⟩ := h
  refine ag_aald hC hT G (by decide) _ rfl e_wds hn2 dX7_wouldCancel_10 ?_
  refine lv_astore_n (lv' := [(2, .ref (lay (73 + (Int32.toNatClampNeg a1)))), (0, .ref (lay 0)), (1, .int a1)]) hC.1 hC.2.1 dX7_wouldCancel_11 rfl hl (by decide) rfl (fun ls hl => ?_)
  refine lv_aload_n hC.1 hC.2.1 dX7_wouldCancel_12 rfl (lv_at hl 0 rfl) ?_
  refine ag_get hC hT G (k_wd (vlt hn2)) (e_wd (vlt hn2)) k_X6 i_T_X7_wouldCancel_X6 7 (by decide) (wm 4 rfl) rfl dX7_wouldCancel_13 ?_
  refine lv_iconst (v := 1) hC.1 hC.2.1 dX7_wouldCancel_16 (by decide) ?_
  refine lv_icmp_eq (tgt := 31) hC.1 hC.2.1 dX7_wouldCancel_17 (by decide) (fun c3 => ?_) (fun c3 => ?_)
  · replace h := h.1 c3
    refine lv_iconst (v := 0) hC.1 hC.2.1 dX7_wouldCancel_31 (by decide) ?_
    refine lv_aload_n hC.1 hC.2.1 dX7_wouldCancel_32 rfl (lv_at hl 1 rfl) ?_
    refine lv_aload_n hC.1 hC.2.1 dX7_wouldCancel_33 rfl (lv_at hl 0 rfl) ?_
    refine ag_i G (ag_runV (As := [.ref (lay (73 + (Int32.toNatClampNeg a1)))]) (rest := [.int 0]) hC hT G (c_X7_owedFor l D cy lay h (vlt hn2) _) (cwV 1 hC.2.2.2.2 gX7_wouldCancel_X7_owedFor rfl rfl rfl hdV_X7_owedFor ⟨Nat.le_of_ble_eq_true rfl, Nat.le_of_ble_eq_true rfl⟩) (ag_recv hT G (by decide) e_ag k_X7) rfl hl.1 rfl (Nat.le_of_ble_eq_true rfl) dX7_wouldCancel_34 ⟨Nat.le_of_ble_eq_true rfl, Nat.le_of_ble_eq_true rfl⟩) (fun r5 σ4 H locs h G => ?_)
    (try dsimp only at h)
    refine lv_aload_n hC.1 hC.2.1 dX7_wouldCancel_37 rfl (lv_at hl 0 rfl) ?_
    refine ag_get hC hT G (k_wd (vlt hn2)) (e_wd (vlt hn2)) k_X6 i_T_X7_wouldCancel_X6 11 (by decide) (wm 5 rfl) rfl dX7_wouldCancel_38 ?_
    refine lv_isub hC.1 hC.2.1 dX7_wouldCancel_41 ?_
    refine va_mmax hC.1 hC.2.1 (hC.2.2.1.trans hl.1.symm) hC.2.2.2.1 (hC.2.2.2.2 _ (wm 6 rfl)) (hC.2.2.2.2 _ (wm 7 rfl)) (hC.2.2.2.2 _ (wm 8 rfl)) (hC.2.2.2.2 _ (wm 9 rfl)) (Nat.le_of_ble_eq_true rfl) (Nat.le_of_ble_eq_true rfl) (Nat.le_of_ble_eq_true rfl) (Nat.le_of_ble_eq_true rfl) dX7_wouldCancel_42 ?_
    refine lv_istore_n (lv' := [(3, .int (if 0 < (r5 - (σ4 (73 + (Int32.toNatClampNeg a1)) 11)) then (r5 - (σ4 (73 + (Int32.toNatClampNeg a1)) 11)) else 0)), (2, .ref (lay (73 + (Int32.toNatClampNeg a1)))), (0, .ref (lay 0)), (1, .int a1)]) hC.1 hC.2.1 dX7_wouldCancel_45 rfl hl (by decide) rfl (fun ls hl => ?_)
    refine lv_aload_n hC.1 hC.2.1 dX7_wouldCancel_46 rfl (lv_at hl 1 rfl) ?_
    refine ag_get hC hT G (k_wd (vlt hn2)) (e_wd (vlt hn2)) k_X6 i_T_X7_wouldCancel_X6 9 (by decide) (wm 10 rfl) rfl dX7_wouldCancel_47 ?_
    refine lv_aload_n hC.1 hC.2.1 dX7_wouldCancel_50 rfl (lv_at hl 1 rfl) ?_
    refine ag_get hC hT G (k_wd (vlt hn2)) (e_wd (vlt hn2)) k_X6 i_T_X7_wouldCancel_X6 11 (by decide) (wm 5 rfl) rfl dX7_wouldCancel_51 ?_
    refine lv_isub hC.1 hC.2.1 dX7_wouldCancel_54 ?_
    refine lv_aload_n hC.1 hC.2.1 dX7_wouldCancel_55 rfl (lv_at hl 2 rfl) ?_
    refine lv_aload_n hC.1 hC.2.1 dX7_wouldCancel_56 rfl (lv_at hl 1 rfl) ?_
    refine ag_i G (ag_runV (As := [.ref (lay (73 + (Int32.toNatClampNeg a1)))]) (rest := [.int ((σ4 (73 + (Int32.toNatClampNeg a1)) 9) - (σ4 (73 + (Int32.toNatClampNeg a1)) 11))]) hC hT G (c_X7_extraOf l D cy lay h (vlt hn2) _) (cwV 1 hC.2.2.2.2 gX7_wouldCancel_X7_extraOf rfl rfl rfl hdV_X7_extraOf ⟨Nat.le_of_ble_eq_true rfl, Nat.le_of_ble_eq_true rfl⟩) (ag_recv hT G (by decide) e_ag k_X7) rfl hl.1 rfl (Nat.le_of_ble_eq_true rfl) dX7_wouldCancel_57 ⟨Nat.le_of_ble_eq_true rfl, Nat.le_of_ble_eq_true rfl⟩) (fun r7 σ6 H locs h G => ?_)
    (try dsimp only at h)
    refine lv_iadd hC.1 hC.2.1 dX7_wouldCancel_60 ?_
    refine lv_aload_n hC.1 hC.2.1 dX7_wouldCancel_61 rfl (lv_at hl 2 rfl) ?_
    refine lv_aload_n hC.1 hC.2.1 dX7_wouldCancel_62 rfl (lv_at hl 1 rfl) ?_
    refine ag_i G (ag_runV (As := [.ref (lay (73 + (Int32.toNatClampNeg a1)))]) (rest := [.int (((σ4 (73 + (Int32.toNatClampNeg a1)) 9) - (σ4 (73 + (Int32.toNatClampNeg a1)) 11)) + r7)]) hC hT G (c_X7_allWagesAt l D cy lay h (vlt hn2) _) (cwV 1 hC.2.2.2.2 gX7_wouldCancel_X7_allWagesAt rfl rfl rfl hdV_X7_allWagesAt ⟨Nat.le_of_ble_eq_true rfl, Nat.le_of_ble_eq_true rfl⟩) (ag_recv hT G (by decide) e_ag k_X7) rfl hl.1 rfl (Nat.le_of_ble_eq_true rfl) dX7_wouldCancel_63 ⟨Nat.le_of_ble_eq_true rfl, Nat.le_of_ble_eq_true rfl⟩) (fun r9 σ8 H locs h G => ?_)
    (try dsimp only at h)
    refine lv_isub hC.1 hC.2.1 dX7_wouldCancel_66 ?_
    refine lv_istore (lv' := [(4, .int ((((σ4 (73 + (Int32.toNatClampNeg a1)) 9) - (σ4 (73 + (Int32.toNatClampNeg a1)) 11)) + r7) - r9)), (3, .int (if 0 < (r5 - (σ4 (73 + (Int32.toNatClampNeg a1)) 11)) then (r5 - (σ4 (73 + (Int32.toNatClampNeg a1)) 11)) else 0)), (2, .ref (lay (73 + (Int32.toNatClampNeg a1)))), (0, .ref (lay 0)), (1, .int a1)]) hC.1 hC.2.1 dX7_wouldCancel_67 hl (by decide) rfl (fun ls hl => ?_)
    refine lv_iload_n hC.1 hC.2.1 dX7_wouldCancel_69 rfl (lv_at hl 1 rfl) ?_
    refine lv_iload hC.1 hC.2.1 dX7_wouldCancel_70 (lv_at hl 0 rfl) ?_
    refine lv_isub hC.1 hC.2.1 dX7_wouldCancel_72 ?_
    refine lv_topi (fun y10 ey10 => ?_)
    replace h := h y10 ey10
    refine W.widen (k := 2) (n := 12) (by decide) (by decide) ?_
    exact vx_ret (ag_iret hC hr hlocks G h dX7_wouldCancel_73)
  · replace h := h.2 c3
    exact ag_throwW (text := "it is not fixed") (names := ["java/lang/RuntimeException", "java/lang/Exception"]) hl0 hC hT G htab hlocks hl.1 (by decide) (by decide) (wm 1 rfl) (wm 2 rfl) (List.mem_of_getElem? (i := 15) rfl) (fun _ h => List.mem_cons_of_mem _ (List.mem_append_left _ (List.mem_append_right _ h))) exISE_all exISE_good dX7_wouldCancel_20 dX7_wouldCancel_23 dX7_wouldCancel_24 dX7_wouldCancel_27 dX7_wouldCancel_30 (by decide) (Nat.le_of_ble_eq_true rfl) (Nat.le_of_ble_eq_true rfl) (Nat.le_of_ble_eq_true rfl) (by decide) (by decide) h
theorem hdV_X7_wouldCancel : yX7_wouldCancel.cls = RX7 ∧ yX7_wouldCancel.cls ≠ "java/lang/invoke/MethodHandle" ∧ yX7_wouldCancel.cls ≠ "java/lang/invoke/VarHandle" ∧ (parseMethodDescriptor yX7_wouldCancel.desc).map (fun d => d.parameters.length) = some 1 := by decide +kernel
abbrev rm_T_X7_key : Room := { frames := 7, cells := 1, slots := 6, locals := 118 }
theorem i_T_X7_key_X7 : ∀ w ∈ wsX70, w ∈ wsX7_key := fun _ h => List.mem_cons_of_mem _ (List.mem_append_left _ (List.mem_append_left _ (List.mem_append_left _ (List.mem_append_left _ (List.mem_append_left _ (List.mem_append_left _ (List.mem_append_right _ h)))))))
theorem i_T_X7_key_X2 : ∀ w ∈ wsX20, w ∈ wsX7_key := fun _ h => List.mem_cons_of_mem _ (List.mem_append_left _ (List.mem_append_left _ (List.mem_append_left _ (List.mem_append_left _ (List.mem_append_left _ (List.mem_append_right _ h))))))
def u_T_X7_key_24 (post : Int32 → MS → Prop) (pex : String → MS → Prop) (a1 : Int32) : Nat → MS → Int32 → Prop
  | 0, _, _ => False
  | n + 1, σ, v2 => (((σ 0 6) ≤ v2 → post (-1) σ) ∧ (¬ (σ 0 6) ≤ v2 → w_X7_has (fun r6 σ5 => ((r6 = 0 → u_T_X7_key_24 post pex a1 n σ5 (v2 + 1)) ∧ (¬ r6 = 0 → post v2 σ5))) σ (σ 9 4) v2))
set_option maxHeartbeats 4000000 in
set_option maxRecDepth 100000 in
theorem l_T_X7_key_24 {p : Program} {l : Launch} {e : Env} {s : State} {m : MethodId} {args : Array Value} {below : List Frame} {meth : Method} {c : Code} {D : va_G} {cy : Nat → ClassId} {lay : Nat → Nat} {post : Int32 → MS → Prop} {pex : String → MS → Prop} (a1 : Int32) (hl0 : l.stackTraces = false) (hC : CallFix p m c cX7_key 3 s args wsX7_key RX7) (hr : meth.sig.returnType = some .int) (hlocks : meth.locks = false) (htab : ∀ x ∈ c.exceptionTable.toList, False) (hT : agT D cy lay s) : ∀ (n : Nat), ∀ (σ : MS) (v2 : Int32), u_T_X7_key_24 post pex a1 n σ v2 → ∀ (H : Heap) (locs : List Loc) (ls : Array Slot), agG D cy lay σ (agA lay s.heap.size) s.heap H locs → lv_has ls 3 [(0, .ref (lay 0)), (1, .int a1), (2, .int v2)] → W p l e rm_T_X7_key s m args below meth c H locs 1 6 (vx_MQ below (va_Qi post (agO D cy lay) (agA lay s.heap.size)) (agXC D cy lay pex s.heap.size) args s 1 6 (agA lay s.heap.size)) (F0 m 24 ls []) := by
  intro n
  induction n with
  | zero =>
    intro σ v2 h
    exact h.elim
  | succ n ih =>
    intro σ v2 h H locs ls G hl
    rw [u_T_X7_key_24] at h
    refine lv_iload_n hC.1 hC.2.1 dX7_key_24 rfl (lv_at hl 2 rfl) ?_
    refine lv_aload_n hC.1 hC.2.1 dX7_key_25 rfl (lv_at hl 0 rfl) ?_
    refine ag_get hC hT G (by decide) e_ag k_X7 i_T_X7_key_X7 6 (by decide) (wm 3 rfl) rfl dX7_key_26 ?_
    refine lv_icmp_ge (tgt := 54) hC.1 hC.2.1 dX7_key_29 (by decide) (fun c4 => ?_) (fun c4 => ?_)
    · replace h := h.1 c4
      refine lv_iconst (v := (-1)) hC.1 hC.2.1 dX7_key_54 (by decide) ?_
      refine W.widen (k := 1) (n := 6) (by decide) (by decide) ?_
      exact vx_ret (ag_iret hC hr hlocks G h dX7_key_55)
    · replace h := h.2 c4
      refine lv_aload_n hC.1 hC.2.1 dX7_key_32 rfl (lv_at hl 0 rfl) ?_
      refine ag_get hC hT G (by decide) e_ag k_X7 i_T_X7_key_X7 13 (by decide) (wm 1 rfl) rfl dX7_key_33 ?_
      refine ag_get hC hT G (by decide) e_fd k_X2 i_T_X7_key_X2 4 (by decide) (wm 4 rfl) rfl dX7_key_36 ?_
      refine lv_iload_n hC.1 hC.2.1 dX7_key_39 rfl (lv_at hl 2 rfl) ?_
      refine ag_i G (ag_runS (As := [.int (σ 9 4), .int v2]) (rest := []) hC hT G (c_X7_has l D cy lay h _) (va_cwS 2 hC.2.2.2.2 gX7_key_X7_has rfl rfl rfl hdS_X7_has ⟨Nat.le_of_ble_eq_true rfl, Nat.le_of_ble_eq_true rfl⟩) rfl hl.1 rfl (Nat.le_of_ble_eq_true rfl) dX7_key_40 ⟨Nat.le_of_ble_eq_true rfl, Nat.le_of_ble_eq_true rfl⟩) (fun r6 σ5 H locs h G => ?_)
      (try dsimp only at h)
      refine lv_if_eq (tgt := 48) hC.1 hC.2.1 dX7_key_43 (by decide) (fun c7 => ?_) (fun c7 => ?_)
      · replace h := h.1 c7
        refine lv_iinc (v := v2 + 1) (lv' := [(2, .int (v2 + 1)), (0, .ref (lay 0)), (1, .int a1)]) hC.1 hC.2.1 dX7_key_48 hl (k := 2) rfl rfl (by decide) rfl (fun ls hl => ?_)
        refine lv_goto (tgt := 24) hC.1 hC.2.1 dX7_key_51 (by decide) ?_
        exact ih _ _ h _ _ _ G (lv_sub hl [1, 2, 0] rfl)
      · replace h := h.2 c7
        refine lv_iload_n hC.1 hC.2.1 dX7_key_46 rfl (lv_at hl 2 rfl) ?_
        refine W.widen (k := 1) (n := 6) (by decide) (by decide) ?_
        exact vx_ret (ag_iret hC hr hlocks G h dX7_key_47)
def w_T_X7_key (post : Int32 → MS → Prop) (pex : String → MS → Prop) (σ : MS) (a1 : Int32) : Prop := w_T_X7_checkWedding (fun σ1 => w_X7_surveyNow (fun σ2 => (((σ2 9 3) = 0 → post (-1) σ2) ∧ (¬ (σ2 9 3) = 0 → (∃ k, u_T_X7_key_24 post pex a1 k σ2 0)))) σ1 a1) pex σ a1
set_option maxHeartbeats 4000000 in
set_option maxRecDepth 100000 in
theorem c_T_X7_key (l : Launch) (hl0 : l.stackTraces = false) (D : va_G) (cy : Nat → ClassId) (lay : Nat → Nat) {σ : MS} {post : Int32 → MS → Prop} {pex : String → MS → Prop} {a1 : Int32} (h : w_T_X7_key post pex σ a1) (sz : Nat) : vx_Met l yX7_key wsX7_key rm_T_X7_key (va_Pc [.ref (lay 0), .int a1] (agI D cy lay σ sz)) (va_Qi post (agO D cy lay) (agA lay sz)) (agXC D cy lay pex sz) 1 6 (agA lay sz) := by
  refine ag_ofX (cc := cX7_key) (maxL := 3) (ret := some .int) (own := RX7) (Qc := fun sz => va_Qi post (agO D cy lay) (agA lay sz)) (by decide) rfl (Nat.le_of_ble_eq_true rfl) rfl ?_
  intro p e s m args below meth c ls hC hr hlocks htab hT G hl
  unfold w_T_X7_key at h
  have hl : lv_has ls 3 [(0, .ref (lay 0)), (1, .int a1)] := hl
  refine lv_aload_n hC.1 hC.2.1 dX7_key_0 rfl (lv_at hl 0 rfl) ?_
  refine lv_iload_n hC.1 hC.2.1 dX7_key_1 rfl (lv_at hl 1 rfl) ?_
  refine ag_vT G htab hlocks (ag_runVT (As := [.int a1]) (rest := []) hC hT G (c_T_X7_checkWedding l hl0 D cy lay h _) (cwV 1 hC.2.2.2.2 gX7_key_X7_checkWedding rfl rfl rfl hdV_X7_checkWedding ⟨Nat.le_of_ble_eq_true rfl, Nat.le_of_ble_eq_true rfl⟩) (ag_recv hT G (by decide) e_ag k_X7) rfl hl.1 rfl (Nat.le_of_ble_eq_true rfl) dX7_key_2 ⟨Nat.le_of_ble_eq_true rfl, Nat.le_of_ble_eq_true rfl⟩) (by decide) (by decide) (fun σ1 H locs h G => ?_)
  (try dsimp only at h)
  refine lv_aload_n hC.1 hC.2.1 dX7_key_5 rfl (lv_at hl 0 rfl) ?_
  refine lv_iload_n hC.1 hC.2.1 dX7_key_6 rfl (lv_at hl 1 rfl) ?_
  refine ag_v G (ag_runV (As := [.int a1]) (rest := []) hC hT G (c_X7_surveyNow l D cy lay h _) (cwV 1 hC.2.2.2.2 gX7_key_X7_surveyNow rfl rfl rfl hdV_X7_surveyNow ⟨Nat.le_of_ble_eq_true rfl, Nat.le_of_ble_eq_true rfl⟩) (ag_recv hT G (by decide) e_ag k_X7) rfl hl.1 rfl (Nat.le_of_ble_eq_true rfl) dX7_key_7 ⟨Nat.le_of_ble_eq_true rfl, Nat.le_of_ble_eq_true rfl⟩) (fun σ2 H locs h G => ?_)
  (try dsimp only at h)
  refine lv_aload_n hC.1 hC.2.1 dX7_key_10 rfl (lv_at hl 0 rfl) ?_
  refine ag_get hC hT G (by decide) e_ag k_X7 i_T_X7_key_X7 13 (by decide) (wm 1 rfl) rfl dX7_key_11 ?_
  refine ag_get hC hT G (by decide) e_fd k_X2 i_T_X7_key_X2 3 (by decide) (wm 2 rfl) rfl dX7_key_14 ?_
  refine lv_if_ne (tgt := 22) hC.1 hC.2.1 dX7_key_17 (by decide) (fun c3 => ?_) (fun c3 => ?_)
  · replace h := h.2 c3
    refine lv_iconst (v := 0) hC.1 hC.2.1 dX7_key_22 (by decide) ?_
    refine lv_istore_n (lv' := [(2, .int 0), (0, .ref (lay 0)), (1, .int a1)]) hC.1 hC.2.1 dX7_key_23 rfl hl (by decide) rfl (fun ls hl => ?_)
    obtain ⟨n1, h⟩ := h
    exact l_T_X7_key_24 a1 hl0 hC hr hlocks htab hT n1 _ _ h _ _ _ G (lv_sub hl [1, 2, 0] rfl)
  · replace h := h.1 c3
    refine lv_iconst (v := (-1)) hC.1 hC.2.1 dX7_key_20 (by decide) ?_
    refine W.widen (k := 1) (n := 6) (by decide) (by decide) ?_
    exact vx_ret (ag_iret hC hr hlocks G h dX7_key_21)
theorem hdV_X7_key : yX7_key.cls = RX7 ∧ yX7_key.cls ≠ "java/lang/invoke/MethodHandle" ∧ yX7_key.cls ≠ "java/lang/invoke/VarHandle" ∧ (parseMethodDescriptor yX7_key.desc).map (fun d => d.parameters.length) = some 1 := by decide +kernel
end
