abbrev rm_L_below : Room := { frames := 0, cells := 0, slots := 0, locals := 0 }
def w_L_below (post : Int32 → MS → Prop) (σ : MS) (a0 : Int32) (a1 : Int32) : Prop := (¬ a1 = 0 ∧ post ((a0 &&& 2147483647) - (a0 &&& 2147483647) / a1 * a1) σ)
set_option maxHeartbeats 4000000 in
set_option maxRecDepth 100000 in
theorem c_L_below (l : Launch) (D : va_G) (cy : Nat → ClassId) (lay : Nat → Nat) {σ : MS} {post : Int32 → MS → Prop} {a0 : Int32} {a1 : Int32} (h : w_L_below post σ a0 a1) (sz : Nat) : Met l yL_below wsL_below rm_L_below (va_Pc [.int a0, .int a1] (agI D cy lay σ sz)) (va_Qi post (agO D cy lay) (agA lay sz)) 0 0 (agA lay sz) := by
  refine ag_ofW (cc := cL_below) (maxL := 2) (ret := some .int) (own := RL) (Qc := fun sz => va_Qi post (agO D cy lay) (agA lay sz)) (by decide) rfl (Nat.le_of_ble_eq_true rfl) rfl ?_
  intro p e s m args below meth c ls hC hr hlocks hT G hl
  unfold w_L_below at h
  have hl : lv_has ls 2 [(0, .int a0), (1, .int a1)] := hl
  refine lv_iload_n hC.1 hC.2.1 dL_below_0 rfl (lv_at hl 0 rfl) ?_
  refine lv_ldc (v := 2147483647) hC.1 hC.2.1 hC.2.2.2.1 (hC.2.2.2.2 _ (wm 1 rfl)) dL_below_1 ?_
  refine lv_iand hC.1 hC.2.1 dL_below_3 ?_
  refine lv_iload_n hC.1 hC.2.1 dL_below_4 rfl (lv_at hl 1 rfl) ?_
  obtain ⟨hz1, h⟩ := h
  refine lv_irem hC.1 hC.2.1 dL_below_5 hz1 ?_
  exact ag_iret hC hr hlocks G h dL_below_6
theorem hdS_L_below : yL_below.cls ≠ "java/lang/invoke/MethodHandle" ∧ yL_below.cls ≠ "java/lang/invoke/VarHandle" ∧ (parseMethodDescriptor yL_below.desc).map (fun d => d.parameters.length) = some 2 := by decide +kernel
abbrev rm_L_instruments : Room := { frames := 2, cells := 0, slots := 0, locals := 46 }
def u_L_instruments_4 (post : Int32 → MS → Prop) (a1 : Int32) : Nat → MS → Int32 → Int32 → Prop
  | 0, _, _, _ => False
  | n + 1, σ, v2, v3 => ((6 ≤ v3 → post v2 σ) ∧ (¬ 6 ≤ v3 → w_N_X7_ofBand (fun r3 σ2 => ((r3 ≤ 0 → u_L_instruments_4 post a1 n σ2 (v2 ||| 0) (v3 + 1)) ∧ (¬ r3 ≤ 0 → u_L_instruments_4 post a1 n σ2 (v2 ||| (1 <<< (v3 &&& 31))) (v3 + 1)))) σ a1 v3))
set_option maxHeartbeats 4000000 in
set_option maxRecDepth 100000 in
theorem l_L_instruments_4 {p : Program} {l : Launch} {e : Env} {s : State} {m : MethodId} {args : Array Value} {below : List Frame} {meth : Method} {c : Code} {D : va_G} {cy : Nat → ClassId} {lay : Nat → Nat} {post : Int32 → MS → Prop} (a1 : Int32) (hC : CallFix p m c cL_instruments 4 s args wsL_instruments RL) (hr : meth.sig.returnType = some .int) (hlocks : meth.locks = false) (hT : agT D cy lay s) : ∀ (n : Nat), ∀ (σ : MS) (v2 : Int32) (v3 : Int32), u_L_instruments_4 post a1 n σ v2 v3 → ∀ (H : Heap) (locs : List Loc) (ls : Array Slot), agG D cy lay σ (agA lay s.heap.size) s.heap H locs → lv_has ls 4 [(0, .ref (lay 0)), (1, .int a1), (2, .int v2), (3, .int v3)] → W p l e rm_L_instruments s m args below meth c H locs 0 0 (MQ below (va_Qi post (agO D cy lay) (agA lay s.heap.size)) args s 0 0 (agA lay s.heap.size)) (F0 m 4 ls []) := by
  intro n
  induction n with
  | zero =>
    intro σ v2 v3 h
    exact h.elim
  | succ n ih =>
    intro σ v2 v3 h H locs ls G hl
    rw [u_L_instruments_4] at h
    refine lv_iload_n hC.1 hC.2.1 dL_instruments_4 rfl (lv_at hl 3 rfl) ?_
    refine lv_bipush (v := 6) hC.1 hC.2.1 dL_instruments_5 (by decide) ?_
    refine lv_icmp_ge (tgt := 35) hC.1 hC.2.1 dL_instruments_7 (by decide) (fun c1 => ?_) (fun c1 => ?_)
    · replace h := h.1 c1
      refine lv_iload_n hC.1 hC.2.1 dL_instruments_35 rfl (lv_at hl 2 rfl) ?_
      exact ag_iret hC hr hlocks G h dL_instruments_36
    · replace h := h.2 c1
      refine lv_iload_n hC.1 hC.2.1 dL_instruments_10 rfl (lv_at hl 2 rfl) ?_
      refine lv_aload_n hC.1 hC.2.1 dL_instruments_11 rfl (lv_at hl 0 rfl) ?_
      refine lv_iload_n hC.1 hC.2.1 dL_instruments_12 rfl (lv_at hl 1 rfl) ?_
      refine lv_iload_n hC.1 hC.2.1 dL_instruments_13 rfl (lv_at hl 3 rfl) ?_
      refine ag_i G (ag_runV (As := [.int a1, .int v3]) (rest := [.int v2]) hC hT G (c_N_X7_ofBand l D cy lay h _) (cwV 2 hC.2.2.2.2 gL_instruments_X7_ofBand rfl rfl rfl hdV_X7_ofBand ⟨Nat.le_of_ble_eq_true rfl, Nat.le_of_ble_eq_true rfl⟩) (ag_recv hT G (by decide) e_ag k_X7) rfl hl.1 rfl (Nat.le_of_ble_eq_true rfl) dL_instruments_14 ⟨Nat.le_of_ble_eq_true rfl, Nat.le_of_ble_eq_true rfl⟩) (fun r3 σ2 H locs h G => ?_)
      (try dsimp only at h)
      refine lv_if_le (tgt := 26) hC.1 hC.2.1 dL_instruments_17 (by decide) (fun c4 => ?_) (fun c4 => ?_)
      · replace h := h.1 c4
        refine lv_iconst (v := 0) hC.1 hC.2.1 dL_instruments_26 (by decide) ?_
        refine lv_ior hC.1 hC.2.1 dL_instruments_27 ?_
        refine lv_istore_n (lv' := [(2, .int (v2 ||| 0)), (0, .ref (lay 0)), (1, .int a1), (3, .int v3)]) hC.1 hC.2.1 dL_instruments_28 rfl hl (by decide) rfl (fun ls hl => ?_)
        refine lv_iinc (v := v3 + 1) (lv' := [(3, .int (v3 + 1)), (2, .int (v2 ||| 0)), (0, .ref (lay 0)), (1, .int a1)]) hC.1 hC.2.1 dL_instruments_29 hl (k := 3) rfl rfl (by decide) rfl (fun ls hl => ?_)
        refine lv_goto (tgt := 4) hC.1 hC.2.1 dL_instruments_32 (by decide) ?_
        exact ih _ _ _ h _ _ _ G (lv_sub hl [2, 3, 1, 0] rfl)
      · replace h := h.2 c4
        refine lv_iconst (v := 1) hC.1 hC.2.1 dL_instruments_20 (by decide) ?_
        refine lv_iload_n hC.1 hC.2.1 dL_instruments_21 rfl (lv_at hl 3 rfl) ?_
        refine lv_ishl hC.1 hC.2.1 dL_instruments_22 ?_
        refine lv_goto (tgt := 27) hC.1 hC.2.1 dL_instruments_23 (by decide) ?_
        refine lv_ior hC.1 hC.2.1 dL_instruments_27 ?_
        refine lv_istore_n (lv' := [(2, .int (v2 ||| (1 <<< (v3 &&& 31)))), (0, .ref (lay 0)), (1, .int a1), (3, .int v3)]) hC.1 hC.2.1 dL_instruments_28 rfl hl (by decide) rfl (fun ls hl => ?_)
        refine lv_iinc (v := v3 + 1) (lv' := [(3, .int (v3 + 1)), (2, .int (v2 ||| (1 <<< (v3 &&& 31)))), (0, .ref (lay 0)), (1, .int a1)]) hC.1 hC.2.1 dL_instruments_29 hl (k := 3) rfl rfl (by decide) rfl (fun ls hl => ?_)
        refine lv_goto (tgt := 4) hC.1 hC.2.1 dL_instruments_32 (by decide) ?_
        exact ih _ _ _ h _ _ _ G (lv_sub hl [2, 3, 1, 0] rfl)
def w_L_instruments (post : Int32 → MS → Prop) (σ : MS) (a1 : Int32) : Prop := (∃ k, u_L_instruments_4 post a1 k σ 0 0)
set_option maxHeartbeats 4000000 in
set_option maxRecDepth 100000 in
theorem c_L_instruments (l : Launch) (D : va_G) (cy : Nat → ClassId) (lay : Nat → Nat) {σ : MS} {post : Int32 → MS → Prop} {a1 : Int32} (h : w_L_instruments post σ a1) (sz : Nat) : Met l yL_instruments wsL_instruments rm_L_instruments (va_Pc [.ref (lay 0), .int a1] (agI D cy lay σ sz)) (va_Qi post (agO D cy lay) (agA lay sz)) 0 0 (agA lay sz) := by
  refine ag_ofW (cc := cL_instruments) (maxL := 4) (ret := some .int) (own := RL) (Qc := fun sz => va_Qi post (agO D cy lay) (agA lay sz)) (by decide) rfl (Nat.le_of_ble_eq_true rfl) rfl ?_
  intro p e s m args below meth c ls hC hr hlocks hT G hl
  unfold w_L_instruments at h
  have hl : lv_has ls 4 [(0, .ref (lay 0)), (1, .int a1)] := hl
  refine lv_iconst (v := 0) hC.1 hC.2.1 dL_instruments_0 (by decide) ?_
  refine lv_istore_n (lv' := [(2, .int 0), (0, .ref (lay 0)), (1, .int a1)]) hC.1 hC.2.1 dL_instruments_1 rfl hl (by decide) rfl (fun ls hl => ?_)
  refine lv_iconst (v := 0) hC.1 hC.2.1 dL_instruments_2 (by decide) ?_
  refine lv_istore_n (lv' := [(3, .int 0), (2, .int 0), (0, .ref (lay 0)), (1, .int a1)]) hC.1 hC.2.1 dL_instruments_3 rfl hl (by decide) rfl (fun ls hl => ?_)
  obtain ⟨n1, h⟩ := h
  exact l_L_instruments_4 a1 hC hr hlocks hT n1 _ _ _ h _ _ _ G (lv_sub hl [2, 3, 1, 0] rfl)
theorem hdS_L_instruments : yL_instruments.cls ≠ "java/lang/invoke/MethodHandle" ∧ yL_instruments.cls ≠ "java/lang/invoke/VarHandle" ∧ (parseMethodDescriptor yL_instruments.desc).map (fun d => d.parameters.length) = some 2 := by decide +kernel
abbrev rm_L_isSo : Room := { frames := 4, cells := 0, slots := 0, locals := 88 }
def u_L_isSo_454 (post : Int32 → MS → Prop) : Nat → MS → Int32 → Int32 → Int32 → Int32 → Int32 → Prop
  | 0, _, _, _, _, _, _ => False
  | n + 1, σ, v2, v3, v4, v5, v6 => ((16 ≤ v6 → w_N_X7_desk (fun r9 σ8 => ((r9 = (v2 - v3) → w_N_X7_desk (fun r12 σ11 => ((r12 = v3 → w_N_X7_desk (fun r15 σ14 => ((v4 < r15 → post 0 σ14) ∧ (¬ v4 < r15 → ((1000 < v5 → post 0 σ14) ∧ (¬ 1000 < v5 → post 1 σ14))))) σ11 5) ∧ (¬ r12 = v3 → post 0 σ11))) σ8 10) ∧ (¬ r9 = (v2 - v3) → post 0 σ8))) σ 8) ∧ (¬ 16 ≤ v6 → w_N_X7_ofSong (fun r19 σ18 => u_L_isSo_454 post n σ18 v2 v3 v4 (v5 + r19) (v6 + 1)) σ v6 4))
set_option maxHeartbeats 4000000 in
set_option maxRecDepth 100000 in
theorem l_L_isSo_454 {p : Program} {l : Launch} {e : Env} {s : State} {m : MethodId} {args : Array Value} {below : List Frame} {meth : Method} {c : Code} {D : va_G} {cy : Nat → ClassId} {lay : Nat → Nat} {post : Int32 → MS → Prop} (hC : CallFix p m c cL_isSo 10 s args wsL_isSo RL) (hr : meth.sig.returnType = some .boolean) (hlocks : meth.locks = false) (hT : agT D cy lay s) : ∀ (n : Nat), ∀ (σ : MS) (v2 : Int32) (v3 : Int32) (v4 : Int32) (v5 : Int32) (v6 : Int32), u_L_isSo_454 post n σ v2 v3 v4 v5 v6 → ∀ (H : Heap) (locs : List Loc) (ls : Array Slot), agG D cy lay σ (agA lay s.heap.size) s.heap H locs → lv_has ls 10 [(0, .ref (lay 0)), (2, .int v2), (3, .int v3), (4, .int v4), (5, .int v5), (6, .int v6)] → W p l e rm_L_isSo s m args below meth c H locs 0 0 (MQ below (va_Qi post (agO D cy lay) (agA lay s.heap.size)) args s 0 0 (agA lay s.heap.size)) (F0 m 454 ls []) := by
  intro n
  induction n with
  | zero =>
    intro σ v2 v3 v4 v5 v6 h
    exact h.elim
  | succ n ih =>
    intro σ v2 v3 v4 v5 v6 h H locs ls G hl
    rw [u_L_isSo_454] at h
    refine lv_iload hC.1 hC.2.1 dL_isSo_454 (lv_at hl 5 rfl) ?_
    refine lv_bipush (v := 16) hC.1 hC.2.1 dL_isSo_456 (by decide) ?_
    refine lv_icmp_ge (tgt := 479) hC.1 hC.2.1 dL_isSo_458 (by decide) (fun c7 => ?_) (fun c7 => ?_)
    · replace h := h.1 c7
      refine lv_aload_n hC.1 hC.2.1 dL_isSo_479 rfl (lv_at hl 0 rfl) ?_
      refine lv_bipush (v := 8) hC.1 hC.2.1 dL_isSo_480 (by decide) ?_
      refine ag_i G (ag_runV (As := [.int 8]) (rest := []) hC hT G (c_N_X7_desk l D cy lay h _) (cwV 1 hC.2.2.2.2 gL_isSo_X7_desk rfl rfl rfl hdV_X7_desk ⟨Nat.le_of_ble_eq_true rfl, Nat.le_of_ble_eq_true rfl⟩) (ag_recv hT G (by decide) e_ag k_X7) rfl hl.1 rfl (Nat.le_of_ble_eq_true rfl) dL_isSo_482 ⟨Nat.le_of_ble_eq_true rfl, Nat.le_of_ble_eq_true rfl⟩) (fun r9 σ8 H locs h G => ?_)
      (try dsimp only at h)
      refine lv_iload_n hC.1 hC.2.1 dL_isSo_485 rfl (lv_at hl 1 rfl) ?_
      refine lv_iload_n hC.1 hC.2.1 dL_isSo_486 rfl (lv_at hl 2 rfl) ?_
      refine lv_isub hC.1 hC.2.1 dL_isSo_487 ?_
      refine lv_icmp_ne (tgt := 523) hC.1 hC.2.1 dL_isSo_488 (by decide) (fun c10 => ?_) (fun c10 => ?_)
      · replace h := h.2 c10
        refine lv_iconst (v := 0) hC.1 hC.2.1 dL_isSo_523 (by decide) ?_
        exact ag_zret hC hr hlocks G rfl h dL_isSo_524
      · replace h := h.1 c10
        refine lv_aload_n hC.1 hC.2.1 dL_isSo_491 rfl (lv_at hl 0 rfl) ?_
        refine lv_bipush (v := 10) hC.1 hC.2.1 dL_isSo_492 (by decide) ?_
        refine ag_i G (ag_runV (As := [.int 10]) (rest := []) hC hT G (c_N_X7_desk l D cy lay h _) (cwV 1 hC.2.2.2.2 gL_isSo_X7_desk rfl rfl rfl hdV_X7_desk ⟨Nat.le_of_ble_eq_true rfl, Nat.le_of_ble_eq_true rfl⟩) (ag_recv hT G (by decide) e_ag k_X7) rfl hl.1 rfl (Nat.le_of_ble_eq_true rfl) dL_isSo_494 ⟨Nat.le_of_ble_eq_true rfl, Nat.le_of_ble_eq_true rfl⟩) (fun r12 σ11 H locs h G => ?_)
        (try dsimp only at h)
        refine lv_iload_n hC.1 hC.2.1 dL_isSo_497 rfl (lv_at hl 2 rfl) ?_
        refine lv_icmp_ne (tgt := 523) hC.1 hC.2.1 dL_isSo_498 (by decide) (fun c13 => ?_) (fun c13 => ?_)
        · replace h := h.2 c13
          refine lv_iconst (v := 0) hC.1 hC.2.1 dL_isSo_523 (by decide) ?_
          exact ag_zret hC hr hlocks G rfl h dL_isSo_524
        · replace h := h.1 c13
          refine lv_iload hC.1 hC.2.1 dL_isSo_501 (lv_at hl 3 rfl) ?_
          refine lv_aload_n hC.1 hC.2.1 dL_isSo_503 rfl (lv_at hl 0 rfl) ?_
          refine lv_iconst (v := 5) hC.1 hC.2.1 dL_isSo_504 (by decide) ?_
          refine ag_i G (ag_runV (As := [.int 5]) (rest := [.int v4]) hC hT G (c_N_X7_desk l D cy lay h _) (cwV 1 hC.2.2.2.2 gL_isSo_X7_desk rfl rfl rfl hdV_X7_desk ⟨Nat.le_of_ble_eq_true rfl, Nat.le_of_ble_eq_true rfl⟩) (ag_recv hT G (by decide) e_ag k_X7) rfl hl.1 rfl (Nat.le_of_ble_eq_true rfl) dL_isSo_505 ⟨Nat.le_of_ble_eq_true rfl, Nat.le_of_ble_eq_true rfl⟩) (fun r15 σ14 H locs h G => ?_)
          (try dsimp only at h)
          refine lv_icmp_lt (tgt := 523) hC.1 hC.2.1 dL_isSo_508 (by decide) (fun c16 => ?_) (fun c16 => ?_)
          · replace h := h.1 c16
            refine lv_iconst (v := 0) hC.1 hC.2.1 dL_isSo_523 (by decide) ?_
            exact ag_zret hC hr hlocks G rfl h dL_isSo_524
          · replace h := h.2 c16
            refine lv_iload hC.1 hC.2.1 dL_isSo_511 (lv_at hl 4 rfl) ?_
            refine lv_sipush (v := 1000) hC.1 hC.2.1 dL_isSo_513 (by decide) ?_
            refine lv_icmp_gt (tgt := 523) hC.1 hC.2.1 dL_isSo_516 (by decide) (fun c17 => ?_) (fun c17 => ?_)
            · replace h := h.1 c17
              refine lv_iconst (v := 0) hC.1 hC.2.1 dL_isSo_523 (by decide) ?_
              exact ag_zret hC hr hlocks G rfl h dL_isSo_524
            · replace h := h.2 c17
              refine lv_iconst (v := 1) hC.1 hC.2.1 dL_isSo_519 (by decide) ?_
              refine lv_goto (tgt := 524) hC.1 hC.2.1 dL_isSo_520 (by decide) ?_
              exact ag_zret hC hr hlocks G rfl h dL_isSo_524
    · replace h := h.2 c7
      refine lv_iload hC.1 hC.2.1 dL_isSo_461 (lv_at hl 4 rfl) ?_
      refine lv_aload_n hC.1 hC.2.1 dL_isSo_463 rfl (lv_at hl 0 rfl) ?_
      refine lv_iload hC.1 hC.2.1 dL_isSo_464 (lv_at hl 5 rfl) ?_
      refine lv_iconst (v := 4) hC.1 hC.2.1 dL_isSo_466 (by decide) ?_
      refine ag_i G (ag_runV (As := [.int v6, .int 4]) (rest := [.int v5]) hC hT G (c_N_X7_ofSong l D cy lay h _) (cwV 2 hC.2.2.2.2 gL_isSo_X7_ofSong rfl rfl rfl hdV_X7_ofSong ⟨Nat.le_of_ble_eq_true rfl, Nat.le_of_ble_eq_true rfl⟩) (ag_recv hT G (by decide) e_ag k_X7) rfl hl.1 rfl (Nat.le_of_ble_eq_true rfl) dL_isSo_467 ⟨Nat.le_of_ble_eq_true rfl, Nat.le_of_ble_eq_true rfl⟩) (fun r19 σ18 H locs h G => ?_)
      (try dsimp only at h)
      refine lv_iadd hC.1 hC.2.1 dL_isSo_470 ?_
      refine lv_istore (lv' := [(5, .int (v5 + r19)), (0, .ref (lay 0)), (2, .int v2), (3, .int v3), (4, .int v4), (6, .int v6)]) hC.1 hC.2.1 dL_isSo_471 hl (by decide) rfl (fun ls hl => ?_)
      refine lv_iinc (v := v6 + 1) (lv' := [(6, .int (v6 + 1)), (5, .int (v5 + r19)), (0, .ref (lay 0)), (2, .int v2), (3, .int v3), (4, .int v4)]) hC.1 hC.2.1 dL_isSo_473 hl (k := 5) rfl rfl (by decide) rfl (fun ls hl => ?_)
      refine lv_goto (tgt := 454) hC.1 hC.2.1 dL_isSo_476 (by decide) ?_
      exact ih _ _ _ _ _ _ h _ _ _ G (lv_sub hl [2, 3, 4, 5, 1, 0] rfl)
def u_L_isSo_354 (post : Int32 → MS → Prop) : Nat → MS → Int32 → Int32 → Int32 → Int32 → Int32 → Prop
  | 0, _, _, _, _, _, _ => False
  | n + 1, σ, v1, v2, v3, v4, v5 => ((v1 ≤ v5 → (∃ k, u_L_isSo_454 post k σ v2 v3 v4 0 0)) ∧ (¬ v1 ≤ v5 → w_N_X7_ofPlayer (fun r21 σ20 => w_N_X7_ofPlayer (fun r23 σ22 => w_N_X7_ofPlayer (fun r25 σ24 => w_N_X7_ofPlayer (fun r27 σ26 => ((r25 < r27 → post 0 σ26) ∧ (¬ r25 < r27 → w_N_X7_ofPlayer (fun r30 σ29 => w_N_X7_ofPlayer (fun r32 σ31 => (((6 * r32) < r30 → post 0 σ31) ∧ (¬ (6 * r32) < r30 → w_N_X7_ofPlayer (fun r35 σ34 => ((((r35 >>> (v5 &&& 31)) &&& 1) = 1 → post 0 σ34) ∧ (¬ ((r35 >>> (v5 &&& 31)) &&& 1) = 1 → u_L_isSo_354 post n σ34 v1 v2 (v3 + r21) (v4 + r23) (v5 + 1)))) σ31 v5 4))) σ29 v5 7) σ26 v5 8))) σ24 v5 7) σ22 v5 8) σ20 v5 6) σ v5 5))
set_option maxHeartbeats 4000000 in
set_option maxRecDepth 100000 in
theorem l_L_isSo_354 {p : Program} {l : Launch} {e : Env} {s : State} {m : MethodId} {args : Array Value} {below : List Frame} {meth : Method} {c : Code} {D : va_G} {cy : Nat → ClassId} {lay : Nat → Nat} {post : Int32 → MS → Prop} (hC : CallFix p m c cL_isSo 10 s args wsL_isSo RL) (hr : meth.sig.returnType = some .boolean) (hlocks : meth.locks = false) (hT : agT D cy lay s) : ∀ (n : Nat), ∀ (σ : MS) (v1 : Int32) (v2 : Int32) (v3 : Int32) (v4 : Int32) (v5 : Int32), u_L_isSo_354 post n σ v1 v2 v3 v4 v5 → ∀ (H : Heap) (locs : List Loc) (ls : Array Slot), agG D cy lay σ (agA lay s.heap.size) s.heap H locs → lv_has ls 10 [(0, .ref (lay 0)), (1, .int v1), (2, .int v2), (3, .int v3), (4, .int v4), (5, .int v5)] → W p l e rm_L_isSo s m args below meth c H locs 0 0 (MQ below (va_Qi post (agO D cy lay) (agA lay s.heap.size)) args s 0 0 (agA lay s.heap.size)) (F0 m 354 ls []) := by
  intro n
  induction n with
  | zero =>
    intro σ v1 v2 v3 v4 v5 h
    exact h.elim
  | succ n ih =>
    intro σ v1 v2 v3 v4 v5 h H locs ls G hl
    rw [u_L_isSo_354] at h
    refine lv_iload hC.1 hC.2.1 dL_isSo_354 (lv_at hl 5 rfl) ?_
    refine lv_iload_n hC.1 hC.2.1 dL_isSo_356 rfl (lv_at hl 1 rfl) ?_
    refine lv_icmp_ge (tgt := 448) hC.1 hC.2.1 dL_isSo_357 (by decide) (fun c6 => ?_) (fun c6 => ?_)
    · replace h := h.1 c6
      refine lv_iconst (v := 0) hC.1 hC.2.1 dL_isSo_448 (by decide) ?_
      refine lv_istore (lv' := [(5, .int 0), (0, .ref (lay 0)), (1, .int v1), (2, .int v2), (3, .int v3), (4, .int v4)]) hC.1 hC.2.1 dL_isSo_449 hl (by decide) rfl (fun ls hl => ?_)
      refine lv_iconst (v := 0) hC.1 hC.2.1 dL_isSo_451 (by decide) ?_
      refine lv_istore (lv' := [(6, .int 0), (5, .int 0), (0, .ref (lay 0)), (1, .int v1), (2, .int v2), (3, .int v3), (4, .int v4)]) hC.1 hC.2.1 dL_isSo_452 hl (by decide) rfl (fun ls hl => ?_)
      obtain ⟨n1, h⟩ := h
      exact l_L_isSo_454 hC hr hlocks hT n1 _ _ _ _ _ _ h _ _ _ G (lv_sub hl [2, 4, 5, 6, 1, 0] rfl)
    · replace h := h.2 c6
      refine lv_iload_n hC.1 hC.2.1 dL_isSo_360 rfl (lv_at hl 3 rfl) ?_
      refine lv_aload_n hC.1 hC.2.1 dL_isSo_361 rfl (lv_at hl 0 rfl) ?_
      refine lv_iload hC.1 hC.2.1 dL_isSo_362 (lv_at hl 5 rfl) ?_
      refine lv_iconst (v := 5) hC.1 hC.2.1 dL_isSo_364 (by decide) ?_
      refine ag_i G (ag_runV (As := [.int v5, .int 5]) (rest := [.int v3]) hC hT G (c_N_X7_ofPlayer l D cy lay h _) (cwV 2 hC.2.2.2.2 gL_isSo_X7_ofPlayer rfl rfl rfl hdV_X7_ofPlayer ⟨Nat.le_of_ble_eq_true rfl, Nat.le_of_ble_eq_true rfl⟩) (ag_recv hT G (by decide) e_ag k_X7) rfl hl.1 rfl (Nat.le_of_ble_eq_true rfl) dL_isSo_365 ⟨Nat.le_of_ble_eq_true rfl, Nat.le_of_ble_eq_true rfl⟩) (fun r21 σ20 H locs h G => ?_)
      (try dsimp only at h)
      refine lv_iadd hC.1 hC.2.1 dL_isSo_368 ?_
      refine lv_istore_n (lv' := [(3, .int (v3 + r21)), (0, .ref (lay 0)), (1, .int v1), (2, .int v2), (4, .int v4), (5, .int v5)]) hC.1 hC.2.1 dL_isSo_369 rfl hl (by decide) rfl (fun ls hl => ?_)
      refine lv_iload hC.1 hC.2.1 dL_isSo_370 (lv_at hl 4 rfl) ?_
      refine lv_aload_n hC.1 hC.2.1 dL_isSo_372 rfl (lv_at hl 1 rfl) ?_
      refine lv_iload hC.1 hC.2.1 dL_isSo_373 (lv_at hl 5 rfl) ?_
      refine lv_bipush (v := 6) hC.1 hC.2.1 dL_isSo_375 (by decide) ?_
      refine ag_i G (ag_runV (As := [.int v5, .int 6]) (rest := [.int v4]) hC hT G (c_N_X7_ofPlayer l D cy lay h _) (cwV 2 hC.2.2.2.2 gL_isSo_X7_ofPlayer rfl rfl rfl hdV_X7_ofPlayer ⟨Nat.le_of_ble_eq_true rfl, Nat.le_of_ble_eq_true rfl⟩) (ag_recv hT G (by decide) e_ag k_X7) rfl hl.1 rfl (Nat.le_of_ble_eq_true rfl) dL_isSo_377 ⟨Nat.le_of_ble_eq_true rfl, Nat.le_of_ble_eq_true rfl⟩) (fun r23 σ22 H locs h G => ?_)
      (try dsimp only at h)
      refine lv_iadd hC.1 hC.2.1 dL_isSo_380 ?_
      refine lv_istore (lv' := [(4, .int (v4 + r23)), (3, .int (v3 + r21)), (0, .ref (lay 0)), (1, .int v1), (2, .int v2), (5, .int v5)]) hC.1 hC.2.1 dL_isSo_381 hl (by decide) rfl (fun ls hl => ?_)
      refine lv_aload_n hC.1 hC.2.1 dL_isSo_383 rfl (lv_at hl 2 rfl) ?_
      refine lv_iload hC.1 hC.2.1 dL_isSo_384 (lv_at hl 5 rfl) ?_
      refine lv_bipush (v := 8) hC.1 hC.2.1 dL_isSo_386 (by decide) ?_
      refine ag_i G (ag_runV (As := [.int v5, .int 8]) (rest := []) hC hT G (c_N_X7_ofPlayer l D cy lay h _) (cwV 2 hC.2.2.2.2 gL_isSo_X7_ofPlayer rfl rfl rfl hdV_X7_ofPlayer ⟨Nat.le_of_ble_eq_true rfl, Nat.le_of_ble_eq_true rfl⟩) (ag_recv hT G (by decide) e_ag k_X7) rfl hl.1 rfl (Nat.le_of_ble_eq_true rfl) dL_isSo_388 ⟨Nat.le_of_ble_eq_true rfl, Nat.le_of_ble_eq_true rfl⟩) (fun r25 σ24 H locs h G => ?_)
      (try dsimp only at h)
      refine lv_aload_n hC.1 hC.2.1 dL_isSo_391 rfl (lv_at hl 2 rfl) ?_
      refine lv_iload hC.1 hC.2.1 dL_isSo_392 (lv_at hl 5 rfl) ?_
      refine lv_bipush (v := 7) hC.1 hC.2.1 dL_isSo_394 (by decide) ?_
      refine ag_i G (ag_runV (As := [.int v5, .int 7]) (rest := [.int r25]) hC hT G (c_N_X7_ofPlayer l D cy lay h _) (cwV 2 hC.2.2.2.2 gL_isSo_X7_ofPlayer rfl rfl rfl hdV_X7_ofPlayer ⟨Nat.le_of_ble_eq_true rfl, Nat.le_of_ble_eq_true rfl⟩) (ag_recv hT G (by decide) e_ag k_X7) rfl hl.1 rfl (Nat.le_of_ble_eq_true rfl) dL_isSo_396 ⟨Nat.le_of_ble_eq_true rfl, Nat.le_of_ble_eq_true rfl⟩) (fun r27 σ26 H locs h G => ?_)
      (try dsimp only at h)
      refine lv_icmp_lt (tgt := 440) hC.1 hC.2.1 dL_isSo_399 (by decide) (fun c28 => ?_) (fun c28 => ?_)
      · replace h := h.1 c28
        refine lv_iconst (v := 0) hC.1 hC.2.1 dL_isSo_440 (by decide) ?_
        exact ag_zret hC hr hlocks G rfl h dL_isSo_441
      · replace h := h.2 c28
        refine lv_aload_n hC.1 hC.2.1 dL_isSo_402 rfl (lv_at hl 2 rfl) ?_
        refine lv_iload hC.1 hC.2.1 dL_isSo_403 (lv_at hl 5 rfl) ?_
        refine lv_bipush (v := 8) hC.1 hC.2.1 dL_isSo_405 (by decide) ?_
        refine ag_i G (ag_runV (As := [.int v5, .int 8]) (rest := []) hC hT G (c_N_X7_ofPlayer l D cy lay h _) (cwV 2 hC.2.2.2.2 gL_isSo_X7_ofPlayer rfl rfl rfl hdV_X7_ofPlayer ⟨Nat.le_of_ble_eq_true rfl, Nat.le_of_ble_eq_true rfl⟩) (ag_recv hT G (by decide) e_ag k_X7) rfl hl.1 rfl (Nat.le_of_ble_eq_true rfl) dL_isSo_407 ⟨Nat.le_of_ble_eq_true rfl, Nat.le_of_ble_eq_true rfl⟩) (fun r30 σ29 H locs h G => ?_)
        (try dsimp only at h)
        refine lv_bipush (v := 6) hC.1 hC.2.1 dL_isSo_410 (by decide) ?_
        refine lv_aload_n hC.1 hC.2.1 dL_isSo_412 rfl (lv_at hl 2 rfl) ?_
        refine lv_iload hC.1 hC.2.1 dL_isSo_413 (lv_at hl 5 rfl) ?_
        refine lv_bipush (v := 7) hC.1 hC.2.1 dL_isSo_415 (by decide) ?_
        refine ag_i G (ag_runV (As := [.int v5, .int 7]) (rest := [.int 6, .int r30]) hC hT G (c_N_X7_ofPlayer l D cy lay h _) (cwV 2 hC.2.2.2.2 gL_isSo_X7_ofPlayer rfl rfl rfl hdV_X7_ofPlayer ⟨Nat.le_of_ble_eq_true rfl, Nat.le_of_ble_eq_true rfl⟩) (ag_recv hT G (by decide) e_ag k_X7) rfl hl.1 rfl (Nat.le_of_ble_eq_true rfl) dL_isSo_417 ⟨Nat.le_of_ble_eq_true rfl, Nat.le_of_ble_eq_true rfl⟩) (fun r32 σ31 H locs h G => ?_)
        (try dsimp only at h)
        refine lv_imul hC.1 hC.2.1 dL_isSo_420 ?_
        refine lv_icmp_gt (tgt := 440) hC.1 hC.2.1 dL_isSo_421 (by decide) (fun c33 => ?_) (fun c33 => ?_)
        · replace h := h.1 c33
          refine lv_iconst (v := 0) hC.1 hC.2.1 dL_isSo_440 (by decide) ?_
          exact ag_zret hC hr hlocks G rfl h dL_isSo_441
        · replace h := h.2 c33
          refine lv_aload_n hC.1 hC.2.1 dL_isSo_424 rfl (lv_at hl 2 rfl) ?_
          refine lv_iload hC.1 hC.2.1 dL_isSo_425 (lv_at hl 5 rfl) ?_
          refine lv_iconst (v := 4) hC.1 hC.2.1 dL_isSo_427 (by decide) ?_
          refine ag_i G (ag_runV (As := [.int v5, .int 4]) (rest := []) hC hT G (c_N_X7_ofPlayer l D cy lay h _) (cwV 2 hC.2.2.2.2 gL_isSo_X7_ofPlayer rfl rfl rfl hdV_X7_ofPlayer ⟨Nat.le_of_ble_eq_true rfl, Nat.le_of_ble_eq_true rfl⟩) (ag_recv hT G (by decide) e_ag k_X7) rfl hl.1 rfl (Nat.le_of_ble_eq_true rfl) dL_isSo_428 ⟨Nat.le_of_ble_eq_true rfl, Nat.le_of_ble_eq_true rfl⟩) (fun r35 σ34 H locs h G => ?_)
          (try dsimp only at h)
          refine lv_iload hC.1 hC.2.1 dL_isSo_431 (lv_at hl 5 rfl) ?_
          refine lv_ishr hC.1 hC.2.1 dL_isSo_433 ?_
          refine lv_iconst (v := 1) hC.1 hC.2.1 dL_isSo_434 (by decide) ?_
          refine lv_iand hC.1 hC.2.1 dL_isSo_435 ?_
          refine lv_iconst (v := 1) hC.1 hC.2.1 dL_isSo_436 (by decide) ?_
          refine lv_icmp_ne (tgt := 442) hC.1 hC.2.1 dL_isSo_437 (by decide) (fun c36 => ?_) (fun c36 => ?_)
          · replace h := h.2 c36
            refine lv_iinc (v := v5 + 1) (lv' := [(5, .int (v5 + 1)), (4, .int (v4 + r23)), (3, .int (v3 + r21)), (0, .ref (lay 0)), (1, .int v1), (2, .int v2)]) hC.1 hC.2.1 dL_isSo_442 hl (k := 5) rfl rfl (by decide) rfl (fun ls hl => ?_)
            refine lv_goto (tgt := 354) hC.1 hC.2.1 dL_isSo_445 (by decide) ?_
            exact ih _ _ _ _ _ _ h _ _ _ G (lv_sub hl [3, 4, 5, 2, 1, 0] rfl)
          · replace h := h.1 c36
            refine lv_iconst (v := 0) hC.1 hC.2.1 dL_isSo_440 (by decide) ?_
            exact ag_zret hC hr hlocks G rfl h dL_isSo_441
def u_L_isSo_280 (post : Int32 → MS → Prop) (K10 : MS → Int32 → Int32 → Int32 → Prop) : Nat → MS → Int32 → Int32 → Int32 → Int32 → Int32 → Int32 → Prop
  | 0, _, _, _, _, _, _, _ => False
  | n + 1, σ, v1, v2, v3, v4, v6, v9 => ((v3 ≤ v9 → K10 σ v1 v2 (v3 + 1)) ∧ (¬ v3 ≤ v9 → ((v4 = 1 → w_N_X7_ofWedding (fun r67 σ66 => ((r67 = 1 → w_N_X7_ofWedding (fun r70 σ69 => w_N_X7_ofWedding (fun r72 σ71 => ((r70 = r72 → w_N_X7_ofWedding (fun r75 σ74 => ((r75 = v6 → post 0 σ74) ∧ (¬ r75 = v6 → u_L_isSo_280 post K10 n σ74 v1 v2 v3 v4 v6 (v9 + 1)))) σ71 v9 0) ∧ (¬ r70 = r72 → u_L_isSo_280 post K10 n σ71 v1 v2 v3 v4 v6 (v9 + 1)))) σ69 v3 1) σ66 v9 1) ∧ (¬ r67 = 1 → u_L_isSo_280 post K10 n σ66 v1 v2 v3 v4 v6 (v9 + 1)))) σ v9 6) ∧ (¬ v4 = 1 → u_L_isSo_280 post K10 n σ v1 v2 v3 v4 v6 (v9 + 1)))))
set_option maxHeartbeats 4000000 in
set_option maxRecDepth 100000 in
theorem l_L_isSo_280 {p : Program} {l : Launch} {e : Env} {s : State} {m : MethodId} {args : Array Value} {below : List Frame} {meth : Method} {c : Code} {D : va_G} {cy : Nat → ClassId} {lay : Nat → Nat} {post : Int32 → MS → Prop} (K10 : MS → Int32 → Int32 → Int32 → Prop) (hC : CallFix p m c cL_isSo 10 s args wsL_isSo RL) (hr : meth.sig.returnType = some .boolean) (hlocks : meth.locks = false) (hT : agT D cy lay s) (hK10 : ∀ (σ : MS) (v1 : Int32) (v2 : Int32) (v3 : Int32), K10 σ v1 v2 v3 → ∀ (H : Heap) (locs : List Loc) (ls : Array Slot), agG D cy lay σ (agA lay s.heap.size) s.heap H locs → lv_has ls 10 [(0, .ref (lay 0)), (1, .int v1), (2, .int v2), (3, .int v3)] → W p l e rm_L_isSo s m args below meth c H locs 0 0 (MQ below (va_Qi post (agO D cy lay) (agA lay s.heap.size)) args s 0 0 (agA lay s.heap.size)) (F0 m 10 ls [])) : ∀ (n : Nat), ∀ (σ : MS) (v1 : Int32) (v2 : Int32) (v3 : Int32) (v4 : Int32) (v6 : Int32) (v9 : Int32), u_L_isSo_280 post K10 n σ v1 v2 v3 v4 v6 v9 → ∀ (H : Heap) (locs : List Loc) (ls : Array Slot), agG D cy lay σ (agA lay s.heap.size) s.heap H locs → lv_has ls 10 [(0, .ref (lay 0)), (1, .int v1), (2, .int v2), (3, .int v3), (4, .int v4), (6, .int v6), (9, .int v9)] → W p l e rm_L_isSo s m args below meth c H locs 0 0 (MQ below (va_Qi post (agO D cy lay) (agA lay s.heap.size)) args s 0 0 (agA lay s.heap.size)) (F0 m 280 ls []) := by
  intro n
  induction n with
  | zero =>
    intro σ v1 v2 v3 v4 v6 v9 h
    exact h.elim
  | succ n ih =>
    intro σ v1 v2 v3 v4 v6 v9 h H locs ls G hl
    rw [u_L_isSo_280] at h
    refine lv_iload hC.1 hC.2.1 dL_isSo_280 (lv_at hl 6 rfl) ?_
    refine lv_iload_n hC.1 hC.2.1 dL_isSo_282 rfl (lv_at hl 3 rfl) ?_
    refine lv_icmp_ge (tgt := 340) hC.1 hC.2.1 dL_isSo_283 (by decide) (fun c64 => ?_) (fun c64 => ?_)
    · replace h := h.1 c64
      refine lv_iinc (v := v3 + 1) (lv' := [(3, .int (v3 + 1)), (0, .ref (lay 0)), (1, .int v1), (2, .int v2), (4, .int v4), (6, .int v6), (9, .int v9)]) hC.1 hC.2.1 dL_isSo_340 hl (k := 3) rfl rfl (by decide) rfl (fun ls hl => ?_)
      refine lv_goto (tgt := 10) hC.1 hC.2.1 dL_isSo_343 (by decide) ?_
      exact hK10 _ _ _ _ h _ _ _ G (lv_sub hl [1, 2, 3, 0] rfl)
    · replace h := h.2 c64
      refine lv_iload hC.1 hC.2.1 dL_isSo_286 (lv_at hl 4 rfl) ?_
      refine lv_iconst (v := 1) hC.1 hC.2.1 dL_isSo_288 (by decide) ?_
      refine lv_icmp_ne (tgt := 334) hC.1 hC.2.1 dL_isSo_289 (by decide) (fun c65 => ?_) (fun c65 => ?_)
      · replace h := h.2 c65
        refine lv_iinc (v := v9 + 1) (lv' := [(9, .int (v9 + 1)), (0, .ref (lay 0)), (1, .int v1), (2, .int v2), (3, .int v3), (4, .int v4), (6, .int v6)]) hC.1 hC.2.1 dL_isSo_334 hl (k := 6) rfl rfl (by decide) rfl (fun ls hl => ?_)
        refine lv_goto (tgt := 280) hC.1 hC.2.1 dL_isSo_337 (by decide) ?_
        exact ih _ _ _ _ _ _ _ h _ _ _ G (lv_sub hl [1, 2, 3, 4, 5, 6, 0] rfl)
      · replace h := h.1 c65
        refine lv_aload_n hC.1 hC.2.1 dL_isSo_292 rfl (lv_at hl 0 rfl) ?_
        refine lv_iload hC.1 hC.2.1 dL_isSo_293 (lv_at hl 6 rfl) ?_
        refine lv_bipush (v := 6) hC.1 hC.2.1 dL_isSo_295 (by decide) ?_
        refine ag_i G (ag_runV (As := [.int v9, .int 6]) (rest := []) hC hT G (c_N_X7_ofWedding l D cy lay h _) (cwV 2 hC.2.2.2.2 gL_isSo_X7_ofWedding rfl rfl rfl hdV_X7_ofWedding ⟨Nat.le_of_ble_eq_true rfl, Nat.le_of_ble_eq_true rfl⟩) (ag_recv hT G (by decide) e_ag k_X7) rfl hl.1 rfl (Nat.le_of_ble_eq_true rfl) dL_isSo_297 ⟨Nat.le_of_ble_eq_true rfl, Nat.le_of_ble_eq_true rfl⟩) (fun r67 σ66 H locs h G => ?_)
        (try dsimp only at h)
        refine lv_iconst (v := 1) hC.1 hC.2.1 dL_isSo_300 (by decide) ?_
        refine lv_icmp_ne (tgt := 334) hC.1 hC.2.1 dL_isSo_301 (by decide) (fun c68 => ?_) (fun c68 => ?_)
        · replace h := h.2 c68
          refine lv_iinc (v := v9 + 1) (lv' := [(9, .int (v9 + 1)), (0, .ref (lay 0)), (1, .int v1), (2, .int v2), (3, .int v3), (4, .int v4), (6, .int v6)]) hC.1 hC.2.1 dL_isSo_334 hl (k := 6) rfl rfl (by decide) rfl (fun ls hl => ?_)
          refine lv_goto (tgt := 280) hC.1 hC.2.1 dL_isSo_337 (by decide) ?_
          exact ih _ _ _ _ _ _ _ h _ _ _ G (lv_sub hl [1, 2, 3, 4, 5, 6, 0] rfl)
        · replace h := h.1 c68
          refine lv_aload_n hC.1 hC.2.1 dL_isSo_304 rfl (lv_at hl 0 rfl) ?_
          refine lv_iload hC.1 hC.2.1 dL_isSo_305 (lv_at hl 6 rfl) ?_
          refine lv_iconst (v := 1) hC.1 hC.2.1 dL_isSo_307 (by decide) ?_
          refine ag_i G (ag_runV (As := [.int v9, .int 1]) (rest := []) hC hT G (c_N_X7_ofWedding l D cy lay h _) (cwV 2 hC.2.2.2.2 gL_isSo_X7_ofWedding rfl rfl rfl hdV_X7_ofWedding ⟨Nat.le_of_ble_eq_true rfl, Nat.le_of_ble_eq_true rfl⟩) (ag_recv hT G (by decide) e_ag k_X7) rfl hl.1 rfl (Nat.le_of_ble_eq_true rfl) dL_isSo_308 ⟨Nat.le_of_ble_eq_true rfl, Nat.le_of_ble_eq_true rfl⟩) (fun r70 σ69 H locs h G => ?_)
          (try dsimp only at h)
          refine lv_aload_n hC.1 hC.2.1 dL_isSo_311 rfl (lv_at hl 0 rfl) ?_
          refine lv_iload_n hC.1 hC.2.1 dL_isSo_312 rfl (lv_at hl 3 rfl) ?_
          refine lv_iconst (v := 1) hC.1 hC.2.1 dL_isSo_313 (by decide) ?_
          refine ag_i G (ag_runV (As := [.int v3, .int 1]) (rest := [.int r70]) hC hT G (c_N_X7_ofWedding l D cy lay h _) (cwV 2 hC.2.2.2.2 gL_isSo_X7_ofWedding rfl rfl rfl hdV_X7_ofWedding ⟨Nat.le_of_ble_eq_true rfl, Nat.le_of_ble_eq_true rfl⟩) (ag_recv hT G (by decide) e_ag k_X7) rfl hl.1 rfl (Nat.le_of_ble_eq_true rfl) dL_isSo_314 ⟨Nat.le_of_ble_eq_true rfl, Nat.le_of_ble_eq_true rfl⟩) (fun r72 σ71 H locs h G => ?_)
          (try dsimp only at h)
          refine lv_icmp_ne (tgt := 334) hC.1 hC.2.1 dL_isSo_317 (by decide) (fun c73 => ?_) (fun c73 => ?_)
          · replace h := h.2 c73
            refine lv_iinc (v := v9 + 1) (lv' := [(9, .int (v9 + 1)), (0, .ref (lay 0)), (1, .int v1), (2, .int v2), (3, .int v3), (4, .int v4), (6, .int v6)]) hC.1 hC.2.1 dL_isSo_334 hl (k := 6) rfl rfl (by decide) rfl (fun ls hl => ?_)
            refine lv_goto (tgt := 280) hC.1 hC.2.1 dL_isSo_337 (by decide) ?_
            exact ih _ _ _ _ _ _ _ h _ _ _ G (lv_sub hl [1, 2, 3, 4, 5, 6, 0] rfl)
          · replace h := h.1 c73
            refine lv_aload_n hC.1 hC.2.1 dL_isSo_320 rfl (lv_at hl 0 rfl) ?_
            refine lv_iload hC.1 hC.2.1 dL_isSo_321 (lv_at hl 6 rfl) ?_
            refine lv_iconst (v := 0) hC.1 hC.2.1 dL_isSo_323 (by decide) ?_
            refine ag_i G (ag_runV (As := [.int v9, .int 0]) (rest := []) hC hT G (c_N_X7_ofWedding l D cy lay h _) (cwV 2 hC.2.2.2.2 gL_isSo_X7_ofWedding rfl rfl rfl hdV_X7_ofWedding ⟨Nat.le_of_ble_eq_true rfl, Nat.le_of_ble_eq_true rfl⟩) (ag_recv hT G (by decide) e_ag k_X7) rfl hl.1 rfl (Nat.le_of_ble_eq_true rfl) dL_isSo_324 ⟨Nat.le_of_ble_eq_true rfl, Nat.le_of_ble_eq_true rfl⟩) (fun r75 σ74 H locs h G => ?_)
            (try dsimp only at h)
            refine lv_iload hC.1 hC.2.1 dL_isSo_327 (lv_at hl 5 rfl) ?_
            refine lv_icmp_ne (tgt := 334) hC.1 hC.2.1 dL_isSo_329 (by decide) (fun c76 => ?_) (fun c76 => ?_)
            · replace h := h.2 c76
              refine lv_iinc (v := v9 + 1) (lv' := [(9, .int (v9 + 1)), (0, .ref (lay 0)), (1, .int v1), (2, .int v2), (3, .int v3), (4, .int v4), (6, .int v6)]) hC.1 hC.2.1 dL_isSo_334 hl (k := 6) rfl rfl (by decide) rfl (fun ls hl => ?_)
              refine lv_goto (tgt := 280) hC.1 hC.2.1 dL_isSo_337 (by decide) ?_
              exact ih _ _ _ _ _ _ _ h _ _ _ G (lv_sub hl [1, 2, 3, 4, 5, 6, 0] rfl)
            · replace h := h.1 c76
              refine lv_iconst (v := 0) hC.1 hC.2.1 dL_isSo_332 (by decide) ?_
              exact ag_zret hC hr hlocks G rfl h dL_isSo_333
def u_L_isSo_178 (post : Int32 → MS → Prop) (K10 : MS → Int32 → Int32 → Int32 → Prop) : Nat → MS → Int32 → Int32 → Int32 → Int32 → Int32 → Int32 → Int32 → Int32 → Int32 → Prop
  | 0, _, _, _, _, _, _, _, _, _, _ => False
  | n + 1, σ, v1, v2, v3, v4, v5, v6, v7, v8, v9 => ((v1 ≤ v9 → w_J6_bitCount_0f7a4 (fun r54 σ53 => ((r54 = v7 → (((1 <<< (v1 &&& 31)) ≤ v5 → post 0 σ53) ∧ (¬ (1 <<< (v1 &&& 31)) ≤ v5 → ((0 < v8 → post 0 σ53) ∧ (¬ 0 < v8 → w_N_X7_ofWedding (fun r59 σ58 => ((r59 < 50 → post 0 σ58) ∧ (¬ r59 < 50 → w_N_X7_ofWedding (fun r62 σ61 => ((r62 ≤ 16 → (∃ k, u_L_isSo_280 post K10 k σ61 v1 v2 v3 v4 v6 0)) ∧ (¬ r62 ≤ 16 → post 0 σ61))) σ58 v3 12))) σ53 v3 8))))) ∧ (¬ r54 = v7 → post 0 σ53))) σ v5) ∧ (¬ v1 ≤ v9 → ((((v5 >>> (v9 &&& 31)) &&& 1) = 1 → w_N_X7_ofPlayer (fun r79 σ78 => w_L_instruments (fun r81 σ80 => (((r79 &&& r81) = 0 → u_L_isSo_178 post K10 n σ80 v1 v2 v3 v4 v5 v6 v7 (v8 + 1) (v9 + 1)) ∧ (¬ (r79 &&& r81) = 0 → u_L_isSo_178 post K10 n σ80 v1 v2 v3 v4 v5 v6 v7 (v8 + 0) (v9 + 1)))) σ78 v6) σ v9 0) ∧ (¬ ((v5 >>> (v9 &&& 31)) &&& 1) = 1 → u_L_isSo_178 post K10 n σ v1 v2 v3 v4 v5 v6 v7 (v8 + 0) (v9 + 1)))))
set_option maxHeartbeats 4000000 in
set_option maxRecDepth 100000 in
theorem l_L_isSo_178 {p : Program} {l : Launch} {e : Env} {s : State} {m : MethodId} {args : Array Value} {below : List Frame} {meth : Method} {c : Code} {D : va_G} {cy : Nat → ClassId} {lay : Nat → Nat} {post : Int32 → MS → Prop} (K10 : MS → Int32 → Int32 → Int32 → Prop) (hC : CallFix p m c cL_isSo 10 s args wsL_isSo RL) (hr : meth.sig.returnType = some .boolean) (hlocks : meth.locks = false) (hT : agT D cy lay s) (hK10 : ∀ (σ : MS) (v1 : Int32) (v2 : Int32) (v3 : Int32), K10 σ v1 v2 v3 → ∀ (H : Heap) (locs : List Loc) (ls : Array Slot), agG D cy lay σ (agA lay s.heap.size) s.heap H locs → lv_has ls 10 [(0, .ref (lay 0)), (1, .int v1), (2, .int v2), (3, .int v3)] → W p l e rm_L_isSo s m args below meth c H locs 0 0 (MQ below (va_Qi post (agO D cy lay) (agA lay s.heap.size)) args s 0 0 (agA lay s.heap.size)) (F0 m 10 ls [])) : ∀ (n : Nat), ∀ (σ : MS) (v1 : Int32) (v2 : Int32) (v3 : Int32) (v4 : Int32) (v5 : Int32) (v6 : Int32) (v7 : Int32) (v8 : Int32) (v9 : Int32), u_L_isSo_178 post K10 n σ v1 v2 v3 v4 v5 v6 v7 v8 v9 → ∀ (H : Heap) (locs : List Loc) (ls : Array Slot), agG D cy lay σ (agA lay s.heap.size) s.heap H locs → lv_has ls 10 [(0, .ref (lay 0)), (1, .int v1), (2, .int v2), (3, .int v3), (4, .int v4), (5, .int v5), (6, .int v6), (7, .int v7), (8, .int v8), (9, .int v9)] → W p l e rm_L_isSo s m args below meth c H locs 0 0 (MQ below (va_Qi post (agO D cy lay) (agA lay s.heap.size)) args s 0 0 (agA lay s.heap.size)) (F0 m 178 ls []) := by
  intro n
  induction n with
  | zero =>
    intro σ v1 v2 v3 v4 v5 v6 v7 v8 v9 h
    exact h.elim
  | succ n ih =>
    intro σ v1 v2 v3 v4 v5 v6 v7 v8 v9 h H locs ls G hl
    rw [u_L_isSo_178] at h
    refine lv_iload hC.1 hC.2.1 dL_isSo_178 (lv_at hl 9 rfl) ?_
    refine lv_iload_n hC.1 hC.2.1 dL_isSo_180 rfl (lv_at hl 1 rfl) ?_
    refine lv_icmp_ge (tgt := 228) hC.1 hC.2.1 dL_isSo_181 (by decide) (fun c52 => ?_) (fun c52 => ?_)
    · replace h := h.1 c52
      refine lv_iload hC.1 hC.2.1 dL_isSo_228 (lv_at hl 5 rfl) ?_
      refine ag_i G (ag_runS (As := [.int v5]) (rest := []) hC hT G (c_J6_bitCount_0f7a4 l D cy lay h _) (va_cwS 1 hC.2.2.2.2 gL_isSo_J6_bitCount_0f7a4 rfl rfl rfl hdS_J6_bitCount_0f7a4 ⟨Nat.le_of_ble_eq_true rfl, Nat.le_of_ble_eq_true rfl⟩) rfl hl.1 rfl (Nat.le_of_ble_eq_true rfl) dL_isSo_230 ⟨Nat.le_of_ble_eq_true rfl, Nat.le_of_ble_eq_true rfl⟩) (fun r54 σ53 H locs h G => ?_)
      (try dsimp only at h)
      refine lv_iload hC.1 hC.2.1 dL_isSo_233 (lv_at hl 7 rfl) ?_
      refine lv_icmp_ne (tgt := 275) hC.1 hC.2.1 dL_isSo_235 (by decide) (fun c55 => ?_) (fun c55 => ?_)
      · replace h := h.2 c55
        refine lv_iconst (v := 0) hC.1 hC.2.1 dL_isSo_275 (by decide) ?_
        exact ag_zret hC hr hlocks G rfl h dL_isSo_276
      · replace h := h.1 c55
        refine lv_iload hC.1 hC.2.1 dL_isSo_238 (lv_at hl 5 rfl) ?_
        refine lv_iconst (v := 1) hC.1 hC.2.1 dL_isSo_240 (by decide) ?_
        refine lv_iload_n hC.1 hC.2.1 dL_isSo_241 rfl (lv_at hl 1 rfl) ?_
        refine lv_ishl hC.1 hC.2.1 dL_isSo_242 ?_
        refine lv_icmp_ge (tgt := 275) hC.1 hC.2.1 dL_isSo_243 (by decide) (fun c56 => ?_) (fun c56 => ?_)
        · replace h := h.1 c56
          refine lv_iconst (v := 0) hC.1 hC.2.1 dL_isSo_275 (by decide) ?_
          exact ag_zret hC hr hlocks G rfl h dL_isSo_276
        · replace h := h.2 c56
          refine lv_iload hC.1 hC.2.1 dL_isSo_246 (lv_at hl 8 rfl) ?_
          refine lv_if_gt (tgt := 275) hC.1 hC.2.1 dL_isSo_248 (by decide) (fun c57 => ?_) (fun c57 => ?_)
          · replace h := h.1 c57
            refine lv_iconst (v := 0) hC.1 hC.2.1 dL_isSo_275 (by decide) ?_
            exact ag_zret hC hr hlocks G rfl h dL_isSo_276
          · replace h := h.2 c57
            refine lv_aload_n hC.1 hC.2.1 dL_isSo_251 rfl (lv_at hl 0 rfl) ?_
            refine lv_iload_n hC.1 hC.2.1 dL_isSo_252 rfl (lv_at hl 3 rfl) ?_
            refine lv_bipush (v := 8) hC.1 hC.2.1 dL_isSo_253 (by decide) ?_
            refine ag_i G (ag_runV (As := [.int v3, .int 8]) (rest := []) hC hT G (c_N_X7_ofWedding l D cy lay h _) (cwV 2 hC.2.2.2.2 gL_isSo_X7_ofWedding rfl rfl rfl hdV_X7_ofWedding ⟨Nat.le_of_ble_eq_true rfl, Nat.le_of_ble_eq_true rfl⟩) (ag_recv hT G (by decide) e_ag k_X7) rfl hl.1 rfl (Nat.le_of_ble_eq_true rfl) dL_isSo_255 ⟨Nat.le_of_ble_eq_true rfl, Nat.le_of_ble_eq_true rfl⟩) (fun r59 σ58 H locs h G => ?_)
            (try dsimp only at h)
            refine lv_bipush (v := 50) hC.1 hC.2.1 dL_isSo_258 (by decide) ?_
            refine lv_icmp_lt (tgt := 275) hC.1 hC.2.1 dL_isSo_260 (by decide) (fun c60 => ?_) (fun c60 => ?_)
            · replace h := h.1 c60
              refine lv_iconst (v := 0) hC.1 hC.2.1 dL_isSo_275 (by decide) ?_
              exact ag_zret hC hr hlocks G rfl h dL_isSo_276
            · replace h := h.2 c60
              refine lv_aload_n hC.1 hC.2.1 dL_isSo_263 rfl (lv_at hl 0 rfl) ?_
              refine lv_iload_n hC.1 hC.2.1 dL_isSo_264 rfl (lv_at hl 3 rfl) ?_
              refine lv_bipush (v := 12) hC.1 hC.2.1 dL_isSo_265 (by decide) ?_
              refine ag_i G (ag_runV (As := [.int v3, .int 12]) (rest := []) hC hT G (c_N_X7_ofWedding l D cy lay h _) (cwV 2 hC.2.2.2.2 gL_isSo_X7_ofWedding rfl rfl rfl hdV_X7_ofWedding ⟨Nat.le_of_ble_eq_true rfl, Nat.le_of_ble_eq_true rfl⟩) (ag_recv hT G (by decide) e_ag k_X7) rfl hl.1 rfl (Nat.le_of_ble_eq_true rfl) dL_isSo_267 ⟨Nat.le_of_ble_eq_true rfl, Nat.le_of_ble_eq_true rfl⟩) (fun r62 σ61 H locs h G => ?_)
              (try dsimp only at h)
              refine lv_bipush (v := 16) hC.1 hC.2.1 dL_isSo_270 (by decide) ?_
              refine lv_icmp_le (tgt := 277) hC.1 hC.2.1 dL_isSo_272 (by decide) (fun c63 => ?_) (fun c63 => ?_)
              · replace h := h.1 c63
                refine lv_iconst (v := 0) hC.1 hC.2.1 dL_isSo_277 (by decide) ?_
                refine lv_istore (lv' := [(9, .int 0), (0, .ref (lay 0)), (1, .int v1), (2, .int v2), (3, .int v3), (4, .int v4), (5, .int v5), (6, .int v6), (7, .int v7), (8, .int v8)]) hC.1 hC.2.1 dL_isSo_278 hl (by decide) rfl (fun ls hl => ?_)
                obtain ⟨n1, h⟩ := h
                exact l_L_isSo_280 K10 hC hr hlocks hT hK10 n1 _ _ _ _ _ _ _ h _ _ _ G (lv_sub hl [1, 2, 3, 4, 5, 7, 0] rfl)
              · replace h := h.2 c63
                refine lv_iconst (v := 0) hC.1 hC.2.1 dL_isSo_275 (by decide) ?_
                exact ag_zret hC hr hlocks G rfl h dL_isSo_276
    · replace h := h.2 c52
      refine lv_iload hC.1 hC.2.1 dL_isSo_184 (lv_at hl 8 rfl) ?_
      refine lv_iload hC.1 hC.2.1 dL_isSo_186 (lv_at hl 5 rfl) ?_
      refine lv_iload hC.1 hC.2.1 dL_isSo_188 (lv_at hl 9 rfl) ?_
      refine lv_ishr hC.1 hC.2.1 dL_isSo_190 ?_
      refine lv_iconst (v := 1) hC.1 hC.2.1 dL_isSo_191 (by decide) ?_
      refine lv_iand hC.1 hC.2.1 dL_isSo_192 ?_
      refine lv_iconst (v := 1) hC.1 hC.2.1 dL_isSo_193 (by decide) ?_
      refine lv_icmp_ne (tgt := 218) hC.1 hC.2.1 dL_isSo_194 (by decide) (fun c77 => ?_) (fun c77 => ?_)
      · replace h := h.2 c77
        refine lv_iconst (v := 0) hC.1 hC.2.1 dL_isSo_218 (by decide) ?_
        refine lv_iadd hC.1 hC.2.1 dL_isSo_219 ?_
        refine lv_istore (lv' := [(8, .int (v8 + 0)), (0, .ref (lay 0)), (1, .int v1), (2, .int v2), (3, .int v3), (4, .int v4), (5, .int v5), (6, .int v6), (7, .int v7), (9, .int v9)]) hC.1 hC.2.1 dL_isSo_220 hl (by decide) rfl (fun ls hl => ?_)
        refine lv_iinc (v := v9 + 1) (lv' := [(9, .int (v9 + 1)), (8, .int (v8 + 0)), (0, .ref (lay 0)), (1, .int v1), (2, .int v2), (3, .int v3), (4, .int v4), (5, .int v5), (6, .int v6), (7, .int v7)]) hC.1 hC.2.1 dL_isSo_222 hl (k := 9) rfl rfl (by decide) rfl (fun ls hl => ?_)
        refine lv_goto (tgt := 178) hC.1 hC.2.1 dL_isSo_225 (by decide) ?_
        exact ih _ _ _ _ _ _ _ _ _ _ h _ _ _ G (lv_sub hl [2, 3, 4, 5, 6, 7, 8, 9, 1, 0] rfl)
      · replace h := h.1 c77
        refine lv_aload_n hC.1 hC.2.1 dL_isSo_197 rfl (lv_at hl 0 rfl) ?_
        refine lv_iload hC.1 hC.2.1 dL_isSo_198 (lv_at hl 9 rfl) ?_
        refine lv_iconst (v := 0) hC.1 hC.2.1 dL_isSo_200 (by decide) ?_
        refine ag_i G (ag_runV (As := [.int v9, .int 0]) (rest := [.int v8]) hC hT G (c_N_X7_ofPlayer l D cy lay h _) (cwV 2 hC.2.2.2.2 gL_isSo_X7_ofPlayer rfl rfl rfl hdV_X7_ofPlayer ⟨Nat.le_of_ble_eq_true rfl, Nat.le_of_ble_eq_true rfl⟩) (ag_recv hT G (by decide) e_ag k_X7) rfl hl.1 rfl (Nat.le_of_ble_eq_true rfl) dL_isSo_201 ⟨Nat.le_of_ble_eq_true rfl, Nat.le_of_ble_eq_true rfl⟩) (fun r79 σ78 H locs h G => ?_)
        (try dsimp only at h)
        refine lv_aload_n hC.1 hC.2.1 dL_isSo_204 rfl (lv_at hl 0 rfl) ?_
        refine lv_iload hC.1 hC.2.1 dL_isSo_205 (lv_at hl 6 rfl) ?_
        refine ag_i G (ag_runS (As := [.ref (lay 0), .int v6]) (rest := [.int r79, .int v8]) hC hT G (c_L_instruments l D cy lay h _) (va_cwS 2 hC.2.2.2.2 gL_isSo_L_instruments rfl rfl rfl hdS_L_instruments ⟨Nat.le_of_ble_eq_true rfl, Nat.le_of_ble_eq_true rfl⟩) rfl hl.1 rfl (Nat.le_of_ble_eq_true rfl) dL_isSo_207 ⟨Nat.le_of_ble_eq_true rfl, Nat.le_of_ble_eq_true rfl⟩) (fun r81 σ80 H locs h G => ?_)
        (try dsimp only at h)
        refine lv_iand hC.1 hC.2.1 dL_isSo_210 ?_
        refine lv_if_ne (tgt := 218) hC.1 hC.2.1 dL_isSo_211 (by decide) (fun c82 => ?_) (fun c82 => ?_)
        · replace h := h.2 c82
          refine lv_iconst (v := 0) hC.1 hC.2.1 dL_isSo_218 (by decide) ?_
          refine lv_iadd hC.1 hC.2.1 dL_isSo_219 ?_
          refine lv_istore (lv' := [(8, .int (v8 + 0)), (0, .ref (lay 0)), (1, .int v1), (2, .int v2), (3, .int v3), (4, .int v4), (5, .int v5), (6, .int v6), (7, .int v7), (9, .int v9)]) hC.1 hC.2.1 dL_isSo_220 hl (by decide) rfl (fun ls hl => ?_)
          refine lv_iinc (v := v9 + 1) (lv' := [(9, .int (v9 + 1)), (8, .int (v8 + 0)), (0, .ref (lay 0)), (1, .int v1), (2, .int v2), (3, .int v3), (4, .int v4), (5, .int v5), (6, .int v6), (7, .int v7)]) hC.1 hC.2.1 dL_isSo_222 hl (k := 9) rfl rfl (by decide) rfl (fun ls hl => ?_)
          refine lv_goto (tgt := 178) hC.1 hC.2.1 dL_isSo_225 (by decide) ?_
          exact ih _ _ _ _ _ _ _ _ _ _ h _ _ _ G (lv_sub hl [2, 3, 4, 5, 6, 7, 8, 9, 1, 0] rfl)
        · replace h := h.1 c82
          refine lv_iconst (v := 1) hC.1 hC.2.1 dL_isSo_214 (by decide) ?_
          refine lv_goto (tgt := 219) hC.1 hC.2.1 dL_isSo_215 (by decide) ?_
          refine lv_iadd hC.1 hC.2.1 dL_isSo_219 ?_
          refine lv_istore (lv' := [(8, .int (v8 + 1)), (0, .ref (lay 0)), (1, .int v1), (2, .int v2), (3, .int v3), (4, .int v4), (5, .int v5), (6, .int v6), (7, .int v7), (9, .int v9)]) hC.1 hC.2.1 dL_isSo_220 hl (by decide) rfl (fun ls hl => ?_)
          refine lv_iinc (v := v9 + 1) (lv' := [(9, .int (v9 + 1)), (8, .int (v8 + 1)), (0, .ref (lay 0)), (1, .int v1), (2, .int v2), (3, .int v3), (4, .int v4), (5, .int v5), (6, .int v6), (7, .int v7)]) hC.1 hC.2.1 dL_isSo_222 hl (k := 9) rfl rfl (by decide) rfl (fun ls hl => ?_)
          refine lv_goto (tgt := 178) hC.1 hC.2.1 dL_isSo_225 (by decide) ?_
          exact ih _ _ _ _ _ _ _ _ _ _ h _ _ _ G (lv_sub hl [2, 3, 4, 5, 6, 7, 8, 9, 1, 0] rfl)
def u_L_isSo_162 (post : Int32 → MS → Prop) (K10 : MS → Int32 → Int32 → Int32 → Prop) (σ : MS) (v1 : Int32) (v2 : Int32) (v3 : Int32) (v4 : Int32) (v5 : Int32) (v6 : Int32) : Prop := w_N_X7_ofBand (fun r51 σ50 => (∃ k, u_L_isSo_178 post K10 k σ50 v1 v2 v3 v4 v5 v6 r51 0 0)) σ v6 6
set_option maxHeartbeats 4000000 in
set_option maxRecDepth 100000 in
theorem l_L_isSo_162 {p : Program} {l : Launch} {e : Env} {s : State} {m : MethodId} {args : Array Value} {below : List Frame} {meth : Method} {c : Code} {D : va_G} {cy : Nat → ClassId} {lay : Nat → Nat} {post : Int32 → MS → Prop} (K10 : MS → Int32 → Int32 → Int32 → Prop) (hC : CallFix p m c cL_isSo 10 s args wsL_isSo RL) (hr : meth.sig.returnType = some .boolean) (hlocks : meth.locks = false) (hT : agT D cy lay s) (hK10 : ∀ (σ : MS) (v1 : Int32) (v2 : Int32) (v3 : Int32), K10 σ v1 v2 v3 → ∀ (H : Heap) (locs : List Loc) (ls : Array Slot), agG D cy lay σ (agA lay s.heap.size) s.heap H locs → lv_has ls 10 [(0, .ref (lay 0)), (1, .int v1), (2, .int v2), (3, .int v3)] → W p l e rm_L_isSo s m args below meth c H locs 0 0 (MQ below (va_Qi post (agO D cy lay) (agA lay s.heap.size)) args s 0 0 (agA lay s.heap.size)) (F0 m 10 ls [])) : ∀ (σ : MS) (v1 : Int32) (v2 : Int32) (v3 : Int32) (v4 : Int32) (v5 : Int32) (v6 : Int32), u_L_isSo_162 post K10 σ v1 v2 v3 v4 v5 v6 → ∀ (H : Heap) (locs : List Loc) (ls : Array Slot), agG D cy lay σ (agA lay s.heap.size) s.heap H locs → lv_has ls 10 [(0, .ref (lay 0)), (1, .int v1), (2, .int v2), (3, .int v3), (4, .int v4), (5, .int v5), (6, .int v6)] → W p l e rm_L_isSo s m args below meth c H locs 0 0 (MQ below (va_Qi post (agO D cy lay) (agA lay s.heap.size)) args s 0 0 (agA lay s.heap.size)) (F0 m 162 ls []) := by
  intro σ v1 v2 v3 v4 v5 v6 h H locs ls G hl
  unfold u_L_isSo_162 at h
  refine lv_aload_n hC.1 hC.2.1 dL_isSo_162 rfl (lv_at hl 0 rfl) ?_
  refine lv_iload hC.1 hC.2.1 dL_isSo_163 (lv_at hl 6 rfl) ?_
  refine lv_bipush (v := 6) hC.1 hC.2.1 dL_isSo_165 (by decide) ?_
  refine ag_i G (ag_runV (As := [.int v6, .int 6]) (rest := []) hC hT G (c_N_X7_ofBand l D cy lay h _) (cwV 2 hC.2.2.2.2 gL_isSo_X7_ofBand rfl rfl rfl hdV_X7_ofBand ⟨Nat.le_of_ble_eq_true rfl, Nat.le_of_ble_eq_true rfl⟩) (ag_recv hT G (by decide) e_ag k_X7) rfl hl.1 rfl (Nat.le_of_ble_eq_true rfl) dL_isSo_167 ⟨Nat.le_of_ble_eq_true rfl, Nat.le_of_ble_eq_true rfl⟩) (fun r51 σ50 H locs h G => ?_)
  (try dsimp only at h)
  refine lv_istore (lv' := [(7, .int r51), (0, .ref (lay 0)), (1, .int v1), (2, .int v2), (3, .int v3), (4, .int v4), (5, .int v5), (6, .int v6)]) hC.1 hC.2.1 dL_isSo_170 hl (by decide) rfl (fun ls hl => ?_)
  refine lv_iconst (v := 0) hC.1 hC.2.1 dL_isSo_172 (by decide) ?_
  refine lv_istore (lv' := [(8, .int 0), (7, .int r51), (0, .ref (lay 0)), (1, .int v1), (2, .int v2), (3, .int v3), (4, .int v4), (5, .int v5), (6, .int v6)]) hC.1 hC.2.1 dL_isSo_173 hl (by decide) rfl (fun ls hl => ?_)
  refine lv_iconst (v := 0) hC.1 hC.2.1 dL_isSo_175 (by decide) ?_
  refine lv_istore (lv' := [(9, .int 0), (8, .int 0), (7, .int r51), (0, .ref (lay 0)), (1, .int v1), (2, .int v2), (3, .int v3), (4, .int v4), (5, .int v5), (6, .int v6)]) hC.1 hC.2.1 dL_isSo_176 hl (by decide) rfl (fun ls hl => ?_)
  obtain ⟨n1, h⟩ := h
  exact l_L_isSo_178 K10 hC hr hlocks hT hK10 n1 _ _ _ _ _ _ _ _ _ _ h _ _ _ G (lv_sub hl [3, 4, 5, 6, 7, 8, 9, 2, 1, 0] rfl)
def u_L_isSo_147 (post : Int32 → MS → Prop) (K10 : MS → Int32 → Int32 → Int32 → Prop) (σ : MS) (v1 : Int32) (v2 : Int32) (v3 : Int32) (v4 : Int32) (v5 : Int32) (v6 : Int32) : Prop := ((v4 = 1 → u_L_isSo_162 post K10 σ v1 v2 v3 v4 v5 v6) ∧ (¬ v4 = 1 → ((v4 = 2 → u_L_isSo_162 post K10 σ v1 v2 v3 v4 v5 v6) ∧ (¬ v4 = 2 → K10 σ v1 v2 (v3 + 1)))))
set_option maxHeartbeats 4000000 in
set_option maxRecDepth 100000 in
theorem l_L_isSo_147 {p : Program} {l : Launch} {e : Env} {s : State} {m : MethodId} {args : Array Value} {below : List Frame} {meth : Method} {c : Code} {D : va_G} {cy : Nat → ClassId} {lay : Nat → Nat} {post : Int32 → MS → Prop} (K10 : MS → Int32 → Int32 → Int32 → Prop) (hC : CallFix p m c cL_isSo 10 s args wsL_isSo RL) (hr : meth.sig.returnType = some .boolean) (hlocks : meth.locks = false) (hT : agT D cy lay s) (hK10 : ∀ (σ : MS) (v1 : Int32) (v2 : Int32) (v3 : Int32), K10 σ v1 v2 v3 → ∀ (H : Heap) (locs : List Loc) (ls : Array Slot), agG D cy lay σ (agA lay s.heap.size) s.heap H locs → lv_has ls 10 [(0, .ref (lay 0)), (1, .int v1), (2, .int v2), (3, .int v3)] → W p l e rm_L_isSo s m args below meth c H locs 0 0 (MQ below (va_Qi post (agO D cy lay) (agA lay s.heap.size)) args s 0 0 (agA lay s.heap.size)) (F0 m 10 ls [])) : ∀ (σ : MS) (v1 : Int32) (v2 : Int32) (v3 : Int32) (v4 : Int32) (v5 : Int32) (v6 : Int32), u_L_isSo_147 post K10 σ v1 v2 v3 v4 v5 v6 → ∀ (H : Heap) (locs : List Loc) (ls : Array Slot), agG D cy lay σ (agA lay s.heap.size) s.heap H locs → lv_has ls 10 [(0, .ref (lay 0)), (1, .int v1), (2, .int v2), (3, .int v3), (4, .int v4), (5, .int v5), (6, .int v6)] → W p l e rm_L_isSo s m args below meth c H locs 0 0 (MQ below (va_Qi post (agO D cy lay) (agA lay s.heap.size)) args s 0 0 (agA lay s.heap.size)) (F0 m 147 ls []) := by
  intro σ v1 v2 v3 v4 v5 v6 h H locs ls G hl
  unfold u_L_isSo_147 at h
  refine lv_iload hC.1 hC.2.1 dL_isSo_147 (lv_at hl 4 rfl) ?_
  refine lv_iconst (v := 1) hC.1 hC.2.1 dL_isSo_149 (by decide) ?_
  refine lv_icmp_eq (tgt := 162) hC.1 hC.2.1 dL_isSo_150 (by decide) (fun c49 => ?_) (fun c49 => ?_)
  · replace h := h.1 c49
    exact l_L_isSo_162 K10 hC hr hlocks hT hK10 _ _ _ _ _ _ _ h _ _ _ G (lv_sub hl [0, 1, 2, 3, 4, 5, 6] rfl)
  · replace h := h.2 c49
    refine lv_iload hC.1 hC.2.1 dL_isSo_153 (lv_at hl 4 rfl) ?_
    refine lv_iconst (v := 2) hC.1 hC.2.1 dL_isSo_155 (by decide) ?_
    refine lv_icmp_eq (tgt := 162) hC.1 hC.2.1 dL_isSo_156 (by decide) (fun c83 => ?_) (fun c83 => ?_)
    · replace h := h.1 c83
      exact l_L_isSo_162 K10 hC hr hlocks hT hK10 _ _ _ _ _ _ _ h _ _ _ G (lv_sub hl [0, 1, 2, 3, 4, 5, 6] rfl)
    · replace h := h.2 c83
      refine lv_goto (tgt := 340) hC.1 hC.2.1 dL_isSo_159 (by decide) ?_
      refine lv_iinc (v := v3 + 1) (lv' := [(3, .int (v3 + 1)), (0, .ref (lay 0)), (1, .int v1), (2, .int v2), (4, .int v4), (5, .int v5), (6, .int v6)]) hC.1 hC.2.1 dL_isSo_340 hl (k := 3) rfl rfl (by decide) rfl (fun ls hl => ?_)
      refine lv_goto (tgt := 10) hC.1 hC.2.1 dL_isSo_343 (by decide) ?_
      exact hK10 _ _ _ _ h _ _ _ G (lv_sub hl [1, 2, 3, 0] rfl)
def u_L_isSo_125 (post : Int32 → MS → Prop) (K10 : MS → Int32 → Int32 → Int32 → Prop) (σ : MS) (v1 : Int32) (v2 : Int32) (v3 : Int32) (v4 : Int32) (v5 : Int32) (v6 : Int32) : Prop := ((v4 = 2 → w_N_X7_ofWedding (fun r85 σ84 => w_N_X7_desk (fun r87 σ86 => ((r85 < r87 → u_L_isSo_147 post K10 σ86 v1 v2 v3 v4 v5 v6) ∧ (¬ r85 < r87 → post 0 σ86))) σ84 0) σ v3 1) ∧ (¬ v4 = 2 → u_L_isSo_147 post K10 σ v1 v2 v3 v4 v5 v6))
set_option maxHeartbeats 4000000 in
set_option maxRecDepth 100000 in
theorem l_L_isSo_125 {p : Program} {l : Launch} {e : Env} {s : State} {m : MethodId} {args : Array Value} {below : List Frame} {meth : Method} {c : Code} {D : va_G} {cy : Nat → ClassId} {lay : Nat → Nat} {post : Int32 → MS → Prop} (K10 : MS → Int32 → Int32 → Int32 → Prop) (hC : CallFix p m c cL_isSo 10 s args wsL_isSo RL) (hr : meth.sig.returnType = some .boolean) (hlocks : meth.locks = false) (hT : agT D cy lay s) (hK10 : ∀ (σ : MS) (v1 : Int32) (v2 : Int32) (v3 : Int32), K10 σ v1 v2 v3 → ∀ (H : Heap) (locs : List Loc) (ls : Array Slot), agG D cy lay σ (agA lay s.heap.size) s.heap H locs → lv_has ls 10 [(0, .ref (lay 0)), (1, .int v1), (2, .int v2), (3, .int v3)] → W p l e rm_L_isSo s m args below meth c H locs 0 0 (MQ below (va_Qi post (agO D cy lay) (agA lay s.heap.size)) args s 0 0 (agA lay s.heap.size)) (F0 m 10 ls [])) : ∀ (σ : MS) (v1 : Int32) (v2 : Int32) (v3 : Int32) (v4 : Int32) (v5 : Int32) (v6 : Int32), u_L_isSo_125 post K10 σ v1 v2 v3 v4 v5 v6 → ∀ (H : Heap) (locs : List Loc) (ls : Array Slot), agG D cy lay σ (agA lay s.heap.size) s.heap H locs → lv_has ls 10 [(0, .ref (lay 0)), (1, .int v1), (2, .int v2), (3, .int v3), (4, .int v4), (5, .int v5), (6, .int v6)] → W p l e rm_L_isSo s m args below meth c H locs 0 0 (MQ below (va_Qi post (agO D cy lay) (agA lay s.heap.size)) args s 0 0 (agA lay s.heap.size)) (F0 m 125 ls []) := by
  intro σ v1 v2 v3 v4 v5 v6 h H locs ls G hl
  unfold u_L_isSo_125 at h
  refine lv_iload hC.1 hC.2.1 dL_isSo_125 (lv_at hl 4 rfl) ?_
  refine lv_iconst (v := 2) hC.1 hC.2.1 dL_isSo_127 (by decide) ?_
  refine lv_icmp_ne (tgt := 147) hC.1 hC.2.1 dL_isSo_128 (by decide) (fun c48 => ?_) (fun c48 => ?_)
  · replace h := h.2 c48
    exact l_L_isSo_147 K10 hC hr hlocks hT hK10 _ _ _ _ _ _ _ h _ _ _ G (lv_sub hl [0, 1, 2, 3, 4, 5, 6] rfl)
  · replace h := h.1 c48
    refine lv_aload_n hC.1 hC.2.1 dL_isSo_131 rfl (lv_at hl 0 rfl) ?_
    refine lv_iload_n hC.1 hC.2.1 dL_isSo_132 rfl (lv_at hl 3 rfl) ?_
    refine lv_iconst (v := 1) hC.1 hC.2.1 dL_isSo_133 (by decide) ?_
    refine ag_i G (ag_runV (As := [.int v3, .int 1]) (rest := []) hC hT G (c_N_X7_ofWedding l D cy lay h _) (cwV 2 hC.2.2.2.2 gL_isSo_X7_ofWedding rfl rfl rfl hdV_X7_ofWedding ⟨Nat.le_of_ble_eq_true rfl, Nat.le_of_ble_eq_true rfl⟩) (ag_recv hT G (by decide) e_ag k_X7) rfl hl.1 rfl (Nat.le_of_ble_eq_true rfl) dL_isSo_134 ⟨Nat.le_of_ble_eq_true rfl, Nat.le_of_ble_eq_true rfl⟩) (fun r85 σ84 H locs h G => ?_)
    (try dsimp only at h)
    refine lv_aload_n hC.1 hC.2.1 dL_isSo_137 rfl (lv_at hl 0 rfl) ?_
    refine lv_iconst (v := 0) hC.1 hC.2.1 dL_isSo_138 (by decide) ?_
    refine ag_i G (ag_runV (As := [.int 0]) (rest := [.int r85]) hC hT G (c_N_X7_desk l D cy lay h _) (cwV 1 hC.2.2.2.2 gL_isSo_X7_desk rfl rfl rfl hdV_X7_desk ⟨Nat.le_of_ble_eq_true rfl, Nat.le_of_ble_eq_true rfl⟩) (ag_recv hT G (by decide) e_ag k_X7) rfl hl.1 rfl (Nat.le_of_ble_eq_true rfl) dL_isSo_139 ⟨Nat.le_of_ble_eq_true rfl, Nat.le_of_ble_eq_true rfl⟩) (fun r87 σ86 H locs h G => ?_)
    (try dsimp only at h)
    refine lv_icmp_lt (tgt := 147) hC.1 hC.2.1 dL_isSo_142 (by decide) (fun c88 => ?_) (fun c88 => ?_)
    · replace h := h.1 c88
      exact l_L_isSo_147 K10 hC hr hlocks hT hK10 _ _ _ _ _ _ _ h _ _ _ G (lv_sub hl [0, 1, 2, 3, 4, 5, 6] rfl)
    · replace h := h.2 c88
      refine lv_iconst (v := 0) hC.1 hC.2.1 dL_isSo_145 (by decide) ?_
      exact ag_zret hC hr hlocks G rfl h dL_isSo_146
def u_L_isSo_105 (post : Int32 → MS → Prop) (K10 : MS → Int32 → Int32 → Int32 → Prop) (σ : MS) (v1 : Int32) (v2 : Int32) (v3 : Int32) (v4 : Int32) (v5 : Int32) (v6 : Int32) : Prop := ((v4 = 1 → w_N_X7_ofWedding (fun r90 σ89 => w_N_X7_desk (fun r92 σ91 => ((r90 < r92 → post 0 σ91) ∧ (¬ r90 < r92 → u_L_isSo_125 post K10 σ91 v1 v2 v3 v4 v5 v6))) σ89 0) σ v3 1) ∧ (¬ v4 = 1 → u_L_isSo_125 post K10 σ v1 v2 v3 v4 v5 v6))
set_option maxHeartbeats 4000000 in
set_option maxRecDepth 100000 in
theorem l_L_isSo_105 {p : Program} {l : Launch} {e : Env} {s : State} {m : MethodId} {args : Array Value} {below : List Frame} {meth : Method} {c : Code} {D : va_G} {cy : Nat → ClassId} {lay : Nat → Nat} {post : Int32 → MS → Prop} (K10 : MS → Int32 → Int32 → Int32 → Prop) (hC : CallFix p m c cL_isSo 10 s args wsL_isSo RL) (hr : meth.sig.returnType = some .boolean) (hlocks : meth.locks = false) (hT : agT D cy lay s) (hK10 : ∀ (σ : MS) (v1 : Int32) (v2 : Int32) (v3 : Int32), K10 σ v1 v2 v3 → ∀ (H : Heap) (locs : List Loc) (ls : Array Slot), agG D cy lay σ (agA lay s.heap.size) s.heap H locs → lv_has ls 10 [(0, .ref (lay 0)), (1, .int v1), (2, .int v2), (3, .int v3)] → W p l e rm_L_isSo s m args below meth c H locs 0 0 (MQ below (va_Qi post (agO D cy lay) (agA lay s.heap.size)) args s 0 0 (agA lay s.heap.size)) (F0 m 10 ls [])) : ∀ (σ : MS) (v1 : Int32) (v2 : Int32) (v3 : Int32) (v4 : Int32) (v5 : Int32) (v6 : Int32), u_L_isSo_105 post K10 σ v1 v2 v3 v4 v5 v6 → ∀ (H : Heap) (locs : List Loc) (ls : Array Slot), agG D cy lay σ (agA lay s.heap.size) s.heap H locs → lv_has ls 10 [(0, .ref (lay 0)), (1, .int v1), (2, .int v2), (3, .int v3), (4, .int v4), (5, .int v5), (6, .int v6)] → W p l e rm_L_isSo s m args below meth c H locs 0 0 (MQ below (va_Qi post (agO D cy lay) (agA lay s.heap.size)) args s 0 0 (agA lay s.heap.size)) (F0 m 105 ls []) := by
  intro σ v1 v2 v3 v4 v5 v6 h H locs ls G hl
  unfold u_L_isSo_105 at h
  refine lv_iload hC.1 hC.2.1 dL_isSo_105 (lv_at hl 4 rfl) ?_
  refine lv_iconst (v := 1) hC.1 hC.2.1 dL_isSo_107 (by decide) ?_
  refine lv_icmp_ne (tgt := 125) hC.1 hC.2.1 dL_isSo_108 (by decide) (fun c47 => ?_) (fun c47 => ?_)
  · replace h := h.2 c47
    exact l_L_isSo_125 K10 hC hr hlocks hT hK10 _ _ _ _ _ _ _ h _ _ _ G (lv_sub hl [0, 1, 2, 3, 4, 5, 6] rfl)
  · replace h := h.1 c47
    refine lv_aload_n hC.1 hC.2.1 dL_isSo_111 rfl (lv_at hl 0 rfl) ?_
    refine lv_iload_n hC.1 hC.2.1 dL_isSo_112 rfl (lv_at hl 3 rfl) ?_
    refine lv_iconst (v := 1) hC.1 hC.2.1 dL_isSo_113 (by decide) ?_
    refine ag_i G (ag_runV (As := [.int v3, .int 1]) (rest := []) hC hT G (c_N_X7_ofWedding l D cy lay h _) (cwV 2 hC.2.2.2.2 gL_isSo_X7_ofWedding rfl rfl rfl hdV_X7_ofWedding ⟨Nat.le_of_ble_eq_true rfl, Nat.le_of_ble_eq_true rfl⟩) (ag_recv hT G (by decide) e_ag k_X7) rfl hl.1 rfl (Nat.le_of_ble_eq_true rfl) dL_isSo_114 ⟨Nat.le_of_ble_eq_true rfl, Nat.le_of_ble_eq_true rfl⟩) (fun r90 σ89 H locs h G => ?_)
    (try dsimp only at h)
    refine lv_aload_n hC.1 hC.2.1 dL_isSo_117 rfl (lv_at hl 0 rfl) ?_
    refine lv_iconst (v := 0) hC.1 hC.2.1 dL_isSo_118 (by decide) ?_
    refine ag_i G (ag_runV (As := [.int 0]) (rest := [.int r90]) hC hT G (c_N_X7_desk l D cy lay h _) (cwV 1 hC.2.2.2.2 gL_isSo_X7_desk rfl rfl rfl hdV_X7_desk ⟨Nat.le_of_ble_eq_true rfl, Nat.le_of_ble_eq_true rfl⟩) (ag_recv hT G (by decide) e_ag k_X7) rfl hl.1 rfl (Nat.le_of_ble_eq_true rfl) dL_isSo_119 ⟨Nat.le_of_ble_eq_true rfl, Nat.le_of_ble_eq_true rfl⟩) (fun r92 σ91 H locs h G => ?_)
    (try dsimp only at h)
    refine lv_icmp_lt (tgt := 145) hC.1 hC.2.1 dL_isSo_122 (by decide) (fun c93 => ?_) (fun c93 => ?_)
    · replace h := h.1 c93
      refine lv_iconst (v := 0) hC.1 hC.2.1 dL_isSo_145 (by decide) ?_
      exact ag_zret hC hr hlocks G rfl h dL_isSo_146
    · replace h := h.2 c93
      exact l_L_isSo_125 K10 hC hr hlocks hT hK10 _ _ _ _ _ _ _ h _ _ _ G (lv_sub hl [0, 1, 2, 3, 4, 5, 6] rfl)
def u_L_isSo_89 (post : Int32 → MS → Prop) (K10 : MS → Int32 → Int32 → Int32 → Prop) (σ : MS) (v1 : Int32) (v2 : Int32) (v3 : Int32) (v4 : Int32) (v5 : Int32) (v6 : Int32) : Prop := ((v4 = 0 → u_L_isSo_105 post K10 σ v1 v2 v3 v4 v5 v6) ∧ (¬ v4 = 0 → w_N_X7_ofWedding (fun r95 σ94 => ((r95 = (-1) → u_L_isSo_105 post K10 σ94 v1 v2 v3 v4 v5 v6) ∧ (¬ r95 = (-1) → post 0 σ94))) σ v3 11))
set_option maxHeartbeats 4000000 in
set_option maxRecDepth 100000 in
theorem l_L_isSo_89 {p : Program} {l : Launch} {e : Env} {s : State} {m : MethodId} {args : Array Value} {below : List Frame} {meth : Method} {c : Code} {D : va_G} {cy : Nat → ClassId} {lay : Nat → Nat} {post : Int32 → MS → Prop} (K10 : MS → Int32 → Int32 → Int32 → Prop) (hC : CallFix p m c cL_isSo 10 s args wsL_isSo RL) (hr : meth.sig.returnType = some .boolean) (hlocks : meth.locks = false) (hT : agT D cy lay s) (hK10 : ∀ (σ : MS) (v1 : Int32) (v2 : Int32) (v3 : Int32), K10 σ v1 v2 v3 → ∀ (H : Heap) (locs : List Loc) (ls : Array Slot), agG D cy lay σ (agA lay s.heap.size) s.heap H locs → lv_has ls 10 [(0, .ref (lay 0)), (1, .int v1), (2, .int v2), (3, .int v3)] → W p l e rm_L_isSo s m args below meth c H locs 0 0 (MQ below (va_Qi post (agO D cy lay) (agA lay s.heap.size)) args s 0 0 (agA lay s.heap.size)) (F0 m 10 ls [])) : ∀ (σ : MS) (v1 : Int32) (v2 : Int32) (v3 : Int32) (v4 : Int32) (v5 : Int32) (v6 : Int32), u_L_isSo_89 post K10 σ v1 v2 v3 v4 v5 v6 → ∀ (H : Heap) (locs : List Loc) (ls : Array Slot), agG D cy lay σ (agA lay s.heap.size) s.heap H locs → lv_has ls 10 [(0, .ref (lay 0)), (1, .int v1), (2, .int v2), (3, .int v3), (4, .int v4), (5, .int v5), (6, .int v6)] → W p l e rm_L_isSo s m args below meth c H locs 0 0 (MQ below (va_Qi post (agO D cy lay) (agA lay s.heap.size)) args s 0 0 (agA lay s.heap.size)) (F0 m 89 ls []) := by
  intro σ v1 v2 v3 v4 v5 v6 h H locs ls G hl
  unfold u_L_isSo_89 at h
  refine lv_iload hC.1 hC.2.1 dL_isSo_89 (lv_at hl 4 rfl) ?_
  refine lv_if_eq (tgt := 105) hC.1 hC.2.1 dL_isSo_91 (by decide) (fun c46 => ?_) (fun c46 => ?_)
  · replace h := h.1 c46
    exact l_L_isSo_105 K10 hC hr hlocks hT hK10 _ _ _ _ _ _ _ h _ _ _ G (lv_sub hl [0, 1, 2, 3, 4, 5, 6] rfl)
  · replace h := h.2 c46
    refine lv_aload_n hC.1 hC.2.1 dL_isSo_94 rfl (lv_at hl 0 rfl) ?_
    refine lv_iload_n hC.1 hC.2.1 dL_isSo_95 rfl (lv_at hl 3 rfl) ?_
    refine lv_bipush (v := 11) hC.1 hC.2.1 dL_isSo_96 (by decide) ?_
    refine ag_i G (ag_runV (As := [.int v3, .int 11]) (rest := []) hC hT G (c_N_X7_ofWedding l D cy lay h _) (cwV 2 hC.2.2.2.2 gL_isSo_X7_ofWedding rfl rfl rfl hdV_X7_ofWedding ⟨Nat.le_of_ble_eq_true rfl, Nat.le_of_ble_eq_true rfl⟩) (ag_recv hT G (by decide) e_ag k_X7) rfl hl.1 rfl (Nat.le_of_ble_eq_true rfl) dL_isSo_98 ⟨Nat.le_of_ble_eq_true rfl, Nat.le_of_ble_eq_true rfl⟩) (fun r95 σ94 H locs h G => ?_)
    (try dsimp only at h)
    refine lv_iconst (v := (-1)) hC.1 hC.2.1 dL_isSo_101 (by decide) ?_
    refine lv_icmp_ne (tgt := 145) hC.1 hC.2.1 dL_isSo_102 (by decide) (fun c96 => ?_) (fun c96 => ?_)
    · replace h := h.2 c96
      refine lv_iconst (v := 0) hC.1 hC.2.1 dL_isSo_145 (by decide) ?_
      exact ag_zret hC hr hlocks G rfl h dL_isSo_146
    · replace h := h.1 c96
      exact l_L_isSo_105 K10 hC hr hlocks hT hK10 _ _ _ _ _ _ _ h _ _ _ G (lv_sub hl [0, 1, 2, 3, 4, 5, 6] rfl)
def u_L_isSo_10 (post : Int32 → MS → Prop) : Nat → MS → Int32 → Int32 → Int32 → Prop
  | 0, _, _, _, _ => False
  | n + 1, σ, v1, v2, v3 => w_N_X7_desk (fun r4 σ3 => ((r4 ≤ v3 → (∃ k, u_L_isSo_354 post k σ3 v1 v2 0 0 0)) ∧ (¬ r4 ≤ v3 → w_N_X7_ofWedding (fun r38 σ37 => w_N_X7_ofWedding (fun r40 σ39 => w_N_X7_ofWedding (fun r42 σ41 => w_N_X7_ofWedding (fun r44 σ43 => ((r38 = 0 → ((r40 = 0 → w_N_X7_ofWedding (fun r99 σ98 => ((r99 < 0 → post 0 σ98) ∧ (¬ r99 < 0 → w_N_X7_ofWedding (fun r102 σ101 => w_N_X7_desk (fun r104 σ103 => ((r102 < r104 → post 0 σ103) ∧ (¬ r102 < r104 → u_L_isSo_89 post (fun σ w0 w1 w2 => u_L_isSo_10 post n σ w0 w1 w2) σ103 v1 (v2 + r44) v3 r38 r40 r42))) σ101 0) σ98 v3 1))) σ43 v3 11) ∧ (¬ r40 = 0 → post 0 σ43))) ∧ (¬ r38 = 0 → u_L_isSo_89 post (fun σ w0 w1 w2 => u_L_isSo_10 post n σ w0 w1 w2) σ43 v1 (v2 + r44) v3 r38 r40 r42))) σ41 v3 10) σ39 v3 0) σ37 v3 7) σ3 v3 6))) σ 3
set_option maxHeartbeats 4000000 in
set_option maxRecDepth 100000 in
theorem l_L_isSo_10 {p : Program} {l : Launch} {e : Env} {s : State} {m : MethodId} {args : Array Value} {below : List Frame} {meth : Method} {c : Code} {D : va_G} {cy : Nat → ClassId} {lay : Nat → Nat} {post : Int32 → MS → Prop} (hC : CallFix p m c cL_isSo 10 s args wsL_isSo RL) (hr : meth.sig.returnType = some .boolean) (hlocks : meth.locks = false) (hT : agT D cy lay s) : ∀ (n : Nat), ∀ (σ : MS) (v1 : Int32) (v2 : Int32) (v3 : Int32), u_L_isSo_10 post n σ v1 v2 v3 → ∀ (H : Heap) (locs : List Loc) (ls : Array Slot), agG D cy lay σ (agA lay s.heap.size) s.heap H locs → lv_has ls 10 [(0, .ref (lay 0)), (1, .int v1), (2, .int v2), (3, .int v3)] → W p l e rm_L_isSo s m args below meth c H locs 0 0 (MQ below (va_Qi post (agO D cy lay) (agA lay s.heap.size)) args s 0 0 (agA lay s.heap.size)) (F0 m 10 ls []) := by
  intro n
  induction n with
  | zero =>
    intro σ v1 v2 v3 h
    exact h.elim
  | succ n ih =>
    intro σ v1 v2 v3 h H locs ls G hl
    rw [u_L_isSo_10] at h
    refine lv_iload_n hC.1 hC.2.1 dL_isSo_10 rfl (lv_at hl 3 rfl) ?_
    refine lv_aload_n hC.1 hC.2.1 dL_isSo_11 rfl (lv_at hl 0 rfl) ?_
    refine lv_iconst (v := 3) hC.1 hC.2.1 dL_isSo_12 (by decide) ?_
    refine ag_i G (ag_runV (As := [.int 3]) (rest := [.int v3]) hC hT G (c_N_X7_desk l D cy lay h _) (cwV 1 hC.2.2.2.2 gL_isSo_X7_desk rfl rfl rfl hdV_X7_desk ⟨Nat.le_of_ble_eq_true rfl, Nat.le_of_ble_eq_true rfl⟩) (ag_recv hT G (by decide) e_ag k_X7) rfl hl.1 rfl (Nat.le_of_ble_eq_true rfl) dL_isSo_13 ⟨Nat.le_of_ble_eq_true rfl, Nat.le_of_ble_eq_true rfl⟩) (fun r4 σ3 H locs h G => ?_)
    (try dsimp only at h)
    refine lv_icmp_ge (tgt := 346) hC.1 hC.2.1 dL_isSo_16 (by decide) (fun c5 => ?_) (fun c5 => ?_)
    · replace h := h.1 c5
      refine lv_iconst (v := 0) hC.1 hC.2.1 dL_isSo_346 (by decide) ?_
      refine lv_istore_n (lv' := [(3, .int 0), (0, .ref (lay 0)), (1, .int v1), (2, .int v2)]) hC.1 hC.2.1 dL_isSo_347 rfl hl (by decide) rfl (fun ls hl => ?_)
      refine lv_iconst (v := 0) hC.1 hC.2.1 dL_isSo_348 (by decide) ?_
      refine lv_istore (lv' := [(4, .int 0), (3, .int 0), (0, .ref (lay 0)), (1, .int v1), (2, .int v2)]) hC.1 hC.2.1 dL_isSo_349 hl (by decide) rfl (fun ls hl => ?_)
      refine lv_iconst (v := 0) hC.1 hC.2.1 dL_isSo_351 (by decide) ?_
      refine lv_istore (lv' := [(5, .int 0), (4, .int 0), (3, .int 0), (0, .ref (lay 0)), (1, .int v1), (2, .int v2)]) hC.1 hC.2.1 dL_isSo_352 hl (by decide) rfl (fun ls hl => ?_)
      obtain ⟨n1, h⟩ := h
      exact l_L_isSo_354 hC hr hlocks hT n1 _ _ _ _ _ _ h _ _ _ G (lv_sub hl [3, 4, 5, 2, 1, 0] rfl)
    · replace h := h.2 c5
      refine lv_aload_n hC.1 hC.2.1 dL_isSo_19 rfl (lv_at hl 0 rfl) ?_
      refine lv_iload_n hC.1 hC.2.1 dL_isSo_20 rfl (lv_at hl 3 rfl) ?_
      refine lv_bipush (v := 6) hC.1 hC.2.1 dL_isSo_21 (by decide) ?_
      refine ag_i G (ag_runV (As := [.int v3, .int 6]) (rest := []) hC hT G (c_N_X7_ofWedding l D cy lay h _) (cwV 2 hC.2.2.2.2 gL_isSo_X7_ofWedding rfl rfl rfl hdV_X7_ofWedding ⟨Nat.le_of_ble_eq_true rfl, Nat.le_of_ble_eq_true rfl⟩) (ag_recv hT G (by decide) e_ag k_X7) rfl hl.1 rfl (Nat.le_of_ble_eq_true rfl) dL_isSo_23 ⟨Nat.le_of_ble_eq_true rfl, Nat.le_of_ble_eq_true rfl⟩) (fun r38 σ37 H locs h G => ?_)
      (try dsimp only at h)
      refine lv_istore (lv' := [(4, .int r38), (0, .ref (lay 0)), (1, .int v1), (2, .int v2), (3, .int v3)]) hC.1 hC.2.1 dL_isSo_26 hl (by decide) rfl (fun ls hl => ?_)
      refine lv_aload_n hC.1 hC.2.1 dL_isSo_28 rfl (lv_at hl 1 rfl) ?_
      refine lv_iload_n hC.1 hC.2.1 dL_isSo_29 rfl (lv_at hl 4 rfl) ?_
      refine lv_bipush (v := 7) hC.1 hC.2.1 dL_isSo_30 (by decide) ?_
      refine ag_i G (ag_runV (As := [.int v3, .int 7]) (rest := []) hC hT G (c_N_X7_ofWedding l D cy lay h _) (cwV 2 hC.2.2.2.2 gL_isSo_X7_ofWedding rfl rfl rfl hdV_X7_ofWedding ⟨Nat.le_of_ble_eq_true rfl, Nat.le_of_ble_eq_true rfl⟩) (ag_recv hT G (by decide) e_ag k_X7) rfl hl.1 rfl (Nat.le_of_ble_eq_true rfl) dL_isSo_32 ⟨Nat.le_of_ble_eq_true rfl, Nat.le_of_ble_eq_true rfl⟩) (fun r40 σ39 H locs h G => ?_)
      (try dsimp only at h)
      refine lv_istore (lv' := [(5, .int r40), (4, .int r38), (0, .ref (lay 0)), (1, .int v1), (2, .int v2), (3, .int v3)]) hC.1 hC.2.1 dL_isSo_35 hl (by decide) rfl (fun ls hl => ?_)
      refine lv_aload_n hC.1 hC.2.1 dL_isSo_37 rfl (lv_at hl 2 rfl) ?_
      refine lv_iload_n hC.1 hC.2.1 dL_isSo_38 rfl (lv_at hl 5 rfl) ?_
      refine lv_iconst (v := 0) hC.1 hC.2.1 dL_isSo_39 (by decide) ?_
      refine ag_i G (ag_runV (As := [.int v3, .int 0]) (rest := []) hC hT G (c_N_X7_ofWedding l D cy lay h _) (cwV 2 hC.2.2.2.2 gL_isSo_X7_ofWedding rfl rfl rfl hdV_X7_ofWedding ⟨Nat.le_of_ble_eq_true rfl, Nat.le_of_ble_eq_true rfl⟩) (ag_recv hT G (by decide) e_ag k_X7) rfl hl.1 rfl (Nat.le_of_ble_eq_true rfl) dL_isSo_40 ⟨Nat.le_of_ble_eq_true rfl, Nat.le_of_ble_eq_true rfl⟩) (fun r42 σ41 H locs h G => ?_)
      (try dsimp only at h)
      refine lv_istore (lv' := [(6, .int r42), (5, .int r40), (4, .int r38), (0, .ref (lay 0)), (1, .int v1), (2, .int v2), (3, .int v3)]) hC.1 hC.2.1 dL_isSo_43 hl (by decide) rfl (fun ls hl => ?_)
      refine lv_iload_n hC.1 hC.2.1 dL_isSo_45 rfl (lv_at hl 5 rfl) ?_
      refine lv_aload_n hC.1 hC.2.1 dL_isSo_46 rfl (lv_at hl 3 rfl) ?_
      refine lv_iload_n hC.1 hC.2.1 dL_isSo_47 rfl (lv_at hl 6 rfl) ?_
      refine lv_bipush (v := 10) hC.1 hC.2.1 dL_isSo_48 (by decide) ?_
      refine ag_i G (ag_runV (As := [.int v3, .int 10]) (rest := [.int v2]) hC hT G (c_N_X7_ofWedding l D cy lay h _) (cwV 2 hC.2.2.2.2 gL_isSo_X7_ofWedding rfl rfl rfl hdV_X7_ofWedding ⟨Nat.le_of_ble_eq_true rfl, Nat.le_of_ble_eq_true rfl⟩) (ag_recv hT G (by decide) e_ag k_X7) rfl hl.1 rfl (Nat.le_of_ble_eq_true rfl) dL_isSo_50 ⟨Nat.le_of_ble_eq_true rfl, Nat.le_of_ble_eq_true rfl⟩) (fun r44 σ43 H locs h G => ?_)
      (try dsimp only at h)
      refine lv_iadd hC.1 hC.2.1 dL_isSo_53 ?_
      refine lv_istore_n (lv' := [(2, .int (v2 + r44)), (6, .int r42), (5, .int r40), (4, .int r38), (0, .ref (lay 0)), (1, .int v1), (3, .int v3)]) hC.1 hC.2.1 dL_isSo_54 rfl hl (by decide) rfl (fun ls hl => ?_)
      refine lv_iload hC.1 hC.2.1 dL_isSo_55 (lv_at hl 3 rfl) ?_
      refine lv_if_ne (tgt := 89) hC.1 hC.2.1 dL_isSo_57 (by decide) (fun c45 => ?_) (fun c45 => ?_)
      · replace h := h.2 c45
        exact l_L_isSo_89 (fun σ w0 w1 w2 => u_L_isSo_10 post n σ w0 w1 w2) hC hr hlocks hT ih _ _ _ _ _ _ _ h _ _ _ G (lv_sub hl [4, 5, 0, 6, 3, 2, 1] rfl)
      · replace h := h.1 c45
        refine lv_iload hC.1 hC.2.1 dL_isSo_60 (lv_at hl 2 rfl) ?_
        refine lv_if_ne (tgt := 145) hC.1 hC.2.1 dL_isSo_62 (by decide) (fun c97 => ?_) (fun c97 => ?_)
        · replace h := h.2 c97
          refine lv_iconst (v := 0) hC.1 hC.2.1 dL_isSo_145 (by decide) ?_
          exact ag_zret hC hr hlocks G rfl h dL_isSo_146
        · replace h := h.1 c97
          refine lv_aload_n hC.1 hC.2.1 dL_isSo_65 rfl (lv_at hl 4 rfl) ?_
          refine lv_iload_n hC.1 hC.2.1 dL_isSo_66 rfl (lv_at hl 6 rfl) ?_
          refine lv_bipush (v := 11) hC.1 hC.2.1 dL_isSo_67 (by decide) ?_
          refine ag_i G (ag_runV (As := [.int v3, .int 11]) (rest := []) hC hT G (c_N_X7_ofWedding l D cy lay h _) (cwV 2 hC.2.2.2.2 gL_isSo_X7_ofWedding rfl rfl rfl hdV_X7_ofWedding ⟨Nat.le_of_ble_eq_true rfl, Nat.le_of_ble_eq_true rfl⟩) (ag_recv hT G (by decide) e_ag k_X7) rfl hl.1 rfl (Nat.le_of_ble_eq_true rfl) dL_isSo_69 ⟨Nat.le_of_ble_eq_true rfl, Nat.le_of_ble_eq_true rfl⟩) (fun r99 σ98 H locs h G => ?_)
          (try dsimp only at h)
          refine lv_if_lt (tgt := 145) hC.1 hC.2.1 dL_isSo_72 (by decide) (fun c100 => ?_) (fun c100 => ?_)
          · replace h := h.1 c100
            refine lv_iconst (v := 0) hC.1 hC.2.1 dL_isSo_145 (by decide) ?_
            exact ag_zret hC hr hlocks G rfl h dL_isSo_146
          · replace h := h.2 c100
            refine lv_aload_n hC.1 hC.2.1 dL_isSo_75 rfl (lv_at hl 4 rfl) ?_
            refine lv_iload_n hC.1 hC.2.1 dL_isSo_76 rfl (lv_at hl 6 rfl) ?_
            refine lv_iconst (v := 1) hC.1 hC.2.1 dL_isSo_77 (by decide) ?_
            refine ag_i G (ag_runV (As := [.int v3, .int 1]) (rest := []) hC hT G (c_N_X7_ofWedding l D cy lay h _) (cwV 2 hC.2.2.2.2 gL_isSo_X7_ofWedding rfl rfl rfl hdV_X7_ofWedding ⟨Nat.le_of_ble_eq_true rfl, Nat.le_of_ble_eq_true rfl⟩) (ag_recv hT G (by decide) e_ag k_X7) rfl hl.1 rfl (Nat.le_of_ble_eq_true rfl) dL_isSo_78 ⟨Nat.le_of_ble_eq_true rfl, Nat.le_of_ble_eq_true rfl⟩) (fun r102 σ101 H locs h G => ?_)
            (try dsimp only at h)
            refine lv_aload_n hC.1 hC.2.1 dL_isSo_81 rfl (lv_at hl 4 rfl) ?_
            refine lv_iconst (v := 0) hC.1 hC.2.1 dL_isSo_82 (by decide) ?_
            refine ag_i G (ag_runV (As := [.int 0]) (rest := [.int r102]) hC hT G (c_N_X7_desk l D cy lay h _) (cwV 1 hC.2.2.2.2 gL_isSo_X7_desk rfl rfl rfl hdV_X7_desk ⟨Nat.le_of_ble_eq_true rfl, Nat.le_of_ble_eq_true rfl⟩) (ag_recv hT G (by decide) e_ag k_X7) rfl hl.1 rfl (Nat.le_of_ble_eq_true rfl) dL_isSo_83 ⟨Nat.le_of_ble_eq_true rfl, Nat.le_of_ble_eq_true rfl⟩) (fun r104 σ103 H locs h G => ?_)
            (try dsimp only at h)
            refine lv_icmp_lt (tgt := 145) hC.1 hC.2.1 dL_isSo_86 (by decide) (fun c105 => ?_) (fun c105 => ?_)
            · replace h := h.1 c105
              refine lv_iconst (v := 0) hC.1 hC.2.1 dL_isSo_145 (by decide) ?_
              exact ag_zret hC hr hlocks G rfl h dL_isSo_146
            · replace h := h.2 c105
              exact l_L_isSo_89 (fun σ w0 w1 w2 => u_L_isSo_10 post n σ w0 w1 w2) hC hr hlocks hT ih _ _ _ _ _ _ _ h _ _ _ G (lv_sub hl [4, 5, 0, 6, 3, 2, 1] rfl)
def w_L_isSo (post : Int32 → MS → Prop) (σ : MS) : Prop := w_N_X7_desk (fun r2 σ1 => (∃ k, u_L_isSo_10 post k σ1 r2 0 0)) σ 1
set_option maxHeartbeats 4000000 in
set_option maxRecDepth 100000 in
theorem c_L_isSo (l : Launch) (D : va_G) (cy : Nat → ClassId) (lay : Nat → Nat) {σ : MS} {post : Int32 → MS → Prop} (h : w_L_isSo post σ) (sz : Nat) : Met l yL_isSo wsL_isSo rm_L_isSo (va_Pc [.ref (lay 0)] (agI D cy lay σ sz)) (va_Qi post (agO D cy lay) (agA lay sz)) 0 0 (agA lay sz) := by
  refine ag_ofW (cc := cL_isSo) (maxL := 10) (ret := some .boolean) (own := RL) (Qc := fun sz => va_Qi post (agO D cy lay) (agA lay sz)) (by decide) rfl (Nat.le_of_ble_eq_true rfl) rfl ?_
  intro p e s m args below meth c ls hC hr hlocks hT G hl
  unfold w_L_isSo at h
  have hl : lv_has ls 10 [(0, .ref (lay 0))] := hl
  refine lv_aload_n hC.1 hC.2.1 dL_isSo_0 rfl (lv_at hl 0 rfl) ?_
  refine lv_iconst (v := 1) hC.1 hC.2.1 dL_isSo_1 (by decide) ?_
  refine ag_i G (ag_runV (As := [.int 1]) (rest := []) hC hT G (c_N_X7_desk l D cy lay h _) (cwV 1 hC.2.2.2.2 gL_isSo_X7_desk rfl rfl rfl hdV_X7_desk ⟨Nat.le_of_ble_eq_true rfl, Nat.le_of_ble_eq_true rfl⟩) (ag_recv hT G (by decide) e_ag k_X7) rfl hl.1 rfl (Nat.le_of_ble_eq_true rfl) dL_isSo_2 ⟨Nat.le_of_ble_eq_true rfl, Nat.le_of_ble_eq_true rfl⟩) (fun r2 σ1 H locs h G => ?_)
  (try dsimp only at h)
  refine lv_istore_n (lv' := [(1, .int r2), (0, .ref (lay 0))]) hC.1 hC.2.1 dL_isSo_5 rfl hl (by decide) rfl (fun ls hl => ?_)
  refine lv_iconst (v := 0) hC.1 hC.2.1 dL_isSo_6 (by decide) ?_
  refine lv_istore_n (lv' := [(2, .int 0), (1, .int r2), (0, .ref (lay 0))]) hC.1 hC.2.1 dL_isSo_7 rfl hl (by decide) rfl (fun ls hl => ?_)
  refine lv_iconst (v := 0) hC.1 hC.2.1 dL_isSo_8 (by decide) ?_
  refine lv_istore_n (lv' := [(3, .int 0), (2, .int 0), (1, .int r2), (0, .ref (lay 0))]) hC.1 hC.2.1 dL_isSo_9 rfl hl (by decide) rfl (fun ls hl => ?_)
  obtain ⟨n1, h⟩ := h
  exact l_L_isSo_10 hC hr hlocks hT n1 _ _ _ _ h _ _ _ G (lv_sub hl [3, 2, 1, 0] rfl)
theorem hdS_L_isSo : yL_isSo.cls ≠ "java/lang/invoke/MethodHandle" ∧ yL_isSo.cls ≠ "java/lang/invoke/VarHandle" ∧ (parseMethodDescriptor yL_isSo.desc).map (fun d => d.parameters.length) = some 1 := by decide +kernel
abbrev rm_L_asked : Room := { frames := 8, cells := 3, slots := 18, locals := 130 }
def u_L_asked_37 (post : MS → Prop) (a1 : Int32) (σ : MS) (v2 : Int32) (t0 : Int32) : Prop := w_N_X7_desk (fun r7 σ6 => w_L_below (fun r9 σ8 => w_N_X7_desk (fun r11 σ10 => w_L_below (fun r13 σ12 => w_L_below (fun r15 σ14 => w_L_below (fun r17 σ16 => w_T_X7_ask (fun r21 σ18 => post σ18) (fun E9 σ19 => E9 = "java/lang/IllegalStateException" ∧ w_N_X7_desk (fun r23 σ22 => post σ22) σ19 0) σ16 r9 (if (r11 + r13) < 365 then (r11 + r13) else 365) r15 v2 (1 + r17) t0) σ14 (a1 >>> (4 &&& 31)) (if (24 - v2) < 6 then (24 - v2) else 6)) σ12 (a1 >>> (9 &&& 31)) 4) σ10 (a1 >>> (2 &&& 31)) 4) σ8 0) σ6 a1 r7) σ 2
set_option maxHeartbeats 4000000 in
set_option maxRecDepth 100000 in
theorem l_L_asked_37 {p : Program} {l : Launch} {e : Env} {s : State} {m : MethodId} {args : Array Value} {below : List Frame} {meth : Method} {c : Code} {D : va_G} {cy : Nat → ClassId} {lay : Nat → Nat} {post : MS → Prop} (a1 : Int32) (hl0 : l.stackTraces = false) (hC : CallFix p m c cL_asked 5 s args wsL_asked RL) (hr : meth.sig.returnType = none) (hlocks : meth.locks = false) (htab : c.exceptionTable.toList = tableOf [(38, 98, 101, 58)]) (hT : agT D cy lay s) : ∀ (σ : MS) (v2 : Int32) (t0 : Int32), u_L_asked_37 post a1 σ v2 t0 → ∀ (H : Heap) (locs : List Loc) (ls : Array Slot), agG D cy lay σ (agA lay s.heap.size) s.heap H locs → lv_has ls 5 [(0, .ref (lay 0)), (1, .int a1), (2, .int v2)] → W p l e rm_L_asked s m args below meth c H locs 0 0 (MQ below (va_Qv post (agO D cy lay) (agA lay s.heap.size)) args s 3 18 (agA lay s.heap.size)) (F0 m 37 ls [.int t0]) := by
  intro σ v2 t0 h H locs ls G hl
  unfold u_L_asked_37 at h
  refine lv_istore_n (lv' := [(3, .int t0), (0, .ref (lay 0)), (1, .int a1), (2, .int v2)]) hC.1 hC.2.1 dL_asked_37 rfl hl (by decide) rfl (fun ls hl => ?_)
  refine lv_aload_n hC.1 hC.2.1 dL_asked_38 rfl (lv_at hl 1 rfl) ?_
  refine lv_iload_n hC.1 hC.2.1 dL_asked_39 rfl (lv_at hl 2 rfl) ?_
  refine lv_aload_n hC.1 hC.2.1 dL_asked_40 rfl (lv_at hl 1 rfl) ?_
  refine lv_iconst (v := 2) hC.1 hC.2.1 dL_asked_41 (by decide) ?_
  refine ag_i G (ag_runV (As := [.int 2]) (rest := [.int a1, .ref (lay 0)]) hC hT G (c_N_X7_desk l D cy lay h _) (cwV 1 hC.2.2.2.2 gL_asked_X7_desk rfl rfl rfl hdV_X7_desk ⟨Nat.le_of_ble_eq_true rfl, Nat.le_of_ble_eq_true rfl⟩) (ag_recv hT G (by decide) e_ag k_X7) rfl hl.1 rfl (Nat.le_of_ble_eq_true rfl) dL_asked_42 ⟨Nat.le_of_ble_eq_true rfl, Nat.le_of_ble_eq_true rfl⟩) (fun r7 σ6 H locs h G => ?_)
  (try dsimp only at h)
  refine ag_i G (ag_runS (As := [.int a1, .int r7]) (rest := [.ref (lay 0)]) hC hT G (c_L_below l D cy lay h _) (va_cwS 2 hC.2.2.2.2 gL_asked_L_below rfl rfl rfl hdS_L_below ⟨Nat.le_of_ble_eq_true rfl, Nat.le_of_ble_eq_true rfl⟩) rfl hl.1 rfl (Nat.le_of_ble_eq_true rfl) dL_asked_45 ⟨Nat.le_of_ble_eq_true rfl, Nat.le_of_ble_eq_true rfl⟩) (fun r9 σ8 H locs h G => ?_)
  (try dsimp only at h)
  refine lv_sipush (v := 365) hC.1 hC.2.1 dL_asked_48 (by decide) ?_
  refine lv_aload_n hC.1 hC.2.1 dL_asked_51 rfl (lv_at hl 1 rfl) ?_
  refine lv_iconst (v := 0) hC.1 hC.2.1 dL_asked_52 (by decide) ?_
  refine ag_i G (ag_runV (As := [.int 0]) (rest := [.int 365, .int r9, .ref (lay 0)]) hC hT G (c_N_X7_desk l D cy lay h _) (cwV 1 hC.2.2.2.2 gL_asked_X7_desk rfl rfl rfl hdV_X7_desk ⟨Nat.le_of_ble_eq_true rfl, Nat.le_of_ble_eq_true rfl⟩) (ag_recv hT G (by decide) e_ag k_X7) rfl hl.1 rfl (Nat.le_of_ble_eq_true rfl) dL_asked_53 ⟨Nat.le_of_ble_eq_true rfl, Nat.le_of_ble_eq_true rfl⟩) (fun r11 σ10 H locs h G => ?_)
  (try dsimp only at h)
  refine lv_iload_n hC.1 hC.2.1 dL_asked_56 rfl (lv_at hl 2 rfl) ?_
  refine lv_iconst (v := 2) hC.1 hC.2.1 dL_asked_57 (by decide) ?_
  refine lv_ishr hC.1 hC.2.1 dL_asked_58 ?_
  refine lv_iconst (v := 4) hC.1 hC.2.1 dL_asked_59 (by decide) ?_
  refine ag_i G (ag_runS (As := [.int (a1 >>> (2 &&& 31)), .int 4]) (rest := [.int r11, .int 365, .int r9, .ref (lay 0)]) hC hT G (c_L_below l D cy lay h _) (va_cwS 2 hC.2.2.2.2 gL_asked_L_below rfl rfl rfl hdS_L_below ⟨Nat.le_of_ble_eq_true rfl, Nat.le_of_ble_eq_true rfl⟩) rfl hl.1 rfl (Nat.le_of_ble_eq_true rfl) dL_asked_60 ⟨Nat.le_of_ble_eq_true rfl, Nat.le_of_ble_eq_true rfl⟩) (fun r13 σ12 H locs h G => ?_)
  (try dsimp only at h)
  refine lv_iadd hC.1 hC.2.1 dL_asked_63 ?_
  refine va_mmin hC.1 hC.2.1 (hC.2.2.1.trans hl.1.symm) hC.2.2.2.1 (hC.2.2.2.2 _ (wm 2 rfl)) (hC.2.2.2.2 _ (wm 3 rfl)) (hC.2.2.2.2 _ (wm 4 rfl)) (hC.2.2.2.2 _ (wm 5 rfl)) (Nat.le_of_ble_eq_true rfl) (Nat.le_of_ble_eq_true rfl) (Nat.le_of_ble_eq_true rfl) (Nat.le_of_ble_eq_true rfl) dL_asked_64 ?_
  refine lv_iload_n hC.1 hC.2.1 dL_asked_67 rfl (lv_at hl 2 rfl) ?_
  refine lv_bipush (v := 9) hC.1 hC.2.1 dL_asked_68 (by decide) ?_
  refine lv_ishr hC.1 hC.2.1 dL_asked_70 ?_
  refine lv_iconst (v := 4) hC.1 hC.2.1 dL_asked_71 (by decide) ?_
  refine ag_i G (ag_runS (As := [.int (a1 >>> (9 &&& 31)), .int 4]) (rest := [.int (if (r11 + r13) < 365 then (r11 + r13) else 365), .int r9, .ref (lay 0)]) hC hT G (c_L_below l D cy lay h _) (va_cwS 2 hC.2.2.2.2 gL_asked_L_below rfl rfl rfl hdS_L_below ⟨Nat.le_of_ble_eq_true rfl, Nat.le_of_ble_eq_true rfl⟩) rfl hl.1 rfl (Nat.le_of_ble_eq_true rfl) dL_asked_72 ⟨Nat.le_of_ble_eq_true rfl, Nat.le_of_ble_eq_true rfl⟩) (fun r15 σ14 H locs h G => ?_)
  (try dsimp only at h)
  refine lv_iload_n hC.1 hC.2.1 dL_asked_75 rfl (lv_at hl 3 rfl) ?_
  refine lv_iconst (v := 1) hC.1 hC.2.1 dL_asked_76 (by decide) ?_
  refine lv_iload_n hC.1 hC.2.1 dL_asked_77 rfl (lv_at hl 2 rfl) ?_
  refine lv_iconst (v := 4) hC.1 hC.2.1 dL_asked_78 (by decide) ?_
  refine lv_ishr hC.1 hC.2.1 dL_asked_79 ?_
  refine lv_bipush (v := 6) hC.1 hC.2.1 dL_asked_80 (by decide) ?_
  refine lv_bipush (v := 24) hC.1 hC.2.1 dL_asked_82 (by decide) ?_
  refine lv_iload_n hC.1 hC.2.1 dL_asked_84 rfl (lv_at hl 3 rfl) ?_
  refine lv_isub hC.1 hC.2.1 dL_asked_85 ?_
  refine va_mmin hC.1 hC.2.1 (hC.2.2.1.trans hl.1.symm) hC.2.2.2.1 (hC.2.2.2.2 _ (wm 2 rfl)) (hC.2.2.2.2 _ (wm 3 rfl)) (hC.2.2.2.2 _ (wm 4 rfl)) (hC.2.2.2.2 _ (wm 5 rfl)) (Nat.le_of_ble_eq_true rfl) (Nat.le_of_ble_eq_true rfl) (Nat.le_of_ble_eq_true rfl) (Nat.le_of_ble_eq_true rfl) dL_asked_86 ?_
  refine ag_i G (ag_runS (As := [.int (a1 >>> (4 &&& 31)), .int (if (24 - v2) < 6 then (24 - v2) else 6)]) (rest := [.int 1, .int v2, .int r15, .int (if (r11 + r13) < 365 then (r11 + r13) else 365), .int r9, .ref (lay 0)]) hC hT G (c_L_below l D cy lay h _) (va_cwS 2 hC.2.2.2.2 gL_asked_L_below rfl rfl rfl hdS_L_below ⟨Nat.le_of_ble_eq_true rfl, Nat.le_of_ble_eq_true rfl⟩) rfl hl.1 rfl (Nat.le_of_ble_eq_true rfl) dL_asked_89 ⟨Nat.le_of_ble_eq_true rfl, Nat.le_of_ble_eq_true rfl⟩) (fun r17 σ16 H locs h G => ?_)
  (try dsimp only at h)
  refine lv_iadd hC.1 hC.2.1 dL_asked_92 ?_
  refine lv_iload_n hC.1 hC.2.1 dL_asked_93 rfl (lv_at hl 0 rfl) ?_
  refine ag_iC G (ag_runVT (As := [.int r9, .int (if (r11 + r13) < 365 then (r11 + r13) else 365), .int r15, .int v2, .int (1 + r17), .int t0]) (rest := []) hC hT G (c_T_X7_ask l hl0 D cy lay h _) (cwV 6 hC.2.2.2.2 gL_asked_X7_ask rfl rfl rfl hdV_X7_ask ⟨Nat.le_of_ble_eq_true rfl, Nat.le_of_ble_eq_true rfl⟩) (ag_recv hT G (by decide) e_ag k_X7) rfl hl.1 rfl (Nat.le_of_ble_eq_true rfl) dL_asked_94 ⟨Nat.le_of_ble_eq_true rfl, Nat.le_of_ble_eq_true rfl⟩) (fun E9 ce9 q20 σ19 H locs h G hc1 hc2 hc3 => ?_) (fun r21 σ18 H locs h G => ?_)
  · (try dsimp only at h)
    obtain ⟨rfl, h⟩ := h
    refine vx_catch (own := RL) (name := "java/lang/IllegalStateException") hC.2.2.2.1 [] ⟨38, 98, 101, 58⟩ [] htab (fun z hz => by cases hz) (by decide) (by decide) (hC.2.2.2.2 _ (wm 1 rfl)) (nest_use _ rfl (hT.2.1 _ (wm 5 rfl))) hc1 hc2 hc3 ?_
    refine lv_astore (lv' := [(4, .ref q20), (3, .int t0), (0, .ref (lay 0)), (1, .int a1), (2, .int v2)]) hC.1 hC.2.1 dL_asked_101 hl (by decide) rfl (fun ls hl => ?_)
    refine lv_aload_n hC.1 hC.2.1 dL_asked_103 rfl (lv_at hl 2 rfl) ?_
    refine lv_iconst (v := 0) hC.1 hC.2.1 dL_asked_104 (by decide) ?_
    refine ag_i G (ag_runV (As := [.int 0]) (rest := []) hC hT G (c_N_X7_desk l D cy lay h _) (cwV 1 hC.2.2.2.2 gL_asked_X7_desk rfl rfl rfl hdV_X7_desk ⟨Nat.le_of_ble_eq_true rfl, Nat.le_of_ble_eq_true rfl⟩) (ag_recv hT G (by decide) e_ag k_X7) rfl hl.1 rfl (Nat.le_of_ble_eq_true rfl) dL_asked_105 ⟨Nat.le_of_ble_eq_true rfl, Nat.le_of_ble_eq_true rfl⟩) (fun r23 σ22 H locs h G => ?_)
    (try dsimp only at h)
    refine lv_pop hC.1 hC.2.1 dL_asked_108 rfl ?_
    refine W.widen (k := 3) (n := 18) (by decide) (by decide) ?_
    exact ag_vret hC hr hlocks G h dL_asked_109
  (try dsimp only at h)
  refine lv_pop hC.1 hC.2.1 dL_asked_97 rfl ?_
  refine lv_goto (tgt := 109) hC.1 hC.2.1 dL_asked_98 (by decide) ?_
  refine W.widen (k := 3) (n := 18) (by decide) (by decide) ?_
  exact ag_vret hC hr hlocks G h dL_asked_109
def w_L_asked (post : MS → Prop) (σ : MS) (a1 : Int32) : Prop := w_L_below (fun r2 σ1 => w_L_below (fun r4 σ3 => ((r4 = 0 → w_L_below (fun r25 σ24 => u_L_asked_37 post a1 σ24 (10 + r2) (1 <<< (r25 &&& 31))) σ3 (a1 >>> (7 &&& 31)) 16) ∧ (¬ r4 = 0 → u_L_asked_37 post a1 σ3 (10 + r2) 0))) σ1 (a1 >>> (3 &&& 31)) 3) σ (a1 >>> (5 &&& 31)) 13
set_option maxHeartbeats 4000000 in
set_option maxRecDepth 100000 in
theorem c_L_asked (l : Launch) (hl0 : l.stackTraces = false) (D : va_G) (cy : Nat → ClassId) (lay : Nat → Nat) {σ : MS} {post : MS → Prop} {a1 : Int32} (h : w_L_asked post σ a1) (sz : Nat) : Met l yL_asked wsL_asked rm_L_asked (va_Pc [.ref (lay 0), .int a1] (agI D cy lay σ sz)) (va_Qv post (agO D cy lay) (agA lay sz)) 3 18 (agA lay sz) := by
  refine ag_ofH (cc := cL_asked) (maxL := 5) (ret := none) (own := RL) (Qc := fun sz => va_Qv post (agO D cy lay) (agA lay sz)) (hh := [(38, 98, 101, 58)]) (by decide) rfl (Nat.le_of_ble_eq_true rfl) rfl ?_
  intro p e s m args below meth c ls hC hr hlocks htab hT G hl
  unfold w_L_asked at h
  have hl : lv_has ls 5 [(0, .ref (lay 0)), (1, .int a1)] := hl
  refine lv_bipush (v := 10) hC.1 hC.2.1 dL_asked_0 (by decide) ?_
  refine lv_iload_n hC.1 hC.2.1 dL_asked_2 rfl (lv_at hl 1 rfl) ?_
  refine lv_iconst (v := 5) hC.1 hC.2.1 dL_asked_3 (by decide) ?_
  refine lv_ishr hC.1 hC.2.1 dL_asked_4 ?_
  refine lv_bipush (v := 13) hC.1 hC.2.1 dL_asked_5 (by decide) ?_
  refine ag_i G (ag_runS (As := [.int (a1 >>> (5 &&& 31)), .int 13]) (rest := [.int 10]) hC hT G (c_L_below l D cy lay h _) (va_cwS 2 hC.2.2.2.2 gL_asked_L_below rfl rfl rfl hdS_L_below ⟨Nat.le_of_ble_eq_true rfl, Nat.le_of_ble_eq_true rfl⟩) rfl hl.1 rfl (Nat.le_of_ble_eq_true rfl) dL_asked_7 ⟨Nat.le_of_ble_eq_true rfl, Nat.le_of_ble_eq_true rfl⟩) (fun r2 σ1 H locs h G => ?_)
  (try dsimp only at h)
  refine lv_iadd hC.1 hC.2.1 dL_asked_10 ?_
  refine lv_istore_n (lv' := [(2, .int (10 + r2)), (0, .ref (lay 0)), (1, .int a1)]) hC.1 hC.2.1 dL_asked_11 rfl hl (by decide) rfl (fun ls hl => ?_)
  refine lv_iload_n hC.1 hC.2.1 dL_asked_12 rfl (lv_at hl 2 rfl) ?_
  refine lv_iconst (v := 3) hC.1 hC.2.1 dL_asked_13 (by decide) ?_
  refine lv_ishr hC.1 hC.2.1 dL_asked_14 ?_
  refine lv_iconst (v := 3) hC.1 hC.2.1 dL_asked_15 (by decide) ?_
  refine ag_i G (ag_runS (As := [.int (a1 >>> (3 &&& 31)), .int 3]) (rest := []) hC hT G (c_L_below l D cy lay h _) (va_cwS 2 hC.2.2.2.2 gL_asked_L_below rfl rfl rfl hdS_L_below ⟨Nat.le_of_ble_eq_true rfl, Nat.le_of_ble_eq_true rfl⟩) rfl hl.1 rfl (Nat.le_of_ble_eq_true rfl) dL_asked_16 ⟨Nat.le_of_ble_eq_true rfl, Nat.le_of_ble_eq_true rfl⟩) (fun r4 σ3 H locs h G => ?_)
  (try dsimp only at h)
  refine lv_if_ne (tgt := 36) hC.1 hC.2.1 dL_asked_19 (by decide) (fun c5 => ?_) (fun c5 => ?_)
  · replace h := h.2 c5
    refine lv_iconst (v := 0) hC.1 hC.2.1 dL_asked_36 (by decide) ?_
    exact l_L_asked_37 a1 hl0 hC hr hlocks htab hT _ _ _ h _ _ _ G (lv_sub hl [1, 2, 0] rfl)
  · replace h := h.1 c5
    refine lv_iconst (v := 1) hC.1 hC.2.1 dL_asked_22 (by decide) ?_
    refine lv_iload_n hC.1 hC.2.1 dL_asked_23 rfl (lv_at hl 2 rfl) ?_
    refine lv_bipush (v := 7) hC.1 hC.2.1 dL_asked_24 (by decide) ?_
    refine lv_ishr hC.1 hC.2.1 dL_asked_26 ?_
    refine lv_bipush (v := 16) hC.1 hC.2.1 dL_asked_27 (by decide) ?_
    refine ag_i G (ag_runS (As := [.int (a1 >>> (7 &&& 31)), .int 16]) (rest := [.int 1]) hC hT G (c_L_below l D cy lay h _) (va_cwS 2 hC.2.2.2.2 gL_asked_L_below rfl rfl rfl hdS_L_below ⟨Nat.le_of_ble_eq_true rfl, Nat.le_of_ble_eq_true rfl⟩) rfl hl.1 rfl (Nat.le_of_ble_eq_true rfl) dL_asked_29 ⟨Nat.le_of_ble_eq_true rfl, Nat.le_of_ble_eq_true rfl⟩) (fun r25 σ24 H locs h G => ?_)
    (try dsimp only at h)
    refine lv_ishl hC.1 hC.2.1 dL_asked_32 ?_
    refine lv_goto (tgt := 37) hC.1 hC.2.1 dL_asked_33 (by decide) ?_
    exact l_L_asked_37 a1 hl0 hC hr hlocks htab hT _ _ _ h _ _ _ G (lv_sub hl [1, 2, 0] rfl)
theorem hdS_L_asked : yL_asked.cls ≠ "java/lang/invoke/MethodHandle" ∧ yL_asked.cls ≠ "java/lang/invoke/VarHandle" ∧ (parseMethodDescriptor yL_asked.desc).map (fun d => d.parameters.length) = some 2 := by decide +kernel
