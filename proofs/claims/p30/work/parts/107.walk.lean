abbrev rm_N_X7_set : Room := { frames := 3, cells := 0, slots := 0, locals := 70 }
theorem i_N_X7_set_X7 : ∀ w ∈ wsX70, w ∈ wsX7_set := fun _ h => List.mem_cons_of_mem _ (List.mem_append_left _ (List.mem_append_left _ (List.mem_append_left _ (List.mem_append_left _ (List.mem_append_right _ h)))))
theorem i_N_X7_set_X1 : ∀ w ∈ wsX10, w ∈ wsX7_set := fun _ h => List.mem_cons_of_mem _ (List.mem_append_left _ (List.mem_append_left _ (List.mem_append_left _ (List.mem_append_right _ h))))
def u_N_X7_set_14 (post : Int32 → MS → Prop) (a1 : Int32) (a2 : Int32) (σ : MS) : Prop := False
set_option maxHeartbeats 4000000 in
set_option maxRecDepth 100000 in
theorem l_N_X7_set_14 {p : Program} {l : Launch} {e : Env} {s : State} {m : MethodId} {args : Array Value} {below : List Frame} {meth : Method} {c : Code} {D : va_G} {cy : Nat → ClassId} {lay : Nat → Nat} {post : Int32 → MS → Prop} (a1 : Int32) (a2 : Int32) (hC : CallFix p m c cX7_set 3 s args wsX7_set RX7) (hr : meth.sig.returnType = some .int) (hlocks : meth.locks = false) (hT : agT D cy lay s) : ∀ (σ : MS), u_N_X7_set_14 post a1 a2 σ → ∀ (H : Heap) (locs : List Loc) (ls : Array Slot), agG D cy lay σ (agA lay s.heap.size) s.heap H locs → lv_has ls 3 [(0, .ref (lay 0)), (1, .int a1), (2, .int a2)] → W p l e rm_N_X7_set s m args below meth c H locs 0 0 (MQ below (va_Qi post (agO D cy lay) (agA lay s.heap.size)) args s 0 0 (agA lay s.heap.size)) (F0 m 14 ls []) := by
  intro σ h H locs ls G hl
  unfold u_N_X7_set_14 at h
  exact h.elim
def w_N_X7_set (post : Int32 → MS → Prop) (σ : MS) (a1 : Int32) (a2 : Int32) : Prop := ((a1 < 0 → u_N_X7_set_14 post a1 a2 σ) ∧ (¬ a1 < 0 → ((a1 < (1 <<< ((σ 0 6) &&& 31)) → w_X7_playableFor (fun r4 σ3 => w_X1_choose (fun σ5 => ((a2 = 0 → post (σ5 10 1) σ5) ∧ (¬ a2 = 0 → post (σ5 10 2) σ5))) σ3 r4) σ a1) ∧ (¬ a1 < (1 <<< ((σ 0 6) &&& 31)) → u_N_X7_set_14 post a1 a2 σ))))
set_option maxHeartbeats 4000000 in
set_option maxRecDepth 100000 in
theorem c_N_X7_set (l : Launch) (D : va_G) (cy : Nat → ClassId) (lay : Nat → Nat) {σ : MS} {post : Int32 → MS → Prop} {a1 : Int32} {a2 : Int32} (h : w_N_X7_set post σ a1 a2) (sz : Nat) : Met l yX7_set wsX7_set rm_N_X7_set (va_Pc [.ref (lay 0), .int a1, .int a2] (agI D cy lay σ sz)) (va_Qi post (agO D cy lay) (agA lay sz)) 0 0 (agA lay sz) := by
  refine ag_ofW (cc := cX7_set) (maxL := 3) (ret := some .int) (own := RX7) (Qc := fun sz => va_Qi post (agO D cy lay) (agA lay sz)) (by decide) rfl (Nat.le_of_ble_eq_true rfl) rfl ?_
  intro p e s m args below meth c ls hC hr hlocks hT G hl
  unfold w_N_X7_set at h
  have hl : lv_has ls 3 [(0, .ref (lay 0)), (1, .int a1), (2, .int a2)] := hl
  refine lv_iload_n hC.1 hC.2.1 dX7_set_0 rfl (lv_at hl 1 rfl) ?_
  refine lv_if_lt (tgt := 14) hC.1 hC.2.1 dX7_set_1 (by decide) (fun c1 => ?_) (fun c1 => ?_)
  · replace h := h.1 c1
    exact l_N_X7_set_14 a1 a2 hC hr hlocks hT _ h _ _ _ G (lv_sub hl [0, 1, 2] rfl)
  · replace h := h.2 c1
    refine lv_iload_n hC.1 hC.2.1 dX7_set_4 rfl (lv_at hl 1 rfl) ?_
    refine lv_iconst (v := 1) hC.1 hC.2.1 dX7_set_5 (by decide) ?_
    refine lv_aload_n hC.1 hC.2.1 dX7_set_6 rfl (lv_at hl 0 rfl) ?_
    refine ag_get hC hT G (by decide) e_ag k_X7 i_N_X7_set_X7 6 (by decide) (wm 3 rfl) rfl dX7_set_7 ?_
    refine lv_ishl hC.1 hC.2.1 dX7_set_10 ?_
    refine lv_icmp_lt (tgt := 25) hC.1 hC.2.1 dX7_set_11 (by decide) (fun c2 => ?_) (fun c2 => ?_)
    · replace h := h.1 c2
      refine lv_aload_n hC.1 hC.2.1 dX7_set_25 rfl (lv_at hl 0 rfl) ?_
      refine ag_get hC hT G (by decide) e_ag k_X7 i_N_X7_set_X7 14 (by decide) (wm 4 rfl) rfl dX7_set_26 ?_
      refine lv_aload_n hC.1 hC.2.1 dX7_set_29 rfl (lv_at hl 0 rfl) ?_
      refine ag_get hC hT G (by decide) e_ag k_X7 i_N_X7_set_X7 1 (by decide) (wm 5 rfl) rfl dX7_set_30 ?_
      refine lv_aload_n hC.1 hC.2.1 dX7_set_33 rfl (lv_at hl 0 rfl) ?_
      refine lv_iload_n hC.1 hC.2.1 dX7_set_34 rfl (lv_at hl 1 rfl) ?_
      refine ag_i G (ag_runV (As := [.int a1]) (rest := [.ref (lay 2), .ref (lay 10)]) hC hT G (c_X7_playableFor l D cy lay h _) (cwV 1 hC.2.2.2.2 gX7_set_X7_playableFor rfl rfl rfl hdV_X7_playableFor ⟨Nat.le_of_ble_eq_true rfl, Nat.le_of_ble_eq_true rfl⟩) (ag_recv hT G (by decide) e_ag k_X7) rfl hl.1 rfl (Nat.le_of_ble_eq_true rfl) dX7_set_35 ⟨Nat.le_of_ble_eq_true rfl, Nat.le_of_ble_eq_true rfl⟩) (fun r4 σ3 H locs h G => ?_)
      (try dsimp only at h)
      refine ag_v G (ag_runV (As := [.ref (lay 2), .int r4]) (rest := []) hC hT G (c_X1_choose l D cy lay h _) (cwV 2 hC.2.2.2.2 gX7_set_X1_choose rfl rfl rfl hdV_X1_choose ⟨Nat.le_of_ble_eq_true rfl, Nat.le_of_ble_eq_true rfl⟩) (ag_recv hT G (by decide) e_bs k_X1) rfl hl.1 rfl (Nat.le_of_ble_eq_true rfl) dX7_set_38 ⟨Nat.le_of_ble_eq_true rfl, Nat.le_of_ble_eq_true rfl⟩) (fun σ5 H locs h G => ?_)
      (try dsimp only at h)
      refine lv_iload_n hC.1 hC.2.1 dX7_set_41 rfl (lv_at hl 2 rfl) ?_
      refine lv_if_eq (tgt := 55) hC.1 hC.2.1 dX7_set_42 (by decide) (fun c6 => ?_) (fun c6 => ?_)
      · replace h := h.1 c6
        refine lv_aload_n hC.1 hC.2.1 dX7_set_55 rfl (lv_at hl 0 rfl) ?_
        refine ag_get hC hT G (by decide) e_ag k_X7 i_N_X7_set_X7 14 (by decide) (wm 4 rfl) rfl dX7_set_56 ?_
        refine ag_get hC hT G (by decide) e_bs k_X1 i_N_X7_set_X1 1 (by decide) (wm 7 rfl) rfl dX7_set_59 ?_
        exact ag_iret hC hr hlocks G h dX7_set_62
      · replace h := h.2 c6
        refine lv_aload_n hC.1 hC.2.1 dX7_set_45 rfl (lv_at hl 0 rfl) ?_
        refine ag_get hC hT G (by decide) e_ag k_X7 i_N_X7_set_X7 14 (by decide) (wm 4 rfl) rfl dX7_set_46 ?_
        refine ag_get hC hT G (by decide) e_bs k_X1 i_N_X7_set_X1 2 (by decide) (wm 6 rfl) rfl dX7_set_49 ?_
        refine lv_goto (tgt := 62) hC.1 hC.2.1 dX7_set_52 (by decide) ?_
        exact ag_iret hC hr hlocks G h dX7_set_62
    · replace h := h.2 c2
      exact l_N_X7_set_14 a1 a2 hC hr hlocks hT _ h _ _ _ G (lv_sub hl [0, 1, 2] rfl)
theorem hdV_X7_set : yX7_set.cls = RX7 ∧ yX7_set.cls ≠ "java/lang/invoke/MethodHandle" ∧ yX7_set.cls ≠ "java/lang/invoke/VarHandle" ∧ (parseMethodDescriptor yX7_set.desc).map (fun d => d.parameters.length) = some 2 := by decide +kernel
abbrev rm_N_X7_digestWedding : Room := { frames := 5, cells := 0, slots := 0, locals := 118 }
theorem i_N_X7_digestWedding_X7 : ∀ w ∈ wsX70, w ∈ wsX7_digestWedding := fun _ h => List.mem_cons_of_mem _ (List.mem_append_left _ (List.mem_append_left _ (List.mem_append_left _ (List.mem_append_left _ (List.mem_append_left _ (List.mem_append_left _ (List.mem_append_left _ (List.mem_append_left _ (List.mem_append_left _ (List.mem_append_right _ h))))))))))
theorem i_N_X7_digestWedding_X6 : ∀ w ∈ wsX60, w ∈ wsX7_digestWedding := fun _ h => List.mem_cons_of_mem _ (List.mem_append_left _ (List.mem_append_left _ (List.mem_append_left _ (List.mem_append_left _ (List.mem_append_left _ (List.mem_append_left _ (List.mem_append_left _ (List.mem_append_left _ (List.mem_append_right _ h)))))))))
theorem i_N_X7_digestWedding_X2 : ∀ w ∈ wsX20, w ∈ wsX7_digestWedding := fun _ h => List.mem_cons_of_mem _ (List.mem_append_left _ (List.mem_append_left _ (List.mem_append_left _ (List.mem_append_left _ (List.mem_append_left _ (List.mem_append_left _ (List.mem_append_left _ (List.mem_append_right _ h))))))))
def u_N_X7_digestWedding_121 (post : Int64 → MS → Prop) (a1 : Int64) (a2 : Int32) (σ : MS) (v4 : Int64) : Prop := (vp_in a2 14 ∧ w_N_X7_set (fun r6 σ5 => post ((v4 * 31) + (Int32.toInt64 r6)) σ5) σ (σ (73 + (Int32.toNatClampNeg a2)) 8) 0)
set_option maxHeartbeats 4000000 in
set_option maxRecDepth 100000 in
theorem l_N_X7_digestWedding_121 {p : Program} {l : Launch} {e : Env} {s : State} {m : MethodId} {args : Array Value} {below : List Frame} {meth : Method} {c : Code} {D : va_G} {cy : Nat → ClassId} {lay : Nat → Nat} {post : Int64 → MS → Prop} (a1 : Int64) (a2 : Int32) (hC : CallFix p m c cX7_digestWedding 7 s args wsX7_digestWedding RX7) (hr : meth.sig.returnType = some .long) (hlocks : meth.locks = false) (hT : agT D cy lay s) : ∀ (σ : MS) (v4 : Int64), u_N_X7_digestWedding_121 post a1 a2 σ v4 → ∀ (H : Heap) (locs : List Loc) (ls : Array Slot), agG D cy lay σ (agA lay s.heap.size) s.heap H locs → lv_has ls 7 [(0, .ref (lay 0)), (1, .long a1), (3, .int a2), (4, .long v4)] → W p l e rm_N_X7_digestWedding s m args below meth c H locs 0 0 (MQ below (va_Ql post (agO D cy lay) (agA lay s.heap.size)) args s 0 0 (agA lay s.heap.size)) (F0 m 121 ls []) := by
  intro σ v4 h H locs ls G hl
  unfold u_N_X7_digestWedding_121 at h
  refine lv_lload hC.1 hC.2.1 dX7_digestWedding_121 (lv_at hl 3 rfl) ?_
  refine lv_ldc2 (v := 31) hC.1 hC.2.1 hC.2.2.2.1 (hC.2.2.2.2 _ (wm 1 rfl)) dX7_digestWedding_123 ?_
  refine lv_lmul hC.1 hC.2.1 dX7_digestWedding_126 ?_
  refine lv_aload_n hC.1 hC.2.1 dX7_digestWedding_127 rfl (lv_at hl 0 rfl) ?_
  refine lv_aload_n hC.1 hC.2.1 dX7_digestWedding_128 rfl (lv_at hl 0 rfl) ?_
  refine ag_get hC hT G (by decide) e_ag k_X7 i_N_X7_digestWedding_X7 3 (by decide) (wm 2 rfl) rfl dX7_digestWedding_129 ?_
  refine lv_iload_n hC.1 hC.2.1 dX7_digestWedding_132 rfl (lv_at hl 2 rfl) ?_
  obtain ⟨hn4, h⟩ := h
  refine ag_aald hC hT G (by decide) _ rfl e_wds hn4 dX7_digestWedding_133 ?_
  refine ag_get hC hT G (k_wd (vlt hn4)) (e_wd (vlt hn4)) k_X6 i_N_X7_digestWedding_X6 8 (by decide) (wm 9 rfl) rfl dX7_digestWedding_134 ?_
  refine lv_iconst (v := 0) hC.1 hC.2.1 dX7_digestWedding_137 (by decide) ?_
  refine ag_i G (ag_runV (As := [.int (σ (73 + (Int32.toNatClampNeg a2)) 8), .int 0]) (rest := [.long (v4 * 31)]) hC hT G (c_N_X7_set l D cy lay h _) (cwV 2 hC.2.2.2.2 gX7_digestWedding_X7_set rfl rfl rfl hdV_X7_set ⟨Nat.le_of_ble_eq_true rfl, Nat.le_of_ble_eq_true rfl⟩) (ag_recv hT G (by decide) e_ag k_X7) rfl hl.1 rfl (Nat.le_of_ble_eq_true rfl) dX7_digestWedding_138 ⟨Nat.le_of_ble_eq_true rfl, Nat.le_of_ble_eq_true rfl⟩) (fun r6 σ5 H locs h G => ?_)
  (try dsimp only at h)
  refine lv_i2l (v := Int32.toInt64 r6) hC.1 hC.2.1 dX7_digestWedding_141 rfl ?_
  refine lv_ladd hC.1 hC.2.1 dX7_digestWedding_142 ?_
  exact ag_lret hC hr hlocks G h dX7_digestWedding_143
def u_N_X7_digestWedding_6 (post : Int64 → MS → Prop) (a1 : Int64) (a2 : Int32) : Nat → MS → Int64 → Int32 → Prop
  | 0, _, _, _ => False
  | n + 1, σ, v4, v6 => ((12 < v6 → (vp_in a2 14 ∧ (((σ (73 + (Int32.toNatClampNeg a2)) 7) = 0 → w_X7_surveyNow (fun σ7 => u_N_X7_digestWedding_121 post a1 a2 σ7 ((((((((v4 * 31) + (Int32.toInt64 (σ7 9 0))) * 31) + (Int32.toInt64 (σ7 9 1))) * 31) + (Int32.toInt64 (σ7 9 3))) * 31) + (Int32.toInt64 (σ7 9 5)))) σ a2) ∧ (¬ (σ (73 + (Int32.toNatClampNeg a2)) 7) = 0 → u_N_X7_digestWedding_121 post a1 a2 σ v4)))) ∧ (¬ 12 < v6 → w_N_X7_ofWedding (fun r9 σ8 => u_N_X7_digestWedding_6 post a1 a2 n σ8 ((v4 * 31) + (Int32.toInt64 r9)) (v6 + 1)) σ a2 v6))
set_option maxHeartbeats 4000000 in
set_option maxRecDepth 100000 in
theorem l_N_X7_digestWedding_6 {p : Program} {l : Launch} {e : Env} {s : State} {m : MethodId} {args : Array Value} {below : List Frame} {meth : Method} {c : Code} {D : va_G} {cy : Nat → ClassId} {lay : Nat → Nat} {post : Int64 → MS → Prop} (a1 : Int64) (a2 : Int32) (hC : CallFix p m c cX7_digestWedding 7 s args wsX7_digestWedding RX7) (hr : meth.sig.returnType = some .long) (hlocks : meth.locks = false) (hT : agT D cy lay s) : ∀ (n : Nat), ∀ (σ : MS) (v4 : Int64) (v6 : Int32), u_N_X7_digestWedding_6 post a1 a2 n σ v4 v6 → ∀ (H : Heap) (locs : List Loc) (ls : Array Slot), agG D cy lay σ (agA lay s.heap.size) s.heap H locs → lv_has ls 7 [(0, .ref (lay 0)), (1, .long a1), (3, .int a2), (4, .long v4), (6, .int v6)] → W p l e rm_N_X7_digestWedding s m args below meth c H locs 0 0 (MQ below (va_Ql post (agO D cy lay) (agA lay s.heap.size)) args s 0 0 (agA lay s.heap.size)) (F0 m 6 ls []) := by
  intro n
  induction n with
  | zero =>
    intro σ v4 v6 h
    exact h.elim
  | succ n ih =>
    intro σ v4 v6 h H locs ls G hl
    rw [u_N_X7_digestWedding_6] at h
    refine lv_iload hC.1 hC.2.1 dX7_digestWedding_6 (lv_at hl 4 rfl) ?_
    refine lv_bipush (v := 12) hC.1 hC.2.1 dX7_digestWedding_8 (by decide) ?_
    refine lv_icmp_gt (tgt := 36) hC.1 hC.2.1 dX7_digestWedding_10 (by decide) (fun c1 => ?_) (fun c1 => ?_)
    · replace h := h.1 c1
      refine lv_aload_n hC.1 hC.2.1 dX7_digestWedding_36 rfl (lv_at hl 0 rfl) ?_
      refine ag_get hC hT G (by decide) e_ag k_X7 i_N_X7_digestWedding_X7 3 (by decide) (wm 2 rfl) rfl dX7_digestWedding_37 ?_
      refine lv_iload_n hC.1 hC.2.1 dX7_digestWedding_40 rfl (lv_at hl 2 rfl) ?_
      obtain ⟨hn2, h⟩ := h
      refine ag_aald hC hT G (by decide) _ rfl e_wds hn2 dX7_digestWedding_41 ?_
      refine ag_get hC hT G (k_wd (vlt hn2)) (e_wd (vlt hn2)) k_X6 i_N_X7_digestWedding_X6 7 (by decide) (wm 3 rfl) rfl dX7_digestWedding_42 ?_
      refine lv_if_ne (tgt := 121) hC.1 hC.2.1 dX7_digestWedding_45 (by decide) (fun c3 => ?_) (fun c3 => ?_)
      · replace h := h.2 c3
        exact l_N_X7_digestWedding_121 a1 a2 hC hr hlocks hT _ _ h _ _ _ G (lv_sub hl [0, 1, 2, 3] rfl)
      · replace h := h.1 c3
        refine lv_aload_n hC.1 hC.2.1 dX7_digestWedding_48 rfl (lv_at hl 0 rfl) ?_
        refine lv_iload_n hC.1 hC.2.1 dX7_digestWedding_49 rfl (lv_at hl 2 rfl) ?_
        refine ag_v G (ag_runV (As := [.int a2]) (rest := []) hC hT G (c_X7_surveyNow l D cy lay h _) (cwV 1 hC.2.2.2.2 gX7_digestWedding_X7_surveyNow rfl rfl rfl hdV_X7_surveyNow ⟨Nat.le_of_ble_eq_true rfl, Nat.le_of_ble_eq_true rfl⟩) (ag_recv hT G (by decide) e_ag k_X7) rfl hl.1 rfl (Nat.le_of_ble_eq_true rfl) dX7_digestWedding_50 ⟨Nat.le_of_ble_eq_true rfl, Nat.le_of_ble_eq_true rfl⟩) (fun σ7 H locs h G => ?_)
        (try dsimp only at h)
        refine lv_lload hC.1 hC.2.1 dX7_digestWedding_53 (lv_at hl 3 rfl) ?_
        refine lv_ldc2 (v := 31) hC.1 hC.2.1 hC.2.2.2.1 (hC.2.2.2.2 _ (wm 1 rfl)) dX7_digestWedding_55 ?_
        refine lv_lmul hC.1 hC.2.1 dX7_digestWedding_58 ?_
        refine lv_aload_n hC.1 hC.2.1 dX7_digestWedding_59 rfl (lv_at hl 0 rfl) ?_
        refine ag_get hC hT G (by decide) e_ag k_X7 i_N_X7_digestWedding_X7 13 (by decide) (wm 4 rfl) rfl dX7_digestWedding_60 ?_
        refine ag_get hC hT G (by decide) e_fd k_X2 i_N_X7_digestWedding_X2 0 (by decide) (wm 5 rfl) rfl dX7_digestWedding_63 ?_
        refine lv_i2l (v := Int32.toInt64 (σ7 9 0)) hC.1 hC.2.1 dX7_digestWedding_66 rfl ?_
        refine lv_ladd hC.1 hC.2.1 dX7_digestWedding_67 ?_
        refine lv_lstore (lv' := [(4, .long ((v4 * 31) + (Int32.toInt64 (σ7 9 0)))), (0, .ref (lay 0)), (1, .long a1), (3, .int a2), (6, .int v6)]) hC.1 hC.2.1 dX7_digestWedding_68 hl (by decide) rfl (fun ls hl => ?_)
        refine lv_lload hC.1 hC.2.1 dX7_digestWedding_70 (lv_at hl 0 rfl) ?_
        refine lv_ldc2 (v := 31) hC.1 hC.2.1 hC.2.2.2.1 (hC.2.2.2.2 _ (wm 1 rfl)) dX7_digestWedding_72 ?_
        refine lv_lmul hC.1 hC.2.1 dX7_digestWedding_75 ?_
        refine lv_aload_n hC.1 hC.2.1 dX7_digestWedding_76 rfl (lv_at hl 1 rfl) ?_
        refine ag_get hC hT G (by decide) e_ag k_X7 i_N_X7_digestWedding_X7 13 (by decide) (wm 4 rfl) rfl dX7_digestWedding_77 ?_
        refine ag_get hC hT G (by decide) e_fd k_X2 i_N_X7_digestWedding_X2 1 (by decide) (wm 6 rfl) rfl dX7_digestWedding_80 ?_
        refine lv_i2l (v := Int32.toInt64 (σ7 9 1)) hC.1 hC.2.1 dX7_digestWedding_83 rfl ?_
        refine lv_ladd hC.1 hC.2.1 dX7_digestWedding_84 ?_
        refine lv_lstore (lv' := [(4, .long ((((v4 * 31) + (Int32.toInt64 (σ7 9 0))) * 31) + (Int32.toInt64 (σ7 9 1)))), (0, .ref (lay 0)), (1, .long a1), (3, .int a2), (6, .int v6)]) hC.1 hC.2.1 dX7_digestWedding_85 hl (by decide) rfl (fun ls hl => ?_)
        refine lv_lload hC.1 hC.2.1 dX7_digestWedding_87 (lv_at hl 0 rfl) ?_
        refine lv_ldc2 (v := 31) hC.1 hC.2.1 hC.2.2.2.1 (hC.2.2.2.2 _ (wm 1 rfl)) dX7_digestWedding_89 ?_
        refine lv_lmul hC.1 hC.2.1 dX7_digestWedding_92 ?_
        refine lv_aload_n hC.1 hC.2.1 dX7_digestWedding_93 rfl (lv_at hl 1 rfl) ?_
        refine ag_get hC hT G (by decide) e_ag k_X7 i_N_X7_digestWedding_X7 13 (by decide) (wm 4 rfl) rfl dX7_digestWedding_94 ?_
        refine ag_get hC hT G (by decide) e_fd k_X2 i_N_X7_digestWedding_X2 3 (by decide) (wm 7 rfl) rfl dX7_digestWedding_97 ?_
        refine lv_i2l (v := Int32.toInt64 (σ7 9 3)) hC.1 hC.2.1 dX7_digestWedding_100 rfl ?_
        refine lv_ladd hC.1 hC.2.1 dX7_digestWedding_101 ?_
        refine lv_lstore (lv' := [(4, .long ((((((v4 * 31) + (Int32.toInt64 (σ7 9 0))) * 31) + (Int32.toInt64 (σ7 9 1))) * 31) + (Int32.toInt64 (σ7 9 3)))), (0, .ref (lay 0)), (1, .long a1), (3, .int a2), (6, .int v6)]) hC.1 hC.2.1 dX7_digestWedding_102 hl (by decide) rfl (fun ls hl => ?_)
        refine lv_lload hC.1 hC.2.1 dX7_digestWedding_104 (lv_at hl 0 rfl) ?_
        refine lv_ldc2 (v := 31) hC.1 hC.2.1 hC.2.2.2.1 (hC.2.2.2.2 _ (wm 1 rfl)) dX7_digestWedding_106 ?_
        refine lv_lmul hC.1 hC.2.1 dX7_digestWedding_109 ?_
        refine lv_aload_n hC.1 hC.2.1 dX7_digestWedding_110 rfl (lv_at hl 1 rfl) ?_
        refine ag_get hC hT G (by decide) e_ag k_X7 i_N_X7_digestWedding_X7 13 (by decide) (wm 4 rfl) rfl dX7_digestWedding_111 ?_
        refine ag_get hC hT G (by decide) e_fd k_X2 i_N_X7_digestWedding_X2 5 (by decide) (wm 8 rfl) rfl dX7_digestWedding_114 ?_
        refine lv_i2l (v := Int32.toInt64 (σ7 9 5)) hC.1 hC.2.1 dX7_digestWedding_117 rfl ?_
        refine lv_ladd hC.1 hC.2.1 dX7_digestWedding_118 ?_
        refine lv_lstore (lv' := [(4, .long ((((((((v4 * 31) + (Int32.toInt64 (σ7 9 0))) * 31) + (Int32.toInt64 (σ7 9 1))) * 31) + (Int32.toInt64 (σ7 9 3))) * 31) + (Int32.toInt64 (σ7 9 5)))), (0, .ref (lay 0)), (1, .long a1), (3, .int a2), (6, .int v6)]) hC.1 hC.2.1 dX7_digestWedding_119 hl (by decide) rfl (fun ls hl => ?_)
        exact l_N_X7_digestWedding_121 a1 a2 hC hr hlocks hT _ _ h _ _ _ G (lv_sub hl [1, 2, 3, 0] rfl)
    · replace h := h.2 c1
      refine lv_lload hC.1 hC.2.1 dX7_digestWedding_13 (lv_at hl 3 rfl) ?_
      refine lv_ldc2 (v := 31) hC.1 hC.2.1 hC.2.2.2.1 (hC.2.2.2.2 _ (wm 1 rfl)) dX7_digestWedding_15 ?_
      refine lv_lmul hC.1 hC.2.1 dX7_digestWedding_18 ?_
      refine lv_aload_n hC.1 hC.2.1 dX7_digestWedding_19 rfl (lv_at hl 0 rfl) ?_
      refine lv_iload_n hC.1 hC.2.1 dX7_digestWedding_20 rfl (lv_at hl 2 rfl) ?_
      refine lv_iload hC.1 hC.2.1 dX7_digestWedding_21 (lv_at hl 4 rfl) ?_
      refine ag_i G (ag_runV (As := [.int a2, .int v6]) (rest := [.long (v4 * 31)]) hC hT G (c_N_X7_ofWedding l D cy lay h _) (cwV 2 hC.2.2.2.2 gX7_digestWedding_X7_ofWedding rfl rfl rfl hdV_X7_ofWedding ⟨Nat.le_of_ble_eq_true rfl, Nat.le_of_ble_eq_true rfl⟩) (ag_recv hT G (by decide) e_ag k_X7) rfl hl.1 rfl (Nat.le_of_ble_eq_true rfl) dX7_digestWedding_23 ⟨Nat.le_of_ble_eq_true rfl, Nat.le_of_ble_eq_true rfl⟩) (fun r9 σ8 H locs h G => ?_)
      (try dsimp only at h)
      refine lv_i2l (v := Int32.toInt64 r9) hC.1 hC.2.1 dX7_digestWedding_26 rfl ?_
      refine lv_ladd hC.1 hC.2.1 dX7_digestWedding_27 ?_
      refine lv_lstore (lv' := [(4, .long ((v4 * 31) + (Int32.toInt64 r9))), (0, .ref (lay 0)), (1, .long a1), (3, .int a2), (6, .int v6)]) hC.1 hC.2.1 dX7_digestWedding_28 hl (by decide) rfl (fun ls hl => ?_)
      refine lv_iinc (v := v6 + 1) (lv' := [(6, .int (v6 + 1)), (4, .long ((v4 * 31) + (Int32.toInt64 r9))), (0, .ref (lay 0)), (1, .long a1), (3, .int a2)]) hC.1 hC.2.1 dX7_digestWedding_30 hl (k := 4) rfl rfl (by decide) rfl (fun ls hl => ?_)
      refine lv_goto (tgt := 6) hC.1 hC.2.1 dX7_digestWedding_33 (by decide) ?_
      exact ih _ _ _ h _ _ _ G (lv_sub hl [2, 3, 4, 1, 0] rfl)
def w_N_X7_digestWedding (post : Int64 → MS → Prop) (σ : MS) (a1 : Int64) (a2 : Int32) : Prop := (∃ k, u_N_X7_digestWedding_6 post a1 a2 k σ a1 0)
set_option maxHeartbeats 4000000 in
set_option maxRecDepth 100000 in
theorem c_N_X7_digestWedding (l : Launch) (D : va_G) (cy : Nat → ClassId) (lay : Nat → Nat) {σ : MS} {post : Int64 → MS → Prop} {a1 : Int64} {a2 : Int32} (h : w_N_X7_digestWedding post σ a1 a2) (sz : Nat) : Met l yX7_digestWedding wsX7_digestWedding rm_N_X7_digestWedding (va_Pc [.ref (lay 0), .long a1, .int a2] (agI D cy lay σ sz)) (va_Ql post (agO D cy lay) (agA lay sz)) 0 0 (agA lay sz) := by
  refine ag_ofW (cc := cX7_digestWedding) (maxL := 7) (ret := some .long) (own := RX7) (Qc := fun sz => va_Ql post (agO D cy lay) (agA lay sz)) (by decide) rfl (Nat.le_of_ble_eq_true rfl) rfl ?_
  intro p e s m args below meth c ls hC hr hlocks hT G hl
  unfold w_N_X7_digestWedding at h
  have hl : lv_has ls 7 [(0, .ref (lay 0)), (1, .long a1), (3, .int a2)] := hl
  refine lv_lload_n hC.1 hC.2.1 dX7_digestWedding_0 rfl (lv_at hl 1 rfl) ?_
  refine lv_lstore (lv' := [(4, .long a1), (0, .ref (lay 0)), (1, .long a1), (3, .int a2)]) hC.1 hC.2.1 dX7_digestWedding_1 hl (by decide) rfl (fun ls hl => ?_)
  refine lv_iconst (v := 0) hC.1 hC.2.1 dX7_digestWedding_3 (by decide) ?_
  refine lv_istore (lv' := [(6, .int 0), (4, .long a1), (0, .ref (lay 0)), (1, .long a1), (3, .int a2)]) hC.1 hC.2.1 dX7_digestWedding_4 hl (by decide) rfl (fun ls hl => ?_)
  obtain ⟨n1, h⟩ := h
  exact l_N_X7_digestWedding_6 a1 a2 hC hr hlocks hT n1 _ _ _ h _ _ _ G (lv_sub hl [2, 3, 4, 1, 0] rfl)
theorem hdV_X7_digestWedding : yX7_digestWedding.cls = RX7 ∧ yX7_digestWedding.cls ≠ "java/lang/invoke/MethodHandle" ∧ yX7_digestWedding.cls ≠ "java/lang/invoke/VarHandle" ∧ (parseMethodDescriptor yX7_digestWedding.desc).map (fun d => d.parameters.length) = some 2 := by decide +kernel
abbrev rm_N_X7_digest : Room := { frames := 6, cells := 0, slots := 0, locals := 144 }
theorem i_N_X7_digest_X7 : ∀ w ∈ wsX70, w ∈ wsX7_digest := fun _ h => List.mem_cons_of_mem _ (List.mem_append_left _ (List.mem_append_left _ (List.mem_append_left _ (List.mem_append_left _ (List.mem_append_left _ (List.mem_append_left _ (List.mem_append_left _ (List.mem_append_left _ (List.mem_append_left _ (List.mem_append_right _ h))))))))))
def u_N_X7_digest_171 (post : Int64 → MS → Prop) : Nat → MS → Int64 → Int32 → Prop
  | 0, _, _, _ => False
  | n + 1, σ, v1, v3 => (((σ 0 8) ≤ v3 → w_N_X7_set (fun r7 σ6 => w_N_X7_drive (fun r9 σ8 => w_X7_isSound (fun r11 σ10 => ((r11 = 0 → post ((((((v1 * 31) + (Int32.toInt64 r7)) * 31) + (Int32.toInt64 r9)) * 31) + (Int32.toInt64 0)) σ10) ∧ (¬ r11 = 0 → post ((((((v1 * 31) + (Int32.toInt64 r7)) * 31) + (Int32.toInt64 r9)) * 31) + (Int32.toInt64 1)) σ10))) σ8) σ6 0 5) σ ((1 <<< ((σ 0 6) &&& 31)) - 1) 1) ∧ (¬ (σ 0 8) ≤ v3 → w_N_X7_digestWedding (fun r14 σ13 => u_N_X7_digest_171 post n σ13 r14 (v3 + 1)) σ v1 v3))
set_option maxHeartbeats 4000000 in
set_option maxRecDepth 100000 in
theorem l_N_X7_digest_171 {p : Program} {l : Launch} {e : Env} {s : State} {m : MethodId} {args : Array Value} {below : List Frame} {meth : Method} {c : Code} {D : va_G} {cy : Nat → ClassId} {lay : Nat → Nat} {post : Int64 → MS → Prop} (hC : CallFix p m c cX7_digest 5 s args wsX7_digest RX7) (hr : meth.sig.returnType = some .long) (hlocks : meth.locks = false) (hT : agT D cy lay s) : ∀ (n : Nat), ∀ (σ : MS) (v1 : Int64) (v3 : Int32), u_N_X7_digest_171 post n σ v1 v3 → ∀ (H : Heap) (locs : List Loc) (ls : Array Slot), agG D cy lay σ (agA lay s.heap.size) s.heap H locs → lv_has ls 5 [(0, .ref (lay 0)), (1, .long v1), (3, .int v3)] → W p l e rm_N_X7_digest s m args below meth c H locs 0 0 (MQ below (va_Ql post (agO D cy lay) (agA lay s.heap.size)) args s 0 0 (agA lay s.heap.size)) (F0 m 171 ls []) := by
  intro n
  induction n with
  | zero =>
    intro σ v1 v3 h
    exact h.elim
  | succ n ih =>
    intro σ v1 v3 h H locs ls G hl
    rw [u_N_X7_digest_171] at h
    refine lv_iload_n hC.1 hC.2.1 dX7_digest_171 rfl (lv_at hl 2 rfl) ?_
    refine lv_aload_n hC.1 hC.2.1 dX7_digest_172 rfl (lv_at hl 0 rfl) ?_
    refine ag_get hC hT G (by decide) e_ag k_X7 i_N_X7_digest_X7 8 (by decide) (wm 5 rfl) rfl dX7_digest_173 ?_
    refine lv_icmp_ge (tgt := 192) hC.1 hC.2.1 dX7_digest_176 (by decide) (fun c5 => ?_) (fun c5 => ?_)
    · replace h := h.1 c5
      refine lv_lload_n hC.1 hC.2.1 dX7_digest_192 rfl (lv_at hl 1 rfl) ?_
      refine lv_ldc2 (v := 31) hC.1 hC.2.1 hC.2.2.2.1 (hC.2.2.2.2 _ (wm 2 rfl)) dX7_digest_193 ?_
      refine lv_lmul hC.1 hC.2.1 dX7_digest_196 ?_
      refine lv_aload_n hC.1 hC.2.1 dX7_digest_197 rfl (lv_at hl 0 rfl) ?_
      refine lv_iconst (v := 1) hC.1 hC.2.1 dX7_digest_198 (by decide) ?_
      refine lv_aload_n hC.1 hC.2.1 dX7_digest_199 rfl (lv_at hl 0 rfl) ?_
      refine ag_get hC hT G (by decide) e_ag k_X7 i_N_X7_digest_X7 6 (by decide) (wm 3 rfl) rfl dX7_digest_200 ?_
      refine lv_ishl hC.1 hC.2.1 dX7_digest_203 ?_
      refine lv_iconst (v := 1) hC.1 hC.2.1 dX7_digest_204 (by decide) ?_
      refine lv_isub hC.1 hC.2.1 dX7_digest_205 ?_
      refine lv_iconst (v := 1) hC.1 hC.2.1 dX7_digest_206 (by decide) ?_
      refine ag_i G (ag_runV (As := [.int ((1 <<< ((σ 0 6) &&& 31)) - 1), .int 1]) (rest := [.long (v1 * 31)]) hC hT G (c_N_X7_set l D cy lay h _) (cwV 2 hC.2.2.2.2 gX7_digest_X7_set rfl rfl rfl hdV_X7_set ⟨Nat.le_of_ble_eq_true rfl, Nat.le_of_ble_eq_true rfl⟩) (ag_recv hT G (by decide) e_ag k_X7) rfl hl.1 rfl (Nat.le_of_ble_eq_true rfl) dX7_digest_207 ⟨Nat.le_of_ble_eq_true rfl, Nat.le_of_ble_eq_true rfl⟩) (fun r7 σ6 H locs h G => ?_)
      (try dsimp only at h)
      refine lv_i2l (v := Int32.toInt64 r7) hC.1 hC.2.1 dX7_digest_210 rfl ?_
      refine lv_ladd hC.1 hC.2.1 dX7_digest_211 ?_
      refine lv_lstore_n (lv' := [(1, .long ((v1 * 31) + (Int32.toInt64 r7))), (0, .ref (lay 0)), (3, .int v3)]) hC.1 hC.2.1 dX7_digest_212 rfl hl (by decide) rfl (fun ls hl => ?_)
      refine lv_lload_n hC.1 hC.2.1 dX7_digest_213 rfl (lv_at hl 0 rfl) ?_
      refine lv_ldc2 (v := 31) hC.1 hC.2.1 hC.2.2.2.1 (hC.2.2.2.2 _ (wm 2 rfl)) dX7_digest_214 ?_
      refine lv_lmul hC.1 hC.2.1 dX7_digest_217 ?_
      refine lv_aload_n hC.1 hC.2.1 dX7_digest_218 rfl (lv_at hl 1 rfl) ?_
      refine lv_iconst (v := 0) hC.1 hC.2.1 dX7_digest_219 (by decide) ?_
      refine lv_iconst (v := 5) hC.1 hC.2.1 dX7_digest_220 (by decide) ?_
      refine ag_i G (ag_runV (As := [.int 0, .int 5]) (rest := [.long (((v1 * 31) + (Int32.toInt64 r7)) * 31)]) hC hT G (c_N_X7_drive l D cy lay h _) (cwV 2 hC.2.2.2.2 gX7_digest_X7_drive rfl rfl rfl hdV_X7_drive ⟨Nat.le_of_ble_eq_true rfl, Nat.le_of_ble_eq_true rfl⟩) (ag_recv hT G (by decide) e_ag k_X7) rfl hl.1 rfl (Nat.le_of_ble_eq_true rfl) dX7_digest_221 ⟨Nat.le_of_ble_eq_true rfl, Nat.le_of_ble_eq_true rfl⟩) (fun r9 σ8 H locs h G => ?_)
      (try dsimp only at h)
      refine lv_i2l (v := Int32.toInt64 r9) hC.1 hC.2.1 dX7_digest_224 rfl ?_
      refine lv_ladd hC.1 hC.2.1 dX7_digest_225 ?_
      refine lv_lstore_n (lv' := [(1, .long ((((v1 * 31) + (Int32.toInt64 r7)) * 31) + (Int32.toInt64 r9))), (0, .ref (lay 0)), (3, .int v3)]) hC.1 hC.2.1 dX7_digest_226 rfl hl (by decide) rfl (fun ls hl => ?_)
      refine lv_lload_n hC.1 hC.2.1 dX7_digest_227 rfl (lv_at hl 0 rfl) ?_
      refine lv_ldc2 (v := 31) hC.1 hC.2.1 hC.2.2.2.1 (hC.2.2.2.2 _ (wm 2 rfl)) dX7_digest_228 ?_
      refine lv_lmul hC.1 hC.2.1 dX7_digest_231 ?_
      refine lv_aload_n hC.1 hC.2.1 dX7_digest_232 rfl (lv_at hl 1 rfl) ?_
      refine ag_i G (ag_runV (As := []) (rest := [.long (((((v1 * 31) + (Int32.toInt64 r7)) * 31) + (Int32.toInt64 r9)) * 31)]) hC hT G (c_X7_isSound l D cy lay h _) (cwV 0 hC.2.2.2.2 gX7_digest_X7_isSound rfl rfl rfl hdV_X7_isSound ⟨Nat.le_of_ble_eq_true rfl, Nat.le_of_ble_eq_true rfl⟩) (ag_recv hT G (by decide) e_ag k_X7) rfl hl.1 rfl (Nat.le_of_ble_eq_true rfl) dX7_digest_233 ⟨Nat.le_of_ble_eq_true rfl, Nat.le_of_ble_eq_true rfl⟩) (fun r11 σ10 H locs h G => ?_)
      (try dsimp only at h)
      refine lv_if_eq (tgt := 243) hC.1 hC.2.1 dX7_digest_236 (by decide) (fun c12 => ?_) (fun c12 => ?_)
      · replace h := h.1 c12
        refine lv_iconst (v := 0) hC.1 hC.2.1 dX7_digest_243 (by decide) ?_
        refine lv_i2l (v := Int32.toInt64 0) hC.1 hC.2.1 dX7_digest_244 rfl ?_
        refine lv_ladd hC.1 hC.2.1 dX7_digest_245 ?_
        exact ag_lret hC hr hlocks G h dX7_digest_246
      · replace h := h.2 c12
        refine lv_iconst (v := 1) hC.1 hC.2.1 dX7_digest_239 (by decide) ?_
        refine lv_goto (tgt := 244) hC.1 hC.2.1 dX7_digest_240 (by decide) ?_
        refine lv_i2l (v := Int32.toInt64 1) hC.1 hC.2.1 dX7_digest_244 rfl ?_
        refine lv_ladd hC.1 hC.2.1 dX7_digest_245 ?_
        exact ag_lret hC hr hlocks G h dX7_digest_246
    · replace h := h.2 c5
      refine lv_aload_n hC.1 hC.2.1 dX7_digest_179 rfl (lv_at hl 0 rfl) ?_
      refine lv_lload_n hC.1 hC.2.1 dX7_digest_180 rfl (lv_at hl 1 rfl) ?_
      refine lv_iload_n hC.1 hC.2.1 dX7_digest_181 rfl (lv_at hl 2 rfl) ?_
      refine ag_l G (ag_runV (As := [.long v1, .int v3]) (rest := []) hC hT G (c_N_X7_digestWedding l D cy lay h _) (cwV 2 hC.2.2.2.2 gX7_digest_X7_digestWedding rfl rfl rfl hdV_X7_digestWedding ⟨Nat.le_of_ble_eq_true rfl, Nat.le_of_ble_eq_true rfl⟩) (ag_recv hT G (by decide) e_ag k_X7) rfl hl.1 rfl (Nat.le_of_ble_eq_true rfl) dX7_digest_182 ⟨Nat.le_of_ble_eq_true rfl, Nat.le_of_ble_eq_true rfl⟩) (fun r14 σ13 H locs h G => ?_)
      (try dsimp only at h)
      refine lv_lstore_n (lv' := [(1, .long r14), (0, .ref (lay 0)), (3, .int v3)]) hC.1 hC.2.1 dX7_digest_185 rfl hl (by decide) rfl (fun ls hl => ?_)
      refine lv_iinc (v := v3 + 1) (lv' := [(3, .int (v3 + 1)), (1, .long r14), (0, .ref (lay 0))]) hC.1 hC.2.1 dX7_digest_186 hl (k := 2) rfl rfl (by decide) rfl (fun ls hl => ?_)
      refine lv_goto (tgt := 171) hC.1 hC.2.1 dX7_digest_189 (by decide) ?_
      exact ih _ _ _ h _ _ _ G (lv_sub hl [2, 1, 0] rfl)
def u_N_X7_digest_135 (post : Int64 → MS → Prop) (K124 : MS → Int64 → Int32 → Prop) : Nat → MS → Int64 → Int32 → Int32 → Prop
  | 0, _, _, _, _ => False
  | n + 1, σ, v1, v3, v4 => ((8 < v4 → K124 σ v1 (v3 + 1)) ∧ (¬ 8 < v4 → w_N_X7_ofBand (fun r17 σ16 => u_N_X7_digest_135 post K124 n σ16 ((v1 * 31) + (Int32.toInt64 r17)) v3 (v4 + 1)) σ v3 v4))
set_option maxHeartbeats 4000000 in
set_option maxRecDepth 100000 in
theorem l_N_X7_digest_135 {p : Program} {l : Launch} {e : Env} {s : State} {m : MethodId} {args : Array Value} {below : List Frame} {meth : Method} {c : Code} {D : va_G} {cy : Nat → ClassId} {lay : Nat → Nat} {post : Int64 → MS → Prop} (K124 : MS → Int64 → Int32 → Prop) (hC : CallFix p m c cX7_digest 5 s args wsX7_digest RX7) (hr : meth.sig.returnType = some .long) (hlocks : meth.locks = false) (hT : agT D cy lay s) (hK124 : ∀ (σ : MS) (v1 : Int64) (v3 : Int32), K124 σ v1 v3 → ∀ (H : Heap) (locs : List Loc) (ls : Array Slot), agG D cy lay σ (agA lay s.heap.size) s.heap H locs → lv_has ls 5 [(0, .ref (lay 0)), (1, .long v1), (3, .int v3)] → W p l e rm_N_X7_digest s m args below meth c H locs 0 0 (MQ below (va_Ql post (agO D cy lay) (agA lay s.heap.size)) args s 0 0 (agA lay s.heap.size)) (F0 m 124 ls [])) : ∀ (n : Nat), ∀ (σ : MS) (v1 : Int64) (v3 : Int32) (v4 : Int32), u_N_X7_digest_135 post K124 n σ v1 v3 v4 → ∀ (H : Heap) (locs : List Loc) (ls : Array Slot), agG D cy lay σ (agA lay s.heap.size) s.heap H locs → lv_has ls 5 [(0, .ref (lay 0)), (1, .long v1), (3, .int v3), (4, .int v4)] → W p l e rm_N_X7_digest s m args below meth c H locs 0 0 (MQ below (va_Ql post (agO D cy lay) (agA lay s.heap.size)) args s 0 0 (agA lay s.heap.size)) (F0 m 135 ls []) := by
  intro n
  induction n with
  | zero =>
    intro σ v1 v3 v4 h
    exact h.elim
  | succ n ih =>
    intro σ v1 v3 v4 h H locs ls G hl
    rw [u_N_X7_digest_135] at h
    refine lv_iload hC.1 hC.2.1 dX7_digest_135 (lv_at hl 3 rfl) ?_
    refine lv_bipush (v := 8) hC.1 hC.2.1 dX7_digest_137 (by decide) ?_
    refine lv_icmp_gt (tgt := 163) hC.1 hC.2.1 dX7_digest_139 (by decide) (fun c15 => ?_) (fun c15 => ?_)
    · replace h := h.1 c15
      refine lv_iinc (v := v3 + 1) (lv' := [(3, .int (v3 + 1)), (0, .ref (lay 0)), (1, .long v1), (4, .int v4)]) hC.1 hC.2.1 dX7_digest_163 hl (k := 2) rfl rfl (by decide) rfl (fun ls hl => ?_)
      refine lv_goto (tgt := 124) hC.1 hC.2.1 dX7_digest_166 (by decide) ?_
      exact hK124 _ _ _ h _ _ _ G (lv_sub hl [1, 2, 0] rfl)
    · replace h := h.2 c15
      refine lv_lload_n hC.1 hC.2.1 dX7_digest_142 rfl (lv_at hl 1 rfl) ?_
      refine lv_ldc2 (v := 31) hC.1 hC.2.1 hC.2.2.2.1 (hC.2.2.2.2 _ (wm 2 rfl)) dX7_digest_143 ?_
      refine lv_lmul hC.1 hC.2.1 dX7_digest_146 ?_
      refine lv_aload_n hC.1 hC.2.1 dX7_digest_147 rfl (lv_at hl 0 rfl) ?_
      refine lv_iload_n hC.1 hC.2.1 dX7_digest_148 rfl (lv_at hl 2 rfl) ?_
      refine lv_iload hC.1 hC.2.1 dX7_digest_149 (lv_at hl 3 rfl) ?_
      refine ag_i G (ag_runV (As := [.int v3, .int v4]) (rest := [.long (v1 * 31)]) hC hT G (c_N_X7_ofBand l D cy lay h _) (cwV 2 hC.2.2.2.2 gX7_digest_X7_ofBand rfl rfl rfl hdV_X7_ofBand ⟨Nat.le_of_ble_eq_true rfl, Nat.le_of_ble_eq_true rfl⟩) (ag_recv hT G (by decide) e_ag k_X7) rfl hl.1 rfl (Nat.le_of_ble_eq_true rfl) dX7_digest_151 ⟨Nat.le_of_ble_eq_true rfl, Nat.le_of_ble_eq_true rfl⟩) (fun r17 σ16 H locs h G => ?_)
      (try dsimp only at h)
      refine lv_i2l (v := Int32.toInt64 r17) hC.1 hC.2.1 dX7_digest_154 rfl ?_
      refine lv_ladd hC.1 hC.2.1 dX7_digest_155 ?_
      refine lv_lstore_n (lv' := [(1, .long ((v1 * 31) + (Int32.toInt64 r17))), (0, .ref (lay 0)), (3, .int v3), (4, .int v4)]) hC.1 hC.2.1 dX7_digest_156 rfl hl (by decide) rfl (fun ls hl => ?_)
      refine lv_iinc (v := v4 + 1) (lv' := [(4, .int (v4 + 1)), (1, .long ((v1 * 31) + (Int32.toInt64 r17))), (0, .ref (lay 0)), (3, .int v3)]) hC.1 hC.2.1 dX7_digest_157 hl (k := 3) rfl rfl (by decide) rfl (fun ls hl => ?_)
      refine lv_goto (tgt := 135) hC.1 hC.2.1 dX7_digest_160 (by decide) ?_
      exact ih _ _ _ _ h _ _ _ G (lv_sub hl [2, 1, 3, 0] rfl)
def u_N_X7_digest_124 (post : Int64 → MS → Prop) : Nat → MS → Int64 → Int32 → Prop
  | 0, _, _, _ => False
  | n + 1, σ, v1, v3 => (((σ 0 7) ≤ v3 → (∃ k, u_N_X7_digest_171 post k σ v1 0)) ∧ (¬ (σ 0 7) ≤ v3 → (∃ k, u_N_X7_digest_135 post (fun σ w0 w1 => u_N_X7_digest_124 post n σ w0 w1) k σ v1 v3 0)))
set_option maxHeartbeats 4000000 in
set_option maxRecDepth 100000 in
theorem l_N_X7_digest_124 {p : Program} {l : Launch} {e : Env} {s : State} {m : MethodId} {args : Array Value} {below : List Frame} {meth : Method} {c : Code} {D : va_G} {cy : Nat → ClassId} {lay : Nat → Nat} {post : Int64 → MS → Prop} (hC : CallFix p m c cX7_digest 5 s args wsX7_digest RX7) (hr : meth.sig.returnType = some .long) (hlocks : meth.locks = false) (hT : agT D cy lay s) : ∀ (n : Nat), ∀ (σ : MS) (v1 : Int64) (v3 : Int32), u_N_X7_digest_124 post n σ v1 v3 → ∀ (H : Heap) (locs : List Loc) (ls : Array Slot), agG D cy lay σ (agA lay s.heap.size) s.heap H locs → lv_has ls 5 [(0, .ref (lay 0)), (1, .long v1), (3, .int v3)] → W p l e rm_N_X7_digest s m args below meth c H locs 0 0 (MQ below (va_Ql post (agO D cy lay) (agA lay s.heap.size)) args s 0 0 (agA lay s.heap.size)) (F0 m 124 ls []) := by
  intro n
  induction n with
  | zero =>
    intro σ v1 v3 h
    exact h.elim
  | succ n ih =>
    intro σ v1 v3 h H locs ls G hl
    rw [u_N_X7_digest_124] at h
    refine lv_iload_n hC.1 hC.2.1 dX7_digest_124 rfl (lv_at hl 2 rfl) ?_
    refine lv_aload_n hC.1 hC.2.1 dX7_digest_125 rfl (lv_at hl 0 rfl) ?_
    refine ag_get hC hT G (by decide) e_ag k_X7 i_N_X7_digest_X7 7 (by decide) (wm 4 rfl) rfl dX7_digest_126 ?_
    refine lv_icmp_ge (tgt := 169) hC.1 hC.2.1 dX7_digest_129 (by decide) (fun c4 => ?_) (fun c4 => ?_)
    · replace h := h.1 c4
      refine lv_iconst (v := 0) hC.1 hC.2.1 dX7_digest_169 (by decide) ?_
      refine lv_istore_n (lv' := [(3, .int 0), (0, .ref (lay 0)), (1, .long v1)]) hC.1 hC.2.1 dX7_digest_170 rfl hl (by decide) rfl (fun ls hl => ?_)
      obtain ⟨n1, h⟩ := h
      exact l_N_X7_digest_171 hC hr hlocks hT n1 _ _ _ h _ _ _ G (lv_sub hl [1, 2, 0] rfl)
    · replace h := h.2 c4
      refine lv_iconst (v := 0) hC.1 hC.2.1 dX7_digest_132 (by decide) ?_
      refine lv_istore (lv' := [(4, .int 0), (0, .ref (lay 0)), (1, .long v1), (3, .int v3)]) hC.1 hC.2.1 dX7_digest_133 hl (by decide) rfl (fun ls hl => ?_)
      obtain ⟨n1, h⟩ := h
      exact l_N_X7_digest_135 (fun σ w0 w1 => u_N_X7_digest_124 post n σ w0 w1) hC hr hlocks hT ih n1 _ _ _ _ h _ _ _ G (lv_sub hl [1, 2, 3, 0] rfl)
def u_N_X7_digest_89 (post : Int64 → MS → Prop) (K80 : MS → Int64 → Int32 → Prop) : Nat → MS → Int64 → Int32 → Int32 → Prop
  | 0, _, _, _, _ => False
  | n + 1, σ, v1, v3, v4 => ((5 < v4 → K80 σ v1 (v3 + 1)) ∧ (¬ 5 < v4 → w_N_X7_ofSong (fun r20 σ19 => u_N_X7_digest_89 post K80 n σ19 ((v1 * 31) + (Int32.toInt64 r20)) v3 (v4 + 1)) σ v3 v4))
set_option maxHeartbeats 4000000 in
set_option maxRecDepth 100000 in
theorem l_N_X7_digest_89 {p : Program} {l : Launch} {e : Env} {s : State} {m : MethodId} {args : Array Value} {below : List Frame} {meth : Method} {c : Code} {D : va_G} {cy : Nat → ClassId} {lay : Nat → Nat} {post : Int64 → MS → Prop} (K80 : MS → Int64 → Int32 → Prop) (hC : CallFix p m c cX7_digest 5 s args wsX7_digest RX7) (hr : meth.sig.returnType = some .long) (hlocks : meth.locks = false) (hT : agT D cy lay s) (hK80 : ∀ (σ : MS) (v1 : Int64) (v3 : Int32), K80 σ v1 v3 → ∀ (H : Heap) (locs : List Loc) (ls : Array Slot), agG D cy lay σ (agA lay s.heap.size) s.heap H locs → lv_has ls 5 [(0, .ref (lay 0)), (1, .long v1), (3, .int v3)] → W p l e rm_N_X7_digest s m args below meth c H locs 0 0 (MQ below (va_Ql post (agO D cy lay) (agA lay s.heap.size)) args s 0 0 (agA lay s.heap.size)) (F0 m 80 ls [])) : ∀ (n : Nat), ∀ (σ : MS) (v1 : Int64) (v3 : Int32) (v4 : Int32), u_N_X7_digest_89 post K80 n σ v1 v3 v4 → ∀ (H : Heap) (locs : List Loc) (ls : Array Slot), agG D cy lay σ (agA lay s.heap.size) s.heap H locs → lv_has ls 5 [(0, .ref (lay 0)), (1, .long v1), (3, .int v3), (4, .int v4)] → W p l e rm_N_X7_digest s m args below meth c H locs 0 0 (MQ below (va_Ql post (agO D cy lay) (agA lay s.heap.size)) args s 0 0 (agA lay s.heap.size)) (F0 m 89 ls []) := by
  intro n
  induction n with
  | zero =>
    intro σ v1 v3 v4 h
    exact h.elim
  | succ n ih =>
    intro σ v1 v3 v4 h H locs ls G hl
    rw [u_N_X7_digest_89] at h
    refine lv_iload hC.1 hC.2.1 dX7_digest_89 (lv_at hl 3 rfl) ?_
    refine lv_iconst (v := 5) hC.1 hC.2.1 dX7_digest_91 (by decide) ?_
    refine lv_icmp_gt (tgt := 116) hC.1 hC.2.1 dX7_digest_92 (by decide) (fun c18 => ?_) (fun c18 => ?_)
    · replace h := h.1 c18
      refine lv_iinc (v := v3 + 1) (lv' := [(3, .int (v3 + 1)), (0, .ref (lay 0)), (1, .long v1), (4, .int v4)]) hC.1 hC.2.1 dX7_digest_116 hl (k := 2) rfl rfl (by decide) rfl (fun ls hl => ?_)
      refine lv_goto (tgt := 80) hC.1 hC.2.1 dX7_digest_119 (by decide) ?_
      exact hK80 _ _ _ h _ _ _ G (lv_sub hl [1, 2, 0] rfl)
    · replace h := h.2 c18
      refine lv_lload_n hC.1 hC.2.1 dX7_digest_95 rfl (lv_at hl 1 rfl) ?_
      refine lv_ldc2 (v := 31) hC.1 hC.2.1 hC.2.2.2.1 (hC.2.2.2.2 _ (wm 2 rfl)) dX7_digest_96 ?_
      refine lv_lmul hC.1 hC.2.1 dX7_digest_99 ?_
      refine lv_aload_n hC.1 hC.2.1 dX7_digest_100 rfl (lv_at hl 0 rfl) ?_
      refine lv_iload_n hC.1 hC.2.1 dX7_digest_101 rfl (lv_at hl 2 rfl) ?_
      refine lv_iload hC.1 hC.2.1 dX7_digest_102 (lv_at hl 3 rfl) ?_
      refine ag_i G (ag_runV (As := [.int v3, .int v4]) (rest := [.long (v1 * 31)]) hC hT G (c_N_X7_ofSong l D cy lay h _) (cwV 2 hC.2.2.2.2 gX7_digest_X7_ofSong rfl rfl rfl hdV_X7_ofSong ⟨Nat.le_of_ble_eq_true rfl, Nat.le_of_ble_eq_true rfl⟩) (ag_recv hT G (by decide) e_ag k_X7) rfl hl.1 rfl (Nat.le_of_ble_eq_true rfl) dX7_digest_104 ⟨Nat.le_of_ble_eq_true rfl, Nat.le_of_ble_eq_true rfl⟩) (fun r20 σ19 H locs h G => ?_)
      (try dsimp only at h)
      refine lv_i2l (v := Int32.toInt64 r20) hC.1 hC.2.1 dX7_digest_107 rfl ?_
      refine lv_ladd hC.1 hC.2.1 dX7_digest_108 ?_
      refine lv_lstore_n (lv' := [(1, .long ((v1 * 31) + (Int32.toInt64 r20))), (0, .ref (lay 0)), (3, .int v3), (4, .int v4)]) hC.1 hC.2.1 dX7_digest_109 rfl hl (by decide) rfl (fun ls hl => ?_)
      refine lv_iinc (v := v4 + 1) (lv' := [(4, .int (v4 + 1)), (1, .long ((v1 * 31) + (Int32.toInt64 r20))), (0, .ref (lay 0)), (3, .int v3)]) hC.1 hC.2.1 dX7_digest_110 hl (k := 3) rfl rfl (by decide) rfl (fun ls hl => ?_)
      refine lv_goto (tgt := 89) hC.1 hC.2.1 dX7_digest_113 (by decide) ?_
      exact ih _ _ _ _ h _ _ _ G (lv_sub hl [2, 1, 3, 0] rfl)
def u_N_X7_digest_80 (post : Int64 → MS → Prop) : Nat → MS → Int64 → Int32 → Prop
  | 0, _, _, _ => False
  | n + 1, σ, v1, v3 => ((16 ≤ v3 → (∃ k, u_N_X7_digest_124 post k σ v1 0)) ∧ (¬ 16 ≤ v3 → (∃ k, u_N_X7_digest_89 post (fun σ w0 w1 => u_N_X7_digest_80 post n σ w0 w1) k σ v1 v3 0)))
set_option maxHeartbeats 4000000 in
set_option maxRecDepth 100000 in
theorem l_N_X7_digest_80 {p : Program} {l : Launch} {e : Env} {s : State} {m : MethodId} {args : Array Value} {below : List Frame} {meth : Method} {c : Code} {D : va_G} {cy : Nat → ClassId} {lay : Nat → Nat} {post : Int64 → MS → Prop} (hC : CallFix p m c cX7_digest 5 s args wsX7_digest RX7) (hr : meth.sig.returnType = some .long) (hlocks : meth.locks = false) (hT : agT D cy lay s) : ∀ (n : Nat), ∀ (σ : MS) (v1 : Int64) (v3 : Int32), u_N_X7_digest_80 post n σ v1 v3 → ∀ (H : Heap) (locs : List Loc) (ls : Array Slot), agG D cy lay σ (agA lay s.heap.size) s.heap H locs → lv_has ls 5 [(0, .ref (lay 0)), (1, .long v1), (3, .int v3)] → W p l e rm_N_X7_digest s m args below meth c H locs 0 0 (MQ below (va_Ql post (agO D cy lay) (agA lay s.heap.size)) args s 0 0 (agA lay s.heap.size)) (F0 m 80 ls []) := by
  intro n
  induction n with
  | zero =>
    intro σ v1 v3 h
    exact h.elim
  | succ n ih =>
    intro σ v1 v3 h H locs ls G hl
    rw [u_N_X7_digest_80] at h
    refine lv_iload_n hC.1 hC.2.1 dX7_digest_80 rfl (lv_at hl 2 rfl) ?_
    refine lv_bipush (v := 16) hC.1 hC.2.1 dX7_digest_81 (by decide) ?_
    refine lv_icmp_ge (tgt := 122) hC.1 hC.2.1 dX7_digest_83 (by decide) (fun c3 => ?_) (fun c3 => ?_)
    · replace h := h.1 c3
      refine lv_iconst (v := 0) hC.1 hC.2.1 dX7_digest_122 (by decide) ?_
      refine lv_istore_n (lv' := [(3, .int 0), (0, .ref (lay 0)), (1, .long v1)]) hC.1 hC.2.1 dX7_digest_123 rfl hl (by decide) rfl (fun ls hl => ?_)
      obtain ⟨n1, h⟩ := h
      exact l_N_X7_digest_124 hC hr hlocks hT n1 _ _ _ h _ _ _ G (lv_sub hl [1, 2, 0] rfl)
    · replace h := h.2 c3
      refine lv_iconst (v := 0) hC.1 hC.2.1 dX7_digest_86 (by decide) ?_
      refine lv_istore (lv' := [(4, .int 0), (0, .ref (lay 0)), (1, .long v1), (3, .int v3)]) hC.1 hC.2.1 dX7_digest_87 hl (by decide) rfl (fun ls hl => ?_)
      obtain ⟨n1, h⟩ := h
      exact l_N_X7_digest_89 (fun σ w0 w1 => u_N_X7_digest_80 post n σ w0 w1) hC hr hlocks hT ih n1 _ _ _ _ h _ _ _ G (lv_sub hl [1, 2, 3, 0] rfl)
def u_N_X7_digest_44 (post : Int64 → MS → Prop) (K33 : MS → Int64 → Int32 → Prop) : Nat → MS → Int64 → Int32 → Int32 → Prop
  | 0, _, _, _, _ => False
  | n + 1, σ, v1, v3, v4 => ((8 < v4 → K33 σ v1 (v3 + 1)) ∧ (¬ 8 < v4 → w_N_X7_ofPlayer (fun r23 σ22 => u_N_X7_digest_44 post K33 n σ22 ((v1 * 31) + (Int32.toInt64 r23)) v3 (v4 + 1)) σ v3 v4))
set_option maxHeartbeats 4000000 in
set_option maxRecDepth 100000 in
theorem l_N_X7_digest_44 {p : Program} {l : Launch} {e : Env} {s : State} {m : MethodId} {args : Array Value} {below : List Frame} {meth : Method} {c : Code} {D : va_G} {cy : Nat → ClassId} {lay : Nat → Nat} {post : Int64 → MS → Prop} (K33 : MS → Int64 → Int32 → Prop) (hC : CallFix p m c cX7_digest 5 s args wsX7_digest RX7) (hr : meth.sig.returnType = some .long) (hlocks : meth.locks = false) (hT : agT D cy lay s) (hK33 : ∀ (σ : MS) (v1 : Int64) (v3 : Int32), K33 σ v1 v3 → ∀ (H : Heap) (locs : List Loc) (ls : Array Slot), agG D cy lay σ (agA lay s.heap.size) s.heap H locs → lv_has ls 5 [(0, .ref (lay 0)), (1, .long v1), (3, .int v3)] → W p l e rm_N_X7_digest s m args below meth c H locs 0 0 (MQ below (va_Ql post (agO D cy lay) (agA lay s.heap.size)) args s 0 0 (agA lay s.heap.size)) (F0 m 33 ls [])) : ∀ (n : Nat), ∀ (σ : MS) (v1 : Int64) (v3 : Int32) (v4 : Int32), u_N_X7_digest_44 post K33 n σ v1 v3 v4 → ∀ (H : Heap) (locs : List Loc) (ls : Array Slot), agG D cy lay σ (agA lay s.heap.size) s.heap H locs → lv_has ls 5 [(0, .ref (lay 0)), (1, .long v1), (3, .int v3), (4, .int v4)] → W p l e rm_N_X7_digest s m args below meth c H locs 0 0 (MQ below (va_Ql post (agO D cy lay) (agA lay s.heap.size)) args s 0 0 (agA lay s.heap.size)) (F0 m 44 ls []) := by
  intro n
  induction n with
  | zero =>
    intro σ v1 v3 v4 h
    exact h.elim
  | succ n ih =>
    intro σ v1 v3 v4 h H locs ls G hl
    rw [u_N_X7_digest_44] at h
    refine lv_iload hC.1 hC.2.1 dX7_digest_44 (lv_at hl 3 rfl) ?_
    refine lv_bipush (v := 8) hC.1 hC.2.1 dX7_digest_46 (by decide) ?_
    refine lv_icmp_gt (tgt := 72) hC.1 hC.2.1 dX7_digest_48 (by decide) (fun c21 => ?_) (fun c21 => ?_)
    · replace h := h.1 c21
      refine lv_iinc (v := v3 + 1) (lv' := [(3, .int (v3 + 1)), (0, .ref (lay 0)), (1, .long v1), (4, .int v4)]) hC.1 hC.2.1 dX7_digest_72 hl (k := 2) rfl rfl (by decide) rfl (fun ls hl => ?_)
      refine lv_goto (tgt := 33) hC.1 hC.2.1 dX7_digest_75 (by decide) ?_
      exact hK33 _ _ _ h _ _ _ G (lv_sub hl [1, 2, 0] rfl)
    · replace h := h.2 c21
      refine lv_lload_n hC.1 hC.2.1 dX7_digest_51 rfl (lv_at hl 1 rfl) ?_
      refine lv_ldc2 (v := 31) hC.1 hC.2.1 hC.2.2.2.1 (hC.2.2.2.2 _ (wm 2 rfl)) dX7_digest_52 ?_
      refine lv_lmul hC.1 hC.2.1 dX7_digest_55 ?_
      refine lv_aload_n hC.1 hC.2.1 dX7_digest_56 rfl (lv_at hl 0 rfl) ?_
      refine lv_iload_n hC.1 hC.2.1 dX7_digest_57 rfl (lv_at hl 2 rfl) ?_
      refine lv_iload hC.1 hC.2.1 dX7_digest_58 (lv_at hl 3 rfl) ?_
      refine ag_i G (ag_runV (As := [.int v3, .int v4]) (rest := [.long (v1 * 31)]) hC hT G (c_N_X7_ofPlayer l D cy lay h _) (cwV 2 hC.2.2.2.2 gX7_digest_X7_ofPlayer rfl rfl rfl hdV_X7_ofPlayer ⟨Nat.le_of_ble_eq_true rfl, Nat.le_of_ble_eq_true rfl⟩) (ag_recv hT G (by decide) e_ag k_X7) rfl hl.1 rfl (Nat.le_of_ble_eq_true rfl) dX7_digest_60 ⟨Nat.le_of_ble_eq_true rfl, Nat.le_of_ble_eq_true rfl⟩) (fun r23 σ22 H locs h G => ?_)
      (try dsimp only at h)
      refine lv_i2l (v := Int32.toInt64 r23) hC.1 hC.2.1 dX7_digest_63 rfl ?_
      refine lv_ladd hC.1 hC.2.1 dX7_digest_64 ?_
      refine lv_lstore_n (lv' := [(1, .long ((v1 * 31) + (Int32.toInt64 r23))), (0, .ref (lay 0)), (3, .int v3), (4, .int v4)]) hC.1 hC.2.1 dX7_digest_65 rfl hl (by decide) rfl (fun ls hl => ?_)
      refine lv_iinc (v := v4 + 1) (lv' := [(4, .int (v4 + 1)), (1, .long ((v1 * 31) + (Int32.toInt64 r23))), (0, .ref (lay 0)), (3, .int v3)]) hC.1 hC.2.1 dX7_digest_66 hl (k := 3) rfl rfl (by decide) rfl (fun ls hl => ?_)
      refine lv_goto (tgt := 44) hC.1 hC.2.1 dX7_digest_69 (by decide) ?_
      exact ih _ _ _ _ h _ _ _ G (lv_sub hl [2, 1, 3, 0] rfl)
def u_N_X7_digest_33 (post : Int64 → MS → Prop) : Nat → MS → Int64 → Int32 → Prop
  | 0, _, _, _ => False
  | n + 1, σ, v1, v3 => (((σ 0 6) ≤ v3 → (∃ k, u_N_X7_digest_80 post k σ v1 0)) ∧ (¬ (σ 0 6) ≤ v3 → (∃ k, u_N_X7_digest_44 post (fun σ w0 w1 => u_N_X7_digest_33 post n σ w0 w1) k σ v1 v3 0)))
set_option maxHeartbeats 4000000 in
set_option maxRecDepth 100000 in
theorem l_N_X7_digest_33 {p : Program} {l : Launch} {e : Env} {s : State} {m : MethodId} {args : Array Value} {below : List Frame} {meth : Method} {c : Code} {D : va_G} {cy : Nat → ClassId} {lay : Nat → Nat} {post : Int64 → MS → Prop} (hC : CallFix p m c cX7_digest 5 s args wsX7_digest RX7) (hr : meth.sig.returnType = some .long) (hlocks : meth.locks = false) (hT : agT D cy lay s) : ∀ (n : Nat), ∀ (σ : MS) (v1 : Int64) (v3 : Int32), u_N_X7_digest_33 post n σ v1 v3 → ∀ (H : Heap) (locs : List Loc) (ls : Array Slot), agG D cy lay σ (agA lay s.heap.size) s.heap H locs → lv_has ls 5 [(0, .ref (lay 0)), (1, .long v1), (3, .int v3)] → W p l e rm_N_X7_digest s m args below meth c H locs 0 0 (MQ below (va_Ql post (agO D cy lay) (agA lay s.heap.size)) args s 0 0 (agA lay s.heap.size)) (F0 m 33 ls []) := by
  intro n
  induction n with
  | zero =>
    intro σ v1 v3 h
    exact h.elim
  | succ n ih =>
    intro σ v1 v3 h H locs ls G hl
    rw [u_N_X7_digest_33] at h
    refine lv_iload_n hC.1 hC.2.1 dX7_digest_33 rfl (lv_at hl 2 rfl) ?_
    refine lv_aload_n hC.1 hC.2.1 dX7_digest_34 rfl (lv_at hl 0 rfl) ?_
    refine ag_get hC hT G (by decide) e_ag k_X7 i_N_X7_digest_X7 6 (by decide) (wm 3 rfl) rfl dX7_digest_35 ?_
    refine lv_icmp_ge (tgt := 78) hC.1 hC.2.1 dX7_digest_38 (by decide) (fun c2 => ?_) (fun c2 => ?_)
    · replace h := h.1 c2
      refine lv_iconst (v := 0) hC.1 hC.2.1 dX7_digest_78 (by decide) ?_
      refine lv_istore_n (lv' := [(3, .int 0), (0, .ref (lay 0)), (1, .long v1)]) hC.1 hC.2.1 dX7_digest_79 rfl hl (by decide) rfl (fun ls hl => ?_)
      obtain ⟨n1, h⟩ := h
      exact l_N_X7_digest_80 hC hr hlocks hT n1 _ _ _ h _ _ _ G (lv_sub hl [1, 2, 0] rfl)
    · replace h := h.2 c2
      refine lv_iconst (v := 0) hC.1 hC.2.1 dX7_digest_41 (by decide) ?_
      refine lv_istore (lv' := [(4, .int 0), (0, .ref (lay 0)), (1, .long v1), (3, .int v3)]) hC.1 hC.2.1 dX7_digest_42 hl (by decide) rfl (fun ls hl => ?_)
      obtain ⟨n1, h⟩ := h
      exact l_N_X7_digest_44 (fun σ w0 w1 => u_N_X7_digest_33 post n σ w0 w1) hC hr hlocks hT ih n1 _ _ _ _ h _ _ _ G (lv_sub hl [1, 2, 3, 0] rfl)
def u_N_X7_digest_6 (post : Int64 → MS → Prop) : Nat → MS → Int64 → Int32 → Prop
  | 0, _, _, _ => False
  | n + 1, σ, v1, v3 => ((12 < v3 → (∃ k, u_N_X7_digest_33 post k σ v1 0)) ∧ (¬ 12 < v3 → w_N_X7_desk (fun r25 σ24 => u_N_X7_digest_6 post n σ24 ((v1 * 31) + (Int32.toInt64 r25)) (v3 + 1)) σ v3))
set_option maxHeartbeats 4000000 in
set_option maxRecDepth 100000 in
theorem l_N_X7_digest_6 {p : Program} {l : Launch} {e : Env} {s : State} {m : MethodId} {args : Array Value} {below : List Frame} {meth : Method} {c : Code} {D : va_G} {cy : Nat → ClassId} {lay : Nat → Nat} {post : Int64 → MS → Prop} (hC : CallFix p m c cX7_digest 5 s args wsX7_digest RX7) (hr : meth.sig.returnType = some .long) (hlocks : meth.locks = false) (hT : agT D cy lay s) : ∀ (n : Nat), ∀ (σ : MS) (v1 : Int64) (v3 : Int32), u_N_X7_digest_6 post n σ v1 v3 → ∀ (H : Heap) (locs : List Loc) (ls : Array Slot), agG D cy lay σ (agA lay s.heap.size) s.heap H locs → lv_has ls 5 [(0, .ref (lay 0)), (1, .long v1), (3, .int v3)] → W p l e rm_N_X7_digest s m args below meth c H locs 0 0 (MQ below (va_Ql post (agO D cy lay) (agA lay s.heap.size)) args s 0 0 (agA lay s.heap.size)) (F0 m 6 ls []) := by
  intro n
  induction n with
  | zero =>
    intro σ v1 v3 h
    exact h.elim
  | succ n ih =>
    intro σ v1 v3 h H locs ls G hl
    rw [u_N_X7_digest_6] at h
    refine lv_iload_n hC.1 hC.2.1 dX7_digest_6 rfl (lv_at hl 2 rfl) ?_
    refine lv_bipush (v := 12) hC.1 hC.2.1 dX7_digest_7 (by decide) ?_
    refine lv_icmp_gt (tgt := 31) hC.1 hC.2.1 dX7_digest_9 (by decide) (fun c1 => ?_) (fun c1 => ?_)
    · replace h := h.1 c1
      refine lv_iconst (v := 0) hC.1 hC.2.1 dX7_digest_31 (by decide) ?_
      refine lv_istore_n (lv' := [(3, .int 0), (0, .ref (lay 0)), (1, .long v1)]) hC.1 hC.2.1 dX7_digest_32 rfl hl (by decide) rfl (fun ls hl => ?_)
      obtain ⟨n1, h⟩ := h
      exact l_N_X7_digest_33 hC hr hlocks hT n1 _ _ _ h _ _ _ G (lv_sub hl [1, 2, 0] rfl)
    · replace h := h.2 c1
      refine lv_lload_n hC.1 hC.2.1 dX7_digest_12 rfl (lv_at hl 1 rfl) ?_
      refine lv_ldc2 (v := 31) hC.1 hC.2.1 hC.2.2.2.1 (hC.2.2.2.2 _ (wm 2 rfl)) dX7_digest_13 ?_
      refine lv_lmul hC.1 hC.2.1 dX7_digest_16 ?_
      refine lv_aload_n hC.1 hC.2.1 dX7_digest_17 rfl (lv_at hl 0 rfl) ?_
      refine lv_iload_n hC.1 hC.2.1 dX7_digest_18 rfl (lv_at hl 2 rfl) ?_
      refine ag_i G (ag_runV (As := [.int v3]) (rest := [.long (v1 * 31)]) hC hT G (c_N_X7_desk l D cy lay h _) (cwV 1 hC.2.2.2.2 gX7_digest_X7_desk rfl rfl rfl hdV_X7_desk ⟨Nat.le_of_ble_eq_true rfl, Nat.le_of_ble_eq_true rfl⟩) (ag_recv hT G (by decide) e_ag k_X7) rfl hl.1 rfl (Nat.le_of_ble_eq_true rfl) dX7_digest_19 ⟨Nat.le_of_ble_eq_true rfl, Nat.le_of_ble_eq_true rfl⟩) (fun r25 σ24 H locs h G => ?_)
      (try dsimp only at h)
      refine lv_i2l (v := Int32.toInt64 r25) hC.1 hC.2.1 dX7_digest_22 rfl ?_
      refine lv_ladd hC.1 hC.2.1 dX7_digest_23 ?_
      refine lv_lstore_n (lv' := [(1, .long ((v1 * 31) + (Int32.toInt64 r25))), (0, .ref (lay 0)), (3, .int v3)]) hC.1 hC.2.1 dX7_digest_24 rfl hl (by decide) rfl (fun ls hl => ?_)
      refine lv_iinc (v := v3 + 1) (lv' := [(3, .int (v3 + 1)), (1, .long ((v1 * 31) + (Int32.toInt64 r25))), (0, .ref (lay 0))]) hC.1 hC.2.1 dX7_digest_25 hl (k := 2) rfl rfl (by decide) rfl (fun ls hl => ?_)
      refine lv_goto (tgt := 6) hC.1 hC.2.1 dX7_digest_28 (by decide) ?_
      exact ih _ _ _ h _ _ _ G (lv_sub hl [2, 1, 0] rfl)
def w_N_X7_digest (post : Int64 → MS → Prop) (σ : MS) : Prop := (∃ k, u_N_X7_digest_6 post k σ 58278 0)
set_option maxHeartbeats 4000000 in
set_option maxRecDepth 100000 in
theorem c_N_X7_digest (l : Launch) (D : va_G) (cy : Nat → ClassId) (lay : Nat → Nat) {σ : MS} {post : Int64 → MS → Prop} (h : w_N_X7_digest post σ) (sz : Nat) : Met l yX7_digest wsX7_digest rm_N_X7_digest (va_Pc [.ref (lay 0)] (agI D cy lay σ sz)) (va_Ql post (agO D cy lay) (agA lay sz)) 0 0 (agA lay sz) := by
  refine ag_ofW (cc := cX7_digest) (maxL := 5) (ret := some .long) (own := RX7) (Qc := fun sz => va_Ql post (agO D cy lay) (agA lay sz)) (by decide) rfl (Nat.le_of_ble_eq_true rfl) rfl ?_
  intro p e s m args below meth c ls hC hr hlocks hT G hl
  unfold w_N_X7_digest at h
  have hl : lv_has ls 5 [(0, .ref (lay 0))] := hl
  refine lv_ldc2 (v := 58278) hC.1 hC.2.1 hC.2.2.2.1 (hC.2.2.2.2 _ (wm 1 rfl)) dX7_digest_0 ?_
  refine lv_lstore_n (lv' := [(1, .long 58278), (0, .ref (lay 0))]) hC.1 hC.2.1 dX7_digest_3 rfl hl (by decide) rfl (fun ls hl => ?_)
  refine lv_iconst (v := 0) hC.1 hC.2.1 dX7_digest_4 (by decide) ?_
  refine lv_istore_n (lv' := [(3, .int 0), (1, .long 58278), (0, .ref (lay 0))]) hC.1 hC.2.1 dX7_digest_5 rfl hl (by decide) rfl (fun ls hl => ?_)
  obtain ⟨n1, h⟩ := h
  exact l_N_X7_digest_6 hC hr hlocks hT n1 _ _ _ h _ _ _ G (lv_sub hl [2, 1, 0] rfl)
theorem hdV_X7_digest : yX7_digest.cls = RX7 ∧ yX7_digest.cls ≠ "java/lang/invoke/MethodHandle" ∧ yX7_digest.cls ≠ "java/lang/invoke/VarHandle" ∧ (parseMethodDescriptor yX7_digest.desc).map (fun d => d.parameters.length) = some 0 := by decide +kernel
abbrev rm_T_X7_checkTown : Room := { frames := 6, cells := 1, slots := 6, locals := 82 }
def w_T_X7_checkTown (post : MS → Prop) (pex : String → MS → Prop) (σ : MS) (a0 : Int32) : Prop := w_X7_isTown (fun r2 σ1 => ((r2 = 0 → pex "java/lang/IndexOutOfBoundsException" σ1) ∧ (¬ r2 = 0 → post σ1))) σ a0
set_option maxHeartbeats 4000000 in
set_option maxRecDepth 100000 in
theorem c_T_X7_checkTown (l : Launch) (hl0 : l.stackTraces = false) (D : va_G) (cy : Nat → ClassId) (lay : Nat → Nat) {σ : MS} {post : MS → Prop} {pex : String → MS → Prop} {a0 : Int32} (h : w_T_X7_checkTown post pex σ a0) (sz : Nat) : vx_Met l yX7_checkTown wsX7_checkTown rm_T_X7_checkTown (va_Pc [.int a0] (agI D cy lay σ sz)) (va_Qv post (agO D cy lay) (agA lay sz)) (agXC D cy lay pex sz) 1 6 (agA lay sz) := by
  refine ag_ofX (cc := cX7_checkTown) (maxL := 1) (ret := none) (own := RX7) (Qc := fun sz => va_Qv post (agO D cy lay) (agA lay sz)) (by decide) rfl (Nat.le_of_ble_eq_true rfl) rfl ?_
  intro p e s m args below meth c ls hC hr hlocks htab hT G hl
  unfold w_T_X7_checkTown at h
  have hl : lv_has ls 1 [(0, .int a0)] := hl
  refine lv_iload_n hC.1 hC.2.1 dX7_checkTown_0 rfl (lv_at hl 0 rfl) ?_
  refine ag_i G (ag_runS (As := [.int a0]) (rest := []) hC hT G (c_X7_isTown l D cy lay h _) (va_cwS 1 hC.2.2.2.2 gX7_checkTown_X7_isTown rfl rfl rfl hdS_X7_isTown ⟨Nat.le_of_ble_eq_true rfl, Nat.le_of_ble_eq_true rfl⟩) rfl hl.1 rfl (Nat.le_of_ble_eq_true rfl) dX7_checkTown_1 ⟨Nat.le_of_ble_eq_true rfl, Nat.le_of_ble_eq_true rfl⟩) (fun r2 σ1 H locs h G => ?_)
  (try dsimp only at h)
  refine lv_if_ne (tgt := 17) hC.1 hC.2.1 dX7_checkTown_4 (by decide) (fun c3 => ?_) (fun c3 => ?_)
  · replace h := h.2 c3
    refine W.widen (k := 1) (n := 6) (by decide) (by decide) ?_
    exact vx_ret (ag_vret hC hr hlocks G h dX7_checkTown_17)
  · replace h := h.1 c3
    exact ag_throw (text := "no such town") (names := ["java/lang/RuntimeException", "java/lang/Exception"]) hl0 hC hT G htab hlocks hl.1 (by decide) (by decide) (wm 1 rfl) (wm 2 rfl) (List.mem_of_getElem? (i := 0) rfl) (fun _ h => List.mem_cons_of_mem _ (List.mem_append_right _ h)) exIOB_all exIOB_good dX7_checkTown_7 dX7_checkTown_10 dX7_checkTown_11 dX7_checkTown_13 dX7_checkTown_16 (by decide) (Nat.le_of_ble_eq_true rfl) (Nat.le_of_ble_eq_true rfl) (Nat.le_of_ble_eq_true rfl) (by decide) (by decide) h
abbrev rm_T_X7_checkSong : Room := { frames := 6, cells := 1, slots := 6, locals := 82 }
def u_T_X7_checkSong_10 (post : MS → Prop) (pex : String → MS → Prop) (a0 : Int32) (σ : MS) : Prop := pex "java/lang/IndexOutOfBoundsException" σ
set_option maxHeartbeats 4000000 in
set_option maxRecDepth 100000 in
theorem l_T_X7_checkSong_10 {p : Program} {l : Launch} {e : Env} {s : State} {m : MethodId} {args : Array Value} {below : List Frame} {meth : Method} {c : Code} {D : va_G} {cy : Nat → ClassId} {lay : Nat → Nat} {post : MS → Prop} {pex : String → MS → Prop} (a0 : Int32) (hl0 : l.stackTraces = false) (hC : CallFix p m c cX7_checkSong 1 s args wsX7_checkSong RX7) (hr : meth.sig.returnType = none) (hlocks : meth.locks = false) (htab : ∀ x ∈ c.exceptionTable.toList, False) (hT : agT D cy lay s) : ∀ (σ : MS), u_T_X7_checkSong_10 post pex a0 σ → ∀ (H : Heap) (locs : List Loc) (ls : Array Slot), agG D cy lay σ (agA lay s.heap.size) s.heap H locs → lv_has ls 1 [(0, .int a0)] → W p l e rm_T_X7_checkSong s m args below meth c H locs 0 0 (vx_MQ below (va_Qv post (agO D cy lay) (agA lay s.heap.size)) (agXC D cy lay pex s.heap.size) args s 1 6 (agA lay s.heap.size)) (F0 m 10 ls []) := by
  intro σ h H locs ls G hl
  unfold u_T_X7_checkSong_10 at h
  exact ag_throwW (text := "no such song") (names := ["java/lang/RuntimeException", "java/lang/Exception"]) hl0 hC hT G htab hlocks hl.1 (by decide) (by decide) (wm 1 rfl) (wm 2 rfl) (List.mem_of_getElem? (i := 30) rfl) (fun _ h => List.mem_cons_of_mem _ (List.mem_append_right _ h)) exIOB_all exIOB_good dX7_checkSong_10 dX7_checkSong_13 dX7_checkSong_14 dX7_checkSong_17 dX7_checkSong_20 (by decide) (Nat.le_of_ble_eq_true rfl) (Nat.le_of_ble_eq_true rfl) (Nat.le_of_ble_eq_true rfl) (by decide) (by decide) h
def w_T_X7_checkSong (post : MS → Prop) (pex : String → MS → Prop) (σ : MS) (a0 : Int32) : Prop := ((a0 < 0 → u_T_X7_checkSong_10 post pex a0 σ) ∧ (¬ a0 < 0 → ((a0 < 16 → post σ) ∧ (¬ a0 < 16 → u_T_X7_checkSong_10 post pex a0 σ))))
set_option maxHeartbeats 4000000 in
set_option maxRecDepth 100000 in
theorem c_T_X7_checkSong (l : Launch) (hl0 : l.stackTraces = false) (D : va_G) (cy : Nat → ClassId) (lay : Nat → Nat) {σ : MS} {post : MS → Prop} {pex : String → MS → Prop} {a0 : Int32} (h : w_T_X7_checkSong post pex σ a0) (sz : Nat) : vx_Met l yX7_checkSong wsX7_checkSong rm_T_X7_checkSong (va_Pc [.int a0] (agI D cy lay σ sz)) (va_Qv post (agO D cy lay) (agA lay sz)) (agXC D cy lay pex sz) 1 6 (agA lay sz) := by
  refine ag_ofX (cc := cX7_checkSong) (maxL := 1) (ret := none) (own := RX7) (Qc := fun sz => va_Qv post (agO D cy lay) (agA lay sz)) (by decide) rfl (Nat.le_of_ble_eq_true rfl) rfl ?_
  intro p e s m args below meth c ls hC hr hlocks htab hT G hl
  unfold w_T_X7_checkSong at h
  have hl : lv_has ls 1 [(0, .int a0)] := hl
  refine lv_iload_n hC.1 hC.2.1 dX7_checkSong_0 rfl (lv_at hl 0 rfl) ?_
  refine lv_if_lt (tgt := 10) hC.1 hC.2.1 dX7_checkSong_1 (by decide) (fun c1 => ?_) (fun c1 => ?_)
  · replace h := h.1 c1
    exact l_T_X7_checkSong_10 a0 hl0 hC hr hlocks htab hT _ h _ _ _ G (lv_sub hl [0] rfl)
  · replace h := h.2 c1
    refine lv_iload_n hC.1 hC.2.1 dX7_checkSong_4 rfl (lv_at hl 0 rfl) ?_
    refine lv_bipush (v := 16) hC.1 hC.2.1 dX7_checkSong_5 (by decide) ?_
    refine lv_icmp_lt (tgt := 21) hC.1 hC.2.1 dX7_checkSong_7 (by decide) (fun c2 => ?_) (fun c2 => ?_)
    · replace h := h.1 c2
      refine W.widen (k := 1) (n := 6) (by decide) (by decide) ?_
      exact vx_ret (ag_vret hC hr hlocks G h dX7_checkSong_21)
    · replace h := h.2 c2
      exact l_T_X7_checkSong_10 a0 hl0 hC hr hlocks htab hT _ h _ _ _ G (lv_sub hl [0] rfl)
abbrev rm_T_X7_checkPlayer : Room := { frames := 6, cells := 1, slots := 6, locals := 82 }
theorem i_T_X7_checkPlayer_X7 : ∀ w ∈ wsX70, w ∈ wsX7_checkPlayer := fun _ h => List.mem_cons_of_mem _ (List.mem_append_left _ (List.mem_append_right _ h))
def u_T_X7_checkPlayer_12 (post : MS → Prop) (pex : String → MS → Prop) (a1 : Int32) (σ : MS) : Prop := pex "java/lang/IndexOutOfBoundsException" σ
set_option maxHeartbeats 4000000 in
set_option maxRecDepth 100000 in
theorem l_T_X7_checkPlayer_12 {p : Program} {l : Launch} {e : Env} {s : State} {m : MethodId} {args : Array Value} {below : List Frame} {meth : Method} {c : Code} {D : va_G} {cy : Nat → ClassId} {lay : Nat → Nat} {post : MS → Prop} {pex : String → MS → Prop} (a1 : Int32) (hl0 : l.stackTraces = false) (hC : CallFix p m c cX7_checkPlayer 2 s args wsX7_checkPlayer RX7) (hr : meth.sig.returnType = none) (hlocks : meth.locks = false) (htab : ∀ x ∈ c.exceptionTable.toList, False) (hT : agT D cy lay s) : ∀ (σ : MS), u_T_X7_checkPlayer_12 post pex a1 σ → ∀ (H : Heap) (locs : List Loc) (ls : Array Slot), agG D cy lay σ (agA lay s.heap.size) s.heap H locs → lv_has ls 2 [(0, .ref (lay 0)), (1, .int a1)] → W p l e rm_T_X7_checkPlayer s m args below meth c H locs 0 0 (vx_MQ below (va_Qv post (agO D cy lay) (agA lay s.heap.size)) (agXC D cy lay pex s.heap.size) args s 1 6 (agA lay s.heap.size)) (F0 m 12 ls []) := by
  intro σ h H locs ls G hl
  unfold u_T_X7_checkPlayer_12 at h
  exact ag_throwW (text := "no such player") (names := ["java/lang/RuntimeException", "java/lang/Exception"]) hl0 hC hT G htab hlocks hl.1 (by decide) (by decide) (wm 1 rfl) (wm 2 rfl) (List.mem_of_getElem? (i := 31) rfl) (fun _ h => List.mem_cons_of_mem _ (List.mem_append_right _ h)) exIOB_all exIOB_good dX7_checkPlayer_12 dX7_checkPlayer_15 dX7_checkPlayer_16 dX7_checkPlayer_19 dX7_checkPlayer_22 (by decide) (Nat.le_of_ble_eq_true rfl) (Nat.le_of_ble_eq_true rfl) (Nat.le_of_ble_eq_true rfl) (by decide) (by decide) h
def w_T_X7_checkPlayer (post : MS → Prop) (pex : String → MS → Prop) (σ : MS) (a1 : Int32) : Prop := ((a1 < 0 → u_T_X7_checkPlayer_12 post pex a1 σ) ∧ (¬ a1 < 0 → ((a1 < (σ 0 6) → post σ) ∧ (¬ a1 < (σ 0 6) → u_T_X7_checkPlayer_12 post pex a1 σ))))
set_option maxHeartbeats 4000000 in
set_option maxRecDepth 100000 in
theorem c_T_X7_checkPlayer (l : Launch) (hl0 : l.stackTraces = false) (D : va_G) (cy : Nat → ClassId) (lay : Nat → Nat) {σ : MS} {post : MS → Prop} {pex : String → MS → Prop} {a1 : Int32} (h : w_T_X7_checkPlayer post pex σ a1) (sz : Nat) : vx_Met l yX7_checkPlayer wsX7_checkPlayer rm_T_X7_checkPlayer (va_Pc [.ref (lay 0), .int a1] (agI D cy lay σ sz)) (va_Qv post (agO D cy lay) (agA lay sz)) (agXC D cy lay pex sz) 1 6 (agA lay sz) := by
  refine ag_ofX (cc := cX7_checkPlayer) (maxL := 2) (ret := none) (own := RX7) (Qc := fun sz => va_Qv post (agO D cy lay) (agA lay sz)) (by decide) rfl (Nat.le_of_ble_eq_true rfl) rfl ?_
  intro p e s m args below meth c ls hC hr hlocks htab hT G hl
  unfold w_T_X7_checkPlayer at h
  have hl : lv_has ls 2 [(0, .ref (lay 0)), (1, .int a1)] := hl
  refine lv_iload_n hC.1 hC.2.1 dX7_checkPlayer_0 rfl (lv_at hl 1 rfl) ?_
  refine lv_if_lt (tgt := 12) hC.1 hC.2.1 dX7_checkPlayer_1 (by decide) (fun c1 => ?_) (fun c1 => ?_)
  · replace h := h.1 c1
    exact l_T_X7_checkPlayer_12 a1 hl0 hC hr hlocks htab hT _ h _ _ _ G (lv_sub hl [0, 1] rfl)
  · replace h := h.2 c1
    refine lv_iload_n hC.1 hC.2.1 dX7_checkPlayer_4 rfl (lv_at hl 1 rfl) ?_
    refine lv_aload_n hC.1 hC.2.1 dX7_checkPlayer_5 rfl (lv_at hl 0 rfl) ?_
    refine ag_get hC hT G (by decide) e_ag k_X7 i_T_X7_checkPlayer_X7 6 (by decide) (wm 3 rfl) rfl dX7_checkPlayer_6 ?_
    refine lv_icmp_lt (tgt := 23) hC.1 hC.2.1 dX7_checkPlayer_9 (by decide) (fun c2 => ?_) (fun c2 => ?_)
    · replace h := h.1 c2
      refine W.widen (k := 1) (n := 6) (by decide) (by decide) ?_
      exact vx_ret (ag_vret hC hr hlocks G h dX7_checkPlayer_23)
    · replace h := h.2 c2
      exact l_T_X7_checkPlayer_12 a1 hl0 hC hr hlocks htab hT _ h _ _ _ G (lv_sub hl [0, 1] rfl)
abbrev rm_T_X7_checkBand : Room := { frames := 6, cells := 1, slots := 6, locals := 82 }
theorem i_T_X7_checkBand_X7 : ∀ w ∈ wsX70, w ∈ wsX7_checkBand := fun _ h => List.mem_cons_of_mem _ (List.mem_append_left _ (List.mem_append_right _ h))
def u_T_X7_checkBand_12 (post : MS → Prop) (pex : String → MS → Prop) (a1 : Int32) (σ : MS) : Prop := pex "java/lang/IndexOutOfBoundsException" σ
set_option maxHeartbeats 4000000 in
set_option maxRecDepth 100000 in
theorem l_T_X7_checkBand_12 {p : Program} {l : Launch} {e : Env} {s : State} {m : MethodId} {args : Array Value} {below : List Frame} {meth : Method} {c : Code} {D : va_G} {cy : Nat → ClassId} {lay : Nat → Nat} {post : MS → Prop} {pex : String → MS → Prop} (a1 : Int32) (hl0 : l.stackTraces = false) (hC : CallFix p m c cX7_checkBand 2 s args wsX7_checkBand RX7) (hr : meth.sig.returnType = none) (hlocks : meth.locks = false) (htab : ∀ x ∈ c.exceptionTable.toList, False) (hT : agT D cy lay s) : ∀ (σ : MS), u_T_X7_checkBand_12 post pex a1 σ → ∀ (H : Heap) (locs : List Loc) (ls : Array Slot), agG D cy lay σ (agA lay s.heap.size) s.heap H locs → lv_has ls 2 [(0, .ref (lay 0)), (1, .int a1)] → W p l e rm_T_X7_checkBand s m args below meth c H locs 0 0 (vx_MQ below (va_Qv post (agO D cy lay) (agA lay s.heap.size)) (agXC D cy lay pex s.heap.size) args s 1 6 (agA lay s.heap.size)) (F0 m 12 ls []) := by
  intro σ h H locs ls G hl
  unfold u_T_X7_checkBand_12 at h
  exact ag_throwW (text := "no such band") (names := ["java/lang/RuntimeException", "java/lang/Exception"]) hl0 hC hT G htab hlocks hl.1 (by decide) (by decide) (wm 1 rfl) (wm 2 rfl) (List.mem_of_getElem? (i := 32) rfl) (fun _ h => List.mem_cons_of_mem _ (List.mem_append_right _ h)) exIOB_all exIOB_good dX7_checkBand_12 dX7_checkBand_15 dX7_checkBand_16 dX7_checkBand_19 dX7_checkBand_22 (by decide) (Nat.le_of_ble_eq_true rfl) (Nat.le_of_ble_eq_true rfl) (Nat.le_of_ble_eq_true rfl) (by decide) (by decide) h
def w_T_X7_checkBand (post : MS → Prop) (pex : String → MS → Prop) (σ : MS) (a1 : Int32) : Prop := ((a1 < 0 → u_T_X7_checkBand_12 post pex a1 σ) ∧ (¬ a1 < 0 → ((a1 < (σ 0 7) → post σ) ∧ (¬ a1 < (σ 0 7) → u_T_X7_checkBand_12 post pex a1 σ))))
set_option maxHeartbeats 4000000 in
set_option maxRecDepth 100000 in
theorem c_T_X7_checkBand (l : Launch) (hl0 : l.stackTraces = false) (D : va_G) (cy : Nat → ClassId) (lay : Nat → Nat) {σ : MS} {post : MS → Prop} {pex : String → MS → Prop} {a1 : Int32} (h : w_T_X7_checkBand post pex σ a1) (sz : Nat) : vx_Met l yX7_checkBand wsX7_checkBand rm_T_X7_checkBand (va_Pc [.ref (lay 0), .int a1] (agI D cy lay σ sz)) (va_Qv post (agO D cy lay) (agA lay sz)) (agXC D cy lay pex sz) 1 6 (agA lay sz) := by
  refine ag_ofX (cc := cX7_checkBand) (maxL := 2) (ret := none) (own := RX7) (Qc := fun sz => va_Qv post (agO D cy lay) (agA lay sz)) (by decide) rfl (Nat.le_of_ble_eq_true rfl) rfl ?_
  intro p e s m args below meth c ls hC hr hlocks htab hT G hl
  unfold w_T_X7_checkBand at h
  have hl : lv_has ls 2 [(0, .ref (lay 0)), (1, .int a1)] := hl
  refine lv_iload_n hC.1 hC.2.1 dX7_checkBand_0 rfl (lv_at hl 1 rfl) ?_
  refine lv_if_lt (tgt := 12) hC.1 hC.2.1 dX7_checkBand_1 (by decide) (fun c1 => ?_) (fun c1 => ?_)
  · replace h := h.1 c1
    exact l_T_X7_checkBand_12 a1 hl0 hC hr hlocks htab hT _ h _ _ _ G (lv_sub hl [0, 1] rfl)
  · replace h := h.2 c1
    refine lv_iload_n hC.1 hC.2.1 dX7_checkBand_4 rfl (lv_at hl 1 rfl) ?_
    refine lv_aload_n hC.1 hC.2.1 dX7_checkBand_5 rfl (lv_at hl 0 rfl) ?_
    refine ag_get hC hT G (by decide) e_ag k_X7 i_T_X7_checkBand_X7 7 (by decide) (wm 3 rfl) rfl dX7_checkBand_6 ?_
    refine lv_icmp_lt (tgt := 23) hC.1 hC.2.1 dX7_checkBand_9 (by decide) (fun c2 => ?_) (fun c2 => ?_)
    · replace h := h.1 c2
      refine W.widen (k := 1) (n := 6) (by decide) (by decide) ?_
      exact vx_ret (ag_vret hC hr hlocks G h dX7_checkBand_23)
    · replace h := h.2 c2
      exact l_T_X7_checkBand_12 a1 hl0 hC hr hlocks htab hT _ h _ _ _ G (lv_sub hl [0, 1] rfl)
abbrev rm_T_X7_checkWedding : Room := { frames := 6, cells := 1, slots := 6, locals := 82 }
theorem i_T_X7_checkWedding_X7 : ∀ w ∈ wsX70, w ∈ wsX7_checkWedding := fun _ h => List.mem_cons_of_mem _ (List.mem_append_left _ (List.mem_append_right _ h))
def u_T_X7_checkWedding_12 (post : MS → Prop) (pex : String → MS → Prop) (a1 : Int32) (σ : MS) : Prop := pex "java/lang/IndexOutOfBoundsException" σ
set_option maxHeartbeats 4000000 in
set_option maxRecDepth 100000 in
theorem l_T_X7_checkWedding_12 {p : Program} {l : Launch} {e : Env} {s : State} {m : MethodId} {args : Array Value} {below : List Frame} {meth : Method} {c : Code} {D : va_G} {cy : Nat → ClassId} {lay : Nat → Nat} {post : MS → Prop} {pex : String → MS → Prop} (a1 : Int32) (hl0 : l.stackTraces = false) (hC : CallFix p m c cX7_checkWedding 2 s args wsX7_checkWedding RX7) (hr : meth.sig.returnType = none) (hlocks : meth.locks = false) (htab : ∀ x ∈ c.exceptionTable.toList, False) (hT : agT D cy lay s) : ∀ (σ : MS), u_T_X7_checkWedding_12 post pex a1 σ → ∀ (H : Heap) (locs : List Loc) (ls : Array Slot), agG D cy lay σ (agA lay s.heap.size) s.heap H locs → lv_has ls 2 [(0, .ref (lay 0)), (1, .int a1)] → W p l e rm_T_X7_checkWedding s m args below meth c H locs 0 0 (vx_MQ below (va_Qv post (agO D cy lay) (agA lay s.heap.size)) (agXC D cy lay pex s.heap.size) args s 1 6 (agA lay s.heap.size)) (F0 m 12 ls []) := by
  intro σ h H locs ls G hl
  unfold u_T_X7_checkWedding_12 at h
  exact ag_throwW (text := "no such wedding") (names := ["java/lang/RuntimeException", "java/lang/Exception"]) hl0 hC hT G htab hlocks hl.1 (by decide) (by decide) (wm 1 rfl) (wm 2 rfl) (List.mem_of_getElem? (i := 33) rfl) (fun _ h => List.mem_cons_of_mem _ (List.mem_append_right _ h)) exIOB_all exIOB_good dX7_checkWedding_12 dX7_checkWedding_15 dX7_checkWedding_16 dX7_checkWedding_19 dX7_checkWedding_22 (by decide) (Nat.le_of_ble_eq_true rfl) (Nat.le_of_ble_eq_true rfl) (Nat.le_of_ble_eq_true rfl) (by decide) (by decide) h
def w_T_X7_checkWedding (post : MS → Prop) (pex : String → MS → Prop) (σ : MS) (a1 : Int32) : Prop := ((a1 < 0 → u_T_X7_checkWedding_12 post pex a1 σ) ∧ (¬ a1 < 0 → ((a1 < (σ 0 8) → post σ) ∧ (¬ a1 < (σ 0 8) → u_T_X7_checkWedding_12 post pex a1 σ))))
set_option maxHeartbeats 4000000 in
set_option maxRecDepth 100000 in
theorem c_T_X7_checkWedding (l : Launch) (hl0 : l.stackTraces = false) (D : va_G) (cy : Nat → ClassId) (lay : Nat → Nat) {σ : MS} {post : MS → Prop} {pex : String → MS → Prop} {a1 : Int32} (h : w_T_X7_checkWedding post pex σ a1) (sz : Nat) : vx_Met l yX7_checkWedding wsX7_checkWedding rm_T_X7_checkWedding (va_Pc [.ref (lay 0), .int a1] (agI D cy lay σ sz)) (va_Qv post (agO D cy lay) (agA lay sz)) (agXC D cy lay pex sz) 1 6 (agA lay sz) := by
  refine ag_ofX (cc := cX7_checkWedding) (maxL := 2) (ret := none) (own := RX7) (Qc := fun sz => va_Qv post (agO D cy lay) (agA lay sz)) (by decide) rfl (Nat.le_of_ble_eq_true rfl) rfl ?_
  intro p e s m args below meth c ls hC hr hlocks htab hT G hl
  unfold w_T_X7_checkWedding at h
  have hl : lv_has ls 2 [(0, .ref (lay 0)), (1, .int a1)] := hl
  refine lv_iload_n hC.1 hC.2.1 dX7_checkWedding_0 rfl (lv_at hl 1 rfl) ?_
  refine lv_if_lt (tgt := 12) hC.1 hC.2.1 dX7_checkWedding_1 (by decide) (fun c1 => ?_) (fun c1 => ?_)
  · replace h := h.1 c1
    exact l_T_X7_checkWedding_12 a1 hl0 hC hr hlocks htab hT _ h _ _ _ G (lv_sub hl [0, 1] rfl)
  · replace h := h.2 c1
    refine lv_iload_n hC.1 hC.2.1 dX7_checkWedding_4 rfl (lv_at hl 1 rfl) ?_
    refine lv_aload_n hC.1 hC.2.1 dX7_checkWedding_5 rfl (lv_at hl 0 rfl) ?_
    refine ag_get hC hT G (by decide) e_ag k_X7 i_T_X7_checkWedding_X7 8 (by decide) (wm 3 rfl) rfl dX7_checkWedding_6 ?_
    refine lv_icmp_lt (tgt := 23) hC.1 hC.2.1 dX7_checkWedding_9 (by decide) (fun c2 => ?_) (fun c2 => ?_)
    · replace h := h.1 c2
      refine W.widen (k := 1) (n := 6) (by decide) (by decide) ?_
      exact vx_ret (ag_vret hC hr hlocks G h dX7_checkWedding_23)
    · replace h := h.2 c2
      exact l_T_X7_checkWedding_12 a1 hl0 hC hr hlocks htab hT _ h _ _ _ G (lv_sub hl [0, 1] rfl)
abbrev rm_T_X7_checkDayToCome : Room := { frames := 6, cells := 1, slots := 6, locals := 82 }
theorem i_T_X7_checkDayToCome_X7 : ∀ w ∈ wsX70, w ∈ wsX7_checkDayToCome := fun _ h => List.mem_cons_of_mem _ (List.mem_append_left _ (List.mem_append_right _ h))
def u_T_X7_checkDayToCome_15 (post : MS → Prop) (pex : String → MS → Prop) (a1 : Int32) (σ : MS) : Prop := pex "java/lang/IllegalArgumentException" σ
set_option maxHeartbeats 4000000 in
set_option maxRecDepth 100000 in
theorem l_T_X7_checkDayToCome_15 {p : Program} {l : Launch} {e : Env} {s : State} {m : MethodId} {args : Array Value} {below : List Frame} {meth : Method} {c : Code} {D : va_G} {cy : Nat → ClassId} {lay : Nat → Nat} {post : MS → Prop} {pex : String → MS → Prop} (a1 : Int32) (hl0 : l.stackTraces = false) (hC : CallFix p m c cX7_checkDayToCome 2 s args wsX7_checkDayToCome RX7) (hr : meth.sig.returnType = none) (hlocks : meth.locks = false) (htab : ∀ x ∈ c.exceptionTable.toList, False) (hT : agT D cy lay s) : ∀ (σ : MS), u_T_X7_checkDayToCome_15 post pex a1 σ → ∀ (H : Heap) (locs : List Loc) (ls : Array Slot), agG D cy lay σ (agA lay s.heap.size) s.heap H locs → lv_has ls 2 [(0, .ref (lay 0)), (1, .int a1)] → W p l e rm_T_X7_checkDayToCome s m args below meth c H locs 0 0 (vx_MQ below (va_Qv post (agO D cy lay) (agA lay s.heap.size)) (agXC D cy lay pex s.heap.size) args s 1 6 (agA lay s.heap.size)) (F0 m 15 ls []) := by
  intro σ h H locs ls G hl
  unfold u_T_X7_checkDayToCome_15 at h
  exact ag_throwW (text := "not a day to come") (names := ["java/lang/RuntimeException", "java/lang/Exception"]) hl0 hC hT G htab hlocks hl.1 (by decide) (by decide) (wm 1 rfl) (wm 2 rfl) (List.mem_of_getElem? (i := 34) rfl) (fun _ h => List.mem_cons_of_mem _ (List.mem_append_right _ h)) exIAE_all exIAE_good dX7_checkDayToCome_15 dX7_checkDayToCome_18 dX7_checkDayToCome_19 dX7_checkDayToCome_22 dX7_checkDayToCome_25 (by decide) (Nat.le_of_ble_eq_true rfl) (Nat.le_of_ble_eq_true rfl) (Nat.le_of_ble_eq_true rfl) (by decide) (by decide) h
def w_T_X7_checkDayToCome (post : MS → Prop) (pex : String → MS → Prop) (σ : MS) (a1 : Int32) : Prop := ((a1 < (σ 0 9) → u_T_X7_checkDayToCome_15 post pex a1 σ) ∧ (¬ a1 < (σ 0 9) → ((a1 ≤ 365 → post σ) ∧ (¬ a1 ≤ 365 → u_T_X7_checkDayToCome_15 post pex a1 σ))))
set_option maxHeartbeats 4000000 in
set_option maxRecDepth 100000 in
theorem c_T_X7_checkDayToCome (l : Launch) (hl0 : l.stackTraces = false) (D : va_G) (cy : Nat → ClassId) (lay : Nat → Nat) {σ : MS} {post : MS → Prop} {pex : String → MS → Prop} {a1 : Int32} (h : w_T_X7_checkDayToCome post pex σ a1) (sz : Nat) : vx_Met l yX7_checkDayToCome wsX7_checkDayToCome rm_T_X7_checkDayToCome (va_Pc [.ref (lay 0), .int a1] (agI D cy lay σ sz)) (va_Qv post (agO D cy lay) (agA lay sz)) (agXC D cy lay pex sz) 1 6 (agA lay sz) := by
  refine ag_ofX (cc := cX7_checkDayToCome) (maxL := 2) (ret := none) (own := RX7) (Qc := fun sz => va_Qv post (agO D cy lay) (agA lay sz)) (by decide) rfl (Nat.le_of_ble_eq_true rfl) rfl ?_
  intro p e s m args below meth c ls hC hr hlocks htab hT G hl
  unfold w_T_X7_checkDayToCome at h
  have hl : lv_has ls 2 [(0, .ref (lay 0)), (1, .int a1)] := hl
  refine lv_iload_n hC.1 hC.2.1 dX7_checkDayToCome_0 rfl (lv_at hl 1 rfl) ?_
  refine lv_aload_n hC.1 hC.2.1 dX7_checkDayToCome_1 rfl (lv_at hl 0 rfl) ?_
  refine ag_get hC hT G (by decide) e_ag k_X7 i_T_X7_checkDayToCome_X7 9 (by decide) (wm 3 rfl) rfl dX7_checkDayToCome_2 ?_
  refine lv_icmp_lt (tgt := 15) hC.1 hC.2.1 dX7_checkDayToCome_5 (by decide) (fun c1 => ?_) (fun c1 => ?_)
  · replace h := h.1 c1
    exact l_T_X7_checkDayToCome_15 a1 hl0 hC hr hlocks htab hT _ h _ _ _ G (lv_sub hl [0, 1] rfl)
  · replace h := h.2 c1
    refine lv_iload_n hC.1 hC.2.1 dX7_checkDayToCome_8 rfl (lv_at hl 1 rfl) ?_
    refine lv_sipush (v := 365) hC.1 hC.2.1 dX7_checkDayToCome_9 (by decide) ?_
    refine lv_icmp_le (tgt := 26) hC.1 hC.2.1 dX7_checkDayToCome_12 (by decide) (fun c2 => ?_) (fun c2 => ?_)
    · replace h := h.1 c2
      refine W.widen (k := 1) (n := 6) (by decide) (by decide) ?_
      exact vx_ret (ag_vret hC hr hlocks G h dX7_checkDayToCome_26)
    · replace h := h.2 c2
      exact l_T_X7_checkDayToCome_15 a1 hl0 hC hr hlocks htab hT _ h _ _ _ G (lv_sub hl [0, 1] rfl)
abbrev rm_T_X7_player : Room := { frames := 6, cells := 1, slots := 6, locals := 82 }
theorem i_T_X7_player_X7 : ∀ w ∈ wsX70, w ∈ wsX7_player := fun _ h => List.mem_cons_of_mem _ (List.mem_append_left _ (List.mem_append_left _ (List.mem_append_left _ (List.mem_append_left _ (List.mem_append_right _ h)))))
theorem i_T_X7_player_X3 : ∀ w ∈ wsX30, w ∈ wsX7_player := fun _ h => List.mem_cons_of_mem _ (List.mem_append_left _ (List.mem_append_left _ (List.mem_append_left _ (List.mem_append_right _ h))))
def u_T_X7_player_48 (post : Int32 → MS → Prop) (pex : String → MS → Prop) (a1 : Int32) (a2 : Int32) (a3 : Int32) (a4 : Int32) (σ : MS) : Prop := pex "java/lang/IllegalArgumentException" σ
set_option maxHeartbeats 4000000 in
set_option maxRecDepth 100000 in
theorem l_T_X7_player_48 {p : Program} {l : Launch} {e : Env} {s : State} {m : MethodId} {args : Array Value} {below : List Frame} {meth : Method} {c : Code} {D : va_G} {cy : Nat → ClassId} {lay : Nat → Nat} {post : Int32 → MS → Prop} {pex : String → MS → Prop} (a1 : Int32) (a2 : Int32) (a3 : Int32) (a4 : Int32) (hl0 : l.stackTraces = false) (hC : CallFix p m c cX7_player 6 s args wsX7_player RX7) (hr : meth.sig.returnType = some .int) (hlocks : meth.locks = false) (htab : ∀ x ∈ c.exceptionTable.toList, False) (hT : agT D cy lay s) : ∀ (σ : MS), u_T_X7_player_48 post pex a1 a2 a3 a4 σ → ∀ (H : Heap) (locs : List Loc) (ls : Array Slot), agG D cy lay σ (agA lay s.heap.size) s.heap H locs → lv_has ls 6 [(0, .ref (lay 0)), (1, .int a1), (2, .int a2), (3, .int a3), (4, .int a4)] → W p l e rm_T_X7_player s m args below meth c H locs 0 0 (vx_MQ below (va_Qi post (agO D cy lay) (agA lay s.heap.size)) (agXC D cy lay pex s.heap.size) args s 1 6 (agA lay s.heap.size)) (F0 m 48 ls []) := by
  intro σ h H locs ls G hl
  unfold u_T_X7_player_48 at h
  exact ag_throw (text := "no such player can be told") (names := ["java/lang/RuntimeException", "java/lang/Exception"]) hl0 hC hT G htab hlocks hl.1 (by decide) (by decide) (wm 3 rfl) (wm 4 rfl) (List.mem_of_getElem? (i := 1) rfl) (fun _ h => List.mem_cons_of_mem _ (List.mem_append_left _ (List.mem_append_right _ h))) exIAE_all exIAE_good dX7_player_48 dX7_player_51 dX7_player_52 dX7_player_54 dX7_player_57 (by decide) (Nat.le_of_ble_eq_true rfl) (Nat.le_of_ble_eq_true rfl) (Nat.le_of_ble_eq_true rfl) (by decide) (by decide) h
def w_T_X7_player (post : Int32 → MS → Prop) (pex : String → MS → Prop) (σ : MS) (a1 : Int32) (a2 : Int32) (a3 : Int32) (a4 : Int32) : Prop := w_X7_isTown (fun r2 σ1 => ((r2 = 0 → pex "java/lang/IndexOutOfBoundsException" σ1) ∧ (¬ r2 = 0 → ((a1 < 1 → u_T_X7_player_48 post pex a1 a2 a3 a4 σ1) ∧ (¬ a1 < 1 → ((64 ≤ a1 → u_T_X7_player_48 post pex a1 a2 a3 a4 σ1) ∧ (¬ 64 ≤ a1 → w_X7_isSetOfSongs (fun r7 σ6 => ((r7 = 0 → u_T_X7_player_48 post pex a1 a2 a3 a4 σ6) ∧ (¬ r7 = 0 → ((a4 < 1 → u_T_X7_player_48 post pex a1 a2 a3 a4 σ6) ∧ (¬ a4 < 1 → ((a4 ≤ 99 → (((σ6 0 6) < 10 → (vp_in (σ6 0 6) 10 ∧ (∀ y13 : Int32, y13 = (up2 (up2 (up2 (up2 σ6 (29 + (Int32.toNatClampNeg (σ6 0 6))) 0 a1) (29 + (Int32.toNatClampNeg (σ6 0 6))) 1 a2) (29 + (Int32.toNatClampNeg (σ6 0 6))) 2 a3) (29 + (Int32.toNatClampNeg (σ6 0 6))) 3 a4) 0 6 → (∀ y14 : Int32, y14 = (up2 (up2 (up2 (up2 (up2 σ6 (29 + (Int32.toNatClampNeg (σ6 0 6))) 0 a1) (29 + (Int32.toNatClampNeg (σ6 0 6))) 1 a2) (29 + (Int32.toNatClampNeg (σ6 0 6))) 2 a3) (29 + (Int32.toNatClampNeg (σ6 0 6))) 3 a4) 0 6 (y13 + 1)) 0 6 → post (y14 - 1) (up2 (up2 (up2 (up2 (up2 σ6 (29 + (Int32.toNatClampNeg (σ6 0 6))) 0 a1) (29 + (Int32.toNatClampNeg (σ6 0 6))) 1 a2) (29 + (Int32.toNatClampNeg (σ6 0 6))) 2 a3) (29 + (Int32.toNatClampNeg (σ6 0 6))) 3 a4) 0 6 (y13 + 1)))))) ∧ (¬ (σ6 0 6) < 10 → pex "java/lang/IllegalStateException" σ6))) ∧ (¬ a4 ≤ 99 → u_T_X7_player_48 post pex a1 a2 a3 a4 σ6))))))) σ1 a2))))))) σ a3
set_option maxHeartbeats 4000000 in
set_option maxRecDepth 100000 in
theorem c_T_X7_player (l : Launch) (hl0 : l.stackTraces = false) (D : va_G) (cy : Nat → ClassId) (lay : Nat → Nat) {σ : MS} {post : Int32 → MS → Prop} {pex : String → MS → Prop} {a1 : Int32} {a2 : Int32} {a3 : Int32} {a4 : Int32} (h : w_T_X7_player post pex σ a1 a2 a3 a4) (sz : Nat) : vx_Met l yX7_player wsX7_player rm_T_X7_player (va_Pc [.ref (lay 0), .int a1, .int a2, .int a3, .int a4] (agI D cy lay σ sz)) (va_Qi post (agO D cy lay) (agA lay sz)) (agXC D cy lay pex sz) 1 6 (agA lay sz) := by
  refine ag_ofX (cc := cX7_player) (maxL := 6) (ret := some .int) (own := RX7) (Qc := fun sz => va_Qi post (agO D cy lay) (agA lay sz)) (by decide) rfl (Nat.le_of_ble_eq_true rfl) rfl ?_
  intro p e s m args below meth c ls hC hr hlocks htab hT G hl
  unfold w_T_X7_player at h
  have hl : lv_has ls 6 [(0, .ref (lay 0)), (1, .int a1), (2, .int a2), (3, .int a3), (4, .int a4)] := hl
  refine lv_iload_n hC.1 hC.2.1 dX7_player_0 rfl (lv_at hl 3 rfl) ?_
  refine ag_i G (ag_runS (As := [.int a3]) (rest := []) hC hT G (c_X7_isTown l D cy lay h _) (va_cwS 1 hC.2.2.2.2 gX7_player_X7_isTown rfl rfl rfl hdS_X7_isTown ⟨Nat.le_of_ble_eq_true rfl, Nat.le_of_ble_eq_true rfl⟩) rfl hl.1 rfl (Nat.le_of_ble_eq_true rfl) dX7_player_1 ⟨Nat.le_of_ble_eq_true rfl, Nat.le_of_ble_eq_true rfl⟩) (fun r2 σ1 H locs h G => ?_)
  (try dsimp only at h)
  refine lv_if_ne (tgt := 17) hC.1 hC.2.1 dX7_player_4 (by decide) (fun c3 => ?_) (fun c3 => ?_)
  · replace h := h.2 c3
    refine lv_iload_n hC.1 hC.2.1 dX7_player_17 rfl (lv_at hl 1 rfl) ?_
    refine lv_iconst (v := 1) hC.1 hC.2.1 dX7_player_18 (by decide) ?_
    refine lv_icmp_lt (tgt := 48) hC.1 hC.2.1 dX7_player_19 (by decide) (fun c4 => ?_) (fun c4 => ?_)
    · replace h := h.1 c4
      exact l_T_X7_player_48 a1 a2 a3 a4 hl0 hC hr hlocks htab hT _ h _ _ _ G (lv_sub hl [0, 1, 2, 3, 4] rfl)
    · replace h := h.2 c4
      refine lv_iload_n hC.1 hC.2.1 dX7_player_22 rfl (lv_at hl 1 rfl) ?_
      refine lv_bipush (v := 64) hC.1 hC.2.1 dX7_player_23 (by decide) ?_
      refine lv_icmp_ge (tgt := 48) hC.1 hC.2.1 dX7_player_25 (by decide) (fun c5 => ?_) (fun c5 => ?_)
      · replace h := h.1 c5
        exact l_T_X7_player_48 a1 a2 a3 a4 hl0 hC hr hlocks htab hT _ h _ _ _ G (lv_sub hl [0, 1, 2, 3, 4] rfl)
      · replace h := h.2 c5
        refine lv_iload_n hC.1 hC.2.1 dX7_player_28 rfl (lv_at hl 2 rfl) ?_
        refine ag_i G (ag_runS (As := [.int a2]) (rest := []) hC hT G (c_X7_isSetOfSongs l D cy lay h _) (va_cwS 1 hC.2.2.2.2 gX7_player_X7_isSetOfSongs rfl rfl rfl hdS_X7_isSetOfSongs ⟨Nat.le_of_ble_eq_true rfl, Nat.le_of_ble_eq_true rfl⟩) rfl hl.1 rfl (Nat.le_of_ble_eq_true rfl) dX7_player_29 ⟨Nat.le_of_ble_eq_true rfl, Nat.le_of_ble_eq_true rfl⟩) (fun r7 σ6 H locs h G => ?_)
        (try dsimp only at h)
        refine lv_if_eq (tgt := 48) hC.1 hC.2.1 dX7_player_32 (by decide) (fun c8 => ?_) (fun c8 => ?_)
        · replace h := h.1 c8
          exact l_T_X7_player_48 a1 a2 a3 a4 hl0 hC hr hlocks htab hT _ h _ _ _ G (lv_sub hl [0, 1, 2, 3, 4] rfl)
        · replace h := h.2 c8
          refine lv_iload hC.1 hC.2.1 dX7_player_35 (lv_at hl 4 rfl) ?_
          refine lv_iconst (v := 1) hC.1 hC.2.1 dX7_player_37 (by decide) ?_
          refine lv_icmp_lt (tgt := 48) hC.1 hC.2.1 dX7_player_38 (by decide) (fun c9 => ?_) (fun c9 => ?_)
          · replace h := h.1 c9
            exact l_T_X7_player_48 a1 a2 a3 a4 hl0 hC hr hlocks htab hT _ h _ _ _ G (lv_sub hl [0, 1, 2, 3, 4] rfl)
          · replace h := h.2 c9
            refine lv_iload hC.1 hC.2.1 dX7_player_41 (lv_at hl 4 rfl) ?_
            refine lv_bipush (v := 99) hC.1 hC.2.1 dX7_player_43 (by decide) ?_
            refine lv_icmp_le (tgt := 58) hC.1 hC.2.1 dX7_player_45 (by decide) (fun c10 => ?_) (fun c10 => ?_)
            · replace h := h.1 c10
              refine lv_aload_n hC.1 hC.2.1 dX7_player_58 rfl (lv_at hl 0 rfl) ?_
              refine ag_get hC hT G (by decide) e_ag k_X7 i_T_X7_player_X7 6 (by decide) (wm 7 rfl) rfl dX7_player_59 ?_
              refine lv_bipush (v := 10) hC.1 hC.2.1 dX7_player_62 (by decide) ?_
              refine lv_icmp_lt (tgt := 77) hC.1 hC.2.1 dX7_player_64 (by decide) (fun c11 => ?_) (fun c11 => ?_)
              · replace h := h.1 c11
                refine lv_aload_n hC.1 hC.2.1 dX7_player_77 rfl (lv_at hl 0 rfl) ?_
                refine ag_get hC hT G (by decide) e_ag k_X7 i_T_X7_player_X7 0 (by decide) (wm 8 rfl) rfl dX7_player_78 ?_
                refine lv_aload_n hC.1 hC.2.1 dX7_player_81 rfl (lv_at hl 0 rfl) ?_
                refine ag_get hC hT G (by decide) e_ag k_X7 i_T_X7_player_X7 6 (by decide) (wm 7 rfl) rfl dX7_player_82 ?_
                obtain ⟨hn12, h⟩ := h
                refine ag_aald hC hT G (by decide) _ rfl e_pls hn12 dX7_player_85 ?_
                refine lv_astore (lv' := [(5, .ref (lay (29 + (Int32.toNatClampNeg (σ6 0 6))))), (0, .ref (lay 0)), (1, .int a1), (2, .int a2), (3, .int a3), (4, .int a4)]) hC.1 hC.2.1 dX7_player_86 hl (by decide) rfl (fun ls hl => ?_)
                refine lv_aload hC.1 hC.2.1 dX7_player_88 (lv_at hl 0 rfl) ?_
                refine lv_iload_n hC.1 hC.2.1 dX7_player_90 rfl (lv_at hl 2 rfl) ?_
                refine ag_put hC hT G (k_pl (vlt hn12)) (e_pl (vlt hn12)) k_X3 i_T_X7_player_X3 0 (by decide) (wm 9 rfl) rfl rfl (by simp) (e_pl (vlt hn12)) rfl dX7_player_91 (fun H locs G => ?_)
                refine lv_aload hC.1 hC.2.1 dX7_player_94 (lv_at hl 0 rfl) ?_
                refine lv_iload_n hC.1 hC.2.1 dX7_player_96 rfl (lv_at hl 3 rfl) ?_
                refine ag_put hC hT G (k_pl (vlt hn12)) (e_pl (vlt hn12)) k_X3 i_T_X7_player_X3 1 (by decide) (wm 10 rfl) rfl rfl (by simp) (e_pl (vlt hn12)) rfl dX7_player_97 (fun H locs G => ?_)
                refine lv_aload hC.1 hC.2.1 dX7_player_100 (lv_at hl 0 rfl) ?_
                refine lv_iload_n hC.1 hC.2.1 dX7_player_102 rfl (lv_at hl 4 rfl) ?_
                refine ag_put hC hT G (k_pl (vlt hn12)) (e_pl (vlt hn12)) k_X3 i_T_X7_player_X3 2 (by decide) (wm 11 rfl) rfl rfl (by simp) (e_pl (vlt hn12)) rfl dX7_player_103 (fun H locs G => ?_)
                refine lv_aload hC.1 hC.2.1 dX7_player_106 (lv_at hl 0 rfl) ?_
                refine lv_iload hC.1 hC.2.1 dX7_player_108 (lv_at hl 5 rfl) ?_
                refine ag_put hC hT G (k_pl (vlt hn12)) (e_pl (vlt hn12)) k_X3 i_T_X7_player_X3 3 (by decide) (wm 12 rfl) rfl rfl (by simp) (e_pl (vlt hn12)) rfl dX7_player_110 (fun H locs G => ?_)
                refine lv_aload_n hC.1 hC.2.1 dX7_player_113 rfl (lv_at hl 1 rfl) ?_
                refine lv_dup hC.1 hC.2.1 dX7_player_114 rfl ?_
                refine ag_get hC hT G (by decide) e_ag k_X7 i_T_X7_player_X7 6 (by decide) (wm 7 rfl) rfl dX7_player_115 ?_
                refine lv_topi (fun y13 ey13 => ?_)
                replace h := h y13 ey13
                refine lv_iconst (v := 1) hC.1 hC.2.1 dX7_player_118 (by decide) ?_
                refine lv_iadd hC.1 hC.2.1 dX7_player_119 ?_
                refine ag_put hC hT G (by decide) e_ag k_X7 i_T_X7_player_X7 6 (by decide) (wm 7 rfl) rfl rfl (by simp) e_ag rfl dX7_player_120 (fun H locs G => ?_)
                refine lv_aload_n hC.1 hC.2.1 dX7_player_123 rfl (lv_at hl 1 rfl) ?_
                refine ag_get hC hT G (by decide) e_ag k_X7 i_T_X7_player_X7 6 (by decide) (wm 7 rfl) rfl dX7_player_124 ?_
                refine lv_topi (fun y14 ey14 => ?_)
                replace h := h y14 ey14
                refine lv_iconst (v := 1) hC.1 hC.2.1 dX7_player_127 (by decide) ?_
                refine lv_isub hC.1 hC.2.1 dX7_player_128 ?_
                refine W.widen (k := 1) (n := 6) (by decide) (by decide) ?_
                exact vx_ret (ag_iret hC hr hlocks G h dX7_player_129)
              · replace h := h.2 c11
                exact ag_throw (text := "there are as many players as there can be") (names := ["java/lang/RuntimeException", "java/lang/Exception"]) hl0 hC hT G htab hlocks hl.1 (by decide) (by decide) (wm 5 rfl) (wm 6 rfl) (List.mem_of_getElem? (i := 2) rfl) (fun _ h => List.mem_cons_of_mem _ (List.mem_append_right _ h)) exISE_all exISE_good dX7_player_67 dX7_player_70 dX7_player_71 dX7_player_73 dX7_player_76 (by decide) (Nat.le_of_ble_eq_true rfl) (Nat.le_of_ble_eq_true rfl) (Nat.le_of_ble_eq_true rfl) (by decide) (by decide) h
            · replace h := h.2 c10
              exact l_T_X7_player_48 a1 a2 a3 a4 hl0 hC hr hlocks htab hT _ h _ _ _ G (lv_sub hl [0, 1, 2, 3, 4] rfl)
  · replace h := h.1 c3
    exact ag_throw (text := "no such town") (names := ["java/lang/RuntimeException", "java/lang/Exception"]) hl0 hC hT G htab hlocks hl.1 (by decide) (by decide) (wm 1 rfl) (wm 2 rfl) (List.mem_of_getElem? (i := 0) rfl) (fun _ h => List.mem_cons_of_mem _ (List.mem_append_left _ (List.mem_append_left _ (List.mem_append_right _ h)))) exIOB_all exIOB_good dX7_player_7 dX7_player_10 dX7_player_11 dX7_player_13 dX7_player_16 (by decide) (Nat.le_of_ble_eq_true rfl) (Nat.le_of_ble_eq_true rfl) (Nat.le_of_ble_eq_true rfl) (by decide) (by decide) h
theorem hdV_X7_player : yX7_player.cls = RX7 ∧ yX7_player.cls ≠ "java/lang/invoke/MethodHandle" ∧ yX7_player.cls ≠ "java/lang/invoke/VarHandle" ∧ (parseMethodDescriptor yX7_player.desc).map (fun d => d.parameters.length) = some 4 := by decide +kernel
abbrev rm_T_X7_learn : Room := { frames := 7, cells := 2, slots := 12, locals := 103 }
theorem i_T_X7_learn_X7 : ∀ w ∈ wsX70, w ∈ wsX7_learn := fun _ h => List.mem_cons_of_mem _ (List.mem_append_left _ (List.mem_append_left _ (List.mem_append_left _ (List.mem_append_right _ h))))
theorem i_T_X7_learn_X3 : ∀ w ∈ wsX30, w ∈ wsX7_learn := fun _ h => List.mem_cons_of_mem _ (List.mem_append_left _ (List.mem_append_left _ (List.mem_append_right _ h)))
def w_T_X7_learn (post : Int32 → MS → Prop) (pex : String → MS → Prop) (σ : MS) (a1 : Int32) (a2 : Int32) : Prop := w_T_X7_checkPlayer (fun σ1 => w_X7_isSetOfSongs (fun r3 σ2 => ((r3 = 0 → pex "java/lang/IllegalArgumentException" σ2) ∧ (¬ r3 = 0 → (vp_in a1 10 ∧ (vp_in a1 10 ∧ w_J6_bitCount_0f7a4 (fun r8 σ7 => post r8 σ7) (up2 σ2 (29 + (Int32.toNatClampNeg a1)) 1 ((σ2 (29 + (Int32.toNatClampNeg a1)) 1) ||| a2)) ((up2 σ2 (29 + (Int32.toNatClampNeg a1)) 1 ((σ2 (29 + (Int32.toNatClampNeg a1)) 1) ||| a2)) (29 + (Int32.toNatClampNeg a1)) 1)))))) σ1 a2) pex σ a1
set_option maxHeartbeats 4000000 in
set_option maxRecDepth 100000 in
theorem c_T_X7_learn (l : Launch) (hl0 : l.stackTraces = false) (D : va_G) (cy : Nat → ClassId) (lay : Nat → Nat) {σ : MS} {post : Int32 → MS → Prop} {pex : String → MS → Prop} {a1 : Int32} {a2 : Int32} (h : w_T_X7_learn post pex σ a1 a2) (sz : Nat) : vx_Met l yX7_learn wsX7_learn rm_T_X7_learn (va_Pc [.ref (lay 0), .int a1, .int a2] (agI D cy lay σ sz)) (va_Qi post (agO D cy lay) (agA lay sz)) (agXC D cy lay pex sz) 2 12 (agA lay sz) := by
  refine ag_ofX (cc := cX7_learn) (maxL := 3) (ret := some .int) (own := RX7) (Qc := fun sz => va_Qi post (agO D cy lay) (agA lay sz)) (by decide) rfl (Nat.le_of_ble_eq_true rfl) rfl ?_
  intro p e s m args below meth c ls hC hr hlocks htab hT G hl
  unfold w_T_X7_learn at h
  have hl : lv_has ls 3 [(0, .ref (lay 0)), (1, .int a1), (2, .int a2)] := hl
  refine lv_aload_n hC.1 hC.2.1 dX7_learn_0 rfl (lv_at hl 0 rfl) ?_
  refine lv_iload_n hC.1 hC.2.1 dX7_learn_1 rfl (lv_at hl 1 rfl) ?_
  refine ag_vT G htab hlocks (ag_runVT (As := [.int a1]) (rest := []) hC hT G (c_T_X7_checkPlayer l hl0 D cy lay h _) (cwV 1 hC.2.2.2.2 gX7_learn_X7_checkPlayer rfl rfl rfl hdV_X7_checkPlayer ⟨Nat.le_of_ble_eq_true rfl, Nat.le_of_ble_eq_true rfl⟩) (ag_recv hT G (by decide) e_ag k_X7) rfl hl.1 rfl (Nat.le_of_ble_eq_true rfl) dX7_learn_2 ⟨Nat.le_of_ble_eq_true rfl, Nat.le_of_ble_eq_true rfl⟩) (by decide) (by decide) (fun σ1 H locs h G => ?_)
  (try dsimp only at h)
  refine lv_iload_n hC.1 hC.2.1 dX7_learn_5 rfl (lv_at hl 2 rfl) ?_
  refine ag_i G (ag_runS (As := [.int a2]) (rest := []) hC hT G (c_X7_isSetOfSongs l D cy lay h _) (va_cwS 1 hC.2.2.2.2 gX7_learn_X7_isSetOfSongs rfl rfl rfl hdS_X7_isSetOfSongs ⟨Nat.le_of_ble_eq_true rfl, Nat.le_of_ble_eq_true rfl⟩) rfl hl.1 rfl (Nat.le_of_ble_eq_true rfl) dX7_learn_6 ⟨Nat.le_of_ble_eq_true rfl, Nat.le_of_ble_eq_true rfl⟩) (fun r3 σ2 H locs h G => ?_)
  (try dsimp only at h)
  refine lv_if_ne (tgt := 22) hC.1 hC.2.1 dX7_learn_9 (by decide) (fun c4 => ?_) (fun c4 => ?_)
  · replace h := h.2 c4
    refine lv_aload_n hC.1 hC.2.1 dX7_learn_22 rfl (lv_at hl 0 rfl) ?_
    refine ag_get hC hT G (by decide) e_ag k_X7 i_T_X7_learn_X7 0 (by decide) (wm 3 rfl) rfl dX7_learn_23 ?_
    refine lv_iload_n hC.1 hC.2.1 dX7_learn_26 rfl (lv_at hl 1 rfl) ?_
    obtain ⟨hn5, h⟩ := h
    refine ag_aald hC hT G (by decide) _ rfl e_pls hn5 dX7_learn_27 ?_
    refine lv_dup hC.1 hC.2.1 dX7_learn_28 rfl ?_
    refine ag_get hC hT G (k_pl (vlt hn5)) (e_pl (vlt hn5)) k_X3 i_T_X7_learn_X3 1 (by decide) (wm 4 rfl) rfl dX7_learn_29 ?_
    refine lv_iload_n hC.1 hC.2.1 dX7_learn_32 rfl (lv_at hl 2 rfl) ?_
    refine lv_ior hC.1 hC.2.1 dX7_learn_33 ?_
    refine ag_put hC hT G (k_pl (vlt hn5)) (e_pl (vlt hn5)) k_X3 i_T_X7_learn_X3 1 (by decide) (wm 4 rfl) rfl rfl (by simp) (e_pl (vlt hn5)) rfl dX7_learn_34 (fun H locs G => ?_)
    refine lv_aload_n hC.1 hC.2.1 dX7_learn_37 rfl (lv_at hl 0 rfl) ?_
    refine ag_get hC hT G (by decide) e_ag k_X7 i_T_X7_learn_X7 0 (by decide) (wm 3 rfl) rfl dX7_learn_38 ?_
    refine lv_iload_n hC.1 hC.2.1 dX7_learn_41 rfl (lv_at hl 1 rfl) ?_
    obtain ⟨hn6, h⟩ := h
    refine ag_aald hC hT G (by decide) _ rfl e_pls hn6 dX7_learn_42 ?_
    refine ag_get hC hT G (k_pl (vlt hn6)) (e_pl (vlt hn6)) k_X3 i_T_X7_learn_X3 1 (by decide) (wm 4 rfl) rfl dX7_learn_43 ?_
    refine ag_i G (ag_runS (As := [.int ((up2 σ2 (29 + (Int32.toNatClampNeg a1)) 1 ((σ2 (29 + (Int32.toNatClampNeg a1)) 1) ||| a2)) (29 + (Int32.toNatClampNeg a1)) 1)]) (rest := []) hC hT G (c_J6_bitCount_0f7a4 l D cy lay h _) (va_cwS 1 hC.2.2.2.2 gX7_learn_J6_bitCount_0f7a4 rfl rfl rfl hdS_J6_bitCount_0f7a4 ⟨Nat.le_of_ble_eq_true rfl, Nat.le_of_ble_eq_true rfl⟩) rfl hl.1 rfl (Nat.le_of_ble_eq_true rfl) dX7_learn_46 ⟨Nat.le_of_ble_eq_true rfl, Nat.le_of_ble_eq_true rfl⟩) (fun r8 σ7 H locs h G => ?_)
    (try dsimp only at h)
    refine W.widen (k := 2) (n := 12) (by decide) (by decide) ?_
    exact vx_ret (ag_iret hC hr hlocks G h dX7_learn_49)
  · replace h := h.1 c4
    exact ag_throw (text := "not a set of songs") (names := ["java/lang/RuntimeException", "java/lang/Exception"]) hl0 hC hT G htab hlocks hl.1 (by decide) (by decide) (wm 1 rfl) (wm 2 rfl) (List.mem_of_getElem? (i := 3) rfl) (fun _ h => List.mem_cons_of_mem _ (List.mem_append_left _ (List.mem_append_right _ h))) exIAE_all exIAE_good dX7_learn_12 dX7_learn_15 dX7_learn_16 dX7_learn_18 dX7_learn_21 (by decide) (Nat.le_of_ble_eq_true rfl) (Nat.le_of_ble_eq_true rfl) (Nat.le_of_ble_eq_true rfl) (by decide) (by decide) h
theorem hdV_X7_learn : yX7_learn.cls = RX7 ∧ yX7_learn.cls ≠ "java/lang/invoke/MethodHandle" ∧ yX7_learn.cls ≠ "java/lang/invoke/VarHandle" ∧ (parseMethodDescriptor yX7_learn.desc).map (fun d => d.parameters.length) = some 2 := by decide +kernel
