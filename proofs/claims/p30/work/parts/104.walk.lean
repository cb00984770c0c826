abbrev rm_X7_surveyNow : Room := { frames := 4, cells := 0, slots := 0, locals := 97 }
def w_X7_surveyNow (post : MS → Prop) (σ : MS) (a1 : Int32) : Prop := w_X7_stageAsFixed (fun σ1 => w_X7_freeFor (fun r3 σ2 => w_X7_survey (fun σ4 => post σ4) σ2 a1 r3 0) σ1 a1) σ
set_option maxHeartbeats 4000000 in
set_option maxRecDepth 100000 in
theorem c_X7_surveyNow (l : Launch) (D : va_G) (cy : Nat → ClassId) (lay : Nat → Nat) {σ : MS} {post : MS → Prop} {a1 : Int32} (h : w_X7_surveyNow post σ a1) (sz : Nat) : Met l yX7_surveyNow wsX7_surveyNow rm_X7_surveyNow (va_Pc [.ref (lay 0), .int a1] (agI D cy lay σ sz)) (va_Qv post (agO D cy lay) (agA lay sz)) 0 0 (agA lay sz) := by
  refine ag_ofW (cc := cX7_surveyNow) (maxL := 2) (ret := none) (own := RX7) (Qc := fun sz => va_Qv post (agO D cy lay) (agA lay sz)) (by decide) rfl (Nat.le_of_ble_eq_true rfl) rfl ?_
  intro p e s m args below meth c ls hC hr hlocks hT G hl
  unfold w_X7_surveyNow at h
  have hl : lv_has ls 2 [(0, .ref (lay 0)), (1, .int a1)] := hl
  refine lv_aload_n hC.1 hC.2.1 dX7_surveyNow_0 rfl (lv_at hl 0 rfl) ?_
  refine ag_v G (ag_runV (As := []) (rest := []) hC hT G (c_X7_stageAsFixed l D cy lay h _) (cwV 0 hC.2.2.2.2 gX7_surveyNow_X7_stageAsFixed rfl rfl rfl hdV_X7_stageAsFixed ⟨Nat.le_of_ble_eq_true rfl, Nat.le_of_ble_eq_true rfl⟩) (ag_recv hT G (by decide) e_ag k_X7) rfl hl.1 rfl (Nat.le_of_ble_eq_true rfl) dX7_surveyNow_1 ⟨Nat.le_of_ble_eq_true rfl, Nat.le_of_ble_eq_true rfl⟩) (fun σ1 H locs h G => ?_)
  (try dsimp only at h)
  refine lv_aload_n hC.1 hC.2.1 dX7_surveyNow_4 rfl (lv_at hl 0 rfl) ?_
  refine lv_iload_n hC.1 hC.2.1 dX7_surveyNow_5 rfl (lv_at hl 1 rfl) ?_
  refine lv_aload_n hC.1 hC.2.1 dX7_surveyNow_6 rfl (lv_at hl 0 rfl) ?_
  refine lv_iload_n hC.1 hC.2.1 dX7_surveyNow_7 rfl (lv_at hl 1 rfl) ?_
  refine ag_i G (ag_runV (As := [.int a1]) (rest := [.int a1, .ref (lay 0)]) hC hT G (c_X7_freeFor l D cy lay h _) (cwV 1 hC.2.2.2.2 gX7_surveyNow_X7_freeFor rfl rfl rfl hdV_X7_freeFor ⟨Nat.le_of_ble_eq_true rfl, Nat.le_of_ble_eq_true rfl⟩) (ag_recv hT G (by decide) e_ag k_X7) rfl hl.1 rfl (Nat.le_of_ble_eq_true rfl) dX7_surveyNow_8 ⟨Nat.le_of_ble_eq_true rfl, Nat.le_of_ble_eq_true rfl⟩) (fun r3 σ2 H locs h G => ?_)
  (try dsimp only at h)
  refine lv_iconst (v := 0) hC.1 hC.2.1 dX7_surveyNow_11 (by decide) ?_
  refine ag_v G (ag_runV (As := [.int a1, .int r3, .int 0]) (rest := []) hC hT G (c_X7_survey l D cy lay h _) (cwV 3 hC.2.2.2.2 gX7_surveyNow_X7_survey rfl rfl rfl hdV_X7_survey ⟨Nat.le_of_ble_eq_true rfl, Nat.le_of_ble_eq_true rfl⟩) (ag_recv hT G (by decide) e_ag k_X7) rfl hl.1 rfl (Nat.le_of_ble_eq_true rfl) dX7_surveyNow_12 ⟨Nat.le_of_ble_eq_true rfl, Nat.le_of_ble_eq_true rfl⟩) (fun σ4 H locs h G => ?_)
  (try dsimp only at h)
  exact ag_vret hC hr hlocks G h dX7_surveyNow_15
theorem hdV_X7_surveyNow : yX7_surveyNow.cls = RX7 ∧ yX7_surveyNow.cls ≠ "java/lang/invoke/MethodHandle" ∧ yX7_surveyNow.cls ≠ "java/lang/invoke/VarHandle" ∧ (parseMethodDescriptor yX7_surveyNow.desc).map (fun d => d.parameters.length) = some 1 := by decide +kernel
abbrev rm_X7_stageWithout : Room := { frames := 4, cells := 0, slots := 0, locals := 97 }
theorem i_X7_stageWithout_X7 : ∀ w ∈ wsX70, w ∈ wsX7_stageWithout := fun _ h => List.mem_cons_of_mem _ (List.mem_append_left _ (List.mem_append_left _ (List.mem_append_left _ (List.mem_append_left _ (List.mem_append_left _ (List.mem_append_right _ h))))))
theorem i_X7_stageWithout_X6 : ∀ w ∈ wsX60, w ∈ wsX7_stageWithout := fun _ h => List.mem_cons_of_mem _ (List.mem_append_left _ (List.mem_append_left _ (List.mem_append_left _ (List.mem_append_left _ (List.mem_append_right _ h)))))
theorem i_X7_stageWithout_X2 : ∀ w ∈ wsX20, w ∈ wsX7_stageWithout := fun _ h => List.mem_cons_of_mem _ (List.mem_append_left _ (List.mem_append_left _ (List.mem_append_left _ (List.mem_append_right _ h))))
def u_X7_stageWithout_98 (post : Int32 → MS → Prop) (a1 : Int32) (a2 : Int32) (K9 : MS → Int32 → Int32 → Prop) (σ : MS) (v3 : Int32) (v4 : Int32) (t0 : Int32) (t1 : Int32) : Prop := (vp_in t1 14 ∧ ((((up2 σ 7 (Int32.toNatClampNeg t1) t0) 9 3) = 0 → K9 (up2 σ 7 (Int32.toNatClampNeg t1) t0) (v3 + 1) (v4 + 1)) ∧ (¬ ((up2 σ 7 (Int32.toNatClampNeg t1) t0) 9 3) = 0 → K9 (up2 σ 7 (Int32.toNatClampNeg t1) t0) (v3 + 0) (v4 + 1))))
set_option maxHeartbeats 4000000 in
set_option maxRecDepth 100000 in
theorem l_X7_stageWithout_98 {p : Program} {l : Launch} {e : Env} {s : State} {m : MethodId} {args : Array Value} {below : List Frame} {meth : Method} {c : Code} {D : va_G} {cy : Nat → ClassId} {lay : Nat → Nat} {post : Int32 → MS → Prop} (a1 : Int32) (a2 : Int32) (K9 : MS → Int32 → Int32 → Prop) (hC : CallFix p m c cX7_stageWithout 5 s args wsX7_stageWithout RX7) (hr : meth.sig.returnType = some .int) (hlocks : meth.locks = false) (hT : agT D cy lay s) (hK9 : ∀ (σ : MS) (v3 : Int32) (v4 : Int32), K9 σ v3 v4 → ∀ (H : Heap) (locs : List Loc) (ls : Array Slot), agG D cy lay σ (agA lay s.heap.size) s.heap H locs → lv_has ls 5 [(0, .ref (lay 0)), (1, .int a1), (2, .int a2), (3, .int v3), (4, .int v4)] → W p l e rm_X7_stageWithout s m args below meth c H locs 0 0 (MQ below (va_Qi post (agO D cy lay) (agA lay s.heap.size)) args s 0 0 (agA lay s.heap.size)) (F0 m 9 ls [])) : ∀ (σ : MS) (v3 : Int32) (v4 : Int32) (t0 : Int32) (t1 : Int32), u_X7_stageWithout_98 post a1 a2 K9 σ v3 v4 t0 t1 → ∀ (H : Heap) (locs : List Loc) (ls : Array Slot), agG D cy lay σ (agA lay s.heap.size) s.heap H locs → lv_has ls 5 [(0, .ref (lay 0)), (1, .int a1), (2, .int a2), (3, .int v3), (4, .int v4)] → W p l e rm_X7_stageWithout s m args below meth c H locs 0 0 (MQ below (va_Qi post (agO D cy lay) (agA lay s.heap.size)) args s 0 0 (agA lay s.heap.size)) (F0 m 98 ls [.int t0, .int t1, .ref (lay 7)]) := by
  intro σ v3 v4 t0 t1 h H locs ls G hl
  unfold u_X7_stageWithout_98 at h
  obtain ⟨hn14, h⟩ := h
  refine ag_iast hC hT G (by decide) (fun _ => e_stg) hn14 dX7_stageWithout_98 (fun H locs G => ?_)
  refine lv_iload_n hC.1 hC.2.1 dX7_stageWithout_99 rfl (lv_at hl 3 rfl) ?_
  refine lv_aload_n hC.1 hC.2.1 dX7_stageWithout_100 rfl (lv_at hl 0 rfl) ?_
  refine ag_get hC hT G (by decide) e_ag k_X7 i_X7_stageWithout_X7 13 (by decide) (wm 5 rfl) rfl dX7_stageWithout_101 ?_
  refine ag_get hC hT G (by decide) e_fd k_X2 i_X7_stageWithout_X2 3 (by decide) (wm 6 rfl) rfl dX7_stageWithout_104 ?_
  refine lv_if_ne (tgt := 114) hC.1 hC.2.1 dX7_stageWithout_107 (by decide) (fun c15 => ?_) (fun c15 => ?_)
  · replace h := h.2 c15
    refine lv_iconst (v := 0) hC.1 hC.2.1 dX7_stageWithout_114 (by decide) ?_
    refine lv_iadd hC.1 hC.2.1 dX7_stageWithout_115 ?_
    refine lv_istore_n (lv' := [(3, .int (v3 + 0)), (0, .ref (lay 0)), (1, .int a1), (2, .int a2), (4, .int v4)]) hC.1 hC.2.1 dX7_stageWithout_116 rfl hl (by decide) rfl (fun ls hl => ?_)
    refine lv_iinc (v := v4 + 1) (lv' := [(4, .int (v4 + 1)), (3, .int (v3 + 0)), (0, .ref (lay 0)), (1, .int a1), (2, .int a2)]) hC.1 hC.2.1 dX7_stageWithout_117 hl (k := 4) rfl rfl (by decide) rfl (fun ls hl => ?_)
    refine lv_goto (tgt := 9) hC.1 hC.2.1 dX7_stageWithout_120 (by decide) ?_
    exact hK9 _ _ _ h _ _ _ G (lv_sub hl [2, 3, 4, 1, 0] rfl)
  · replace h := h.1 c15
    refine lv_iconst (v := 1) hC.1 hC.2.1 dX7_stageWithout_110 (by decide) ?_
    refine lv_goto (tgt := 115) hC.1 hC.2.1 dX7_stageWithout_111 (by decide) ?_
    refine lv_iadd hC.1 hC.2.1 dX7_stageWithout_115 ?_
    refine lv_istore_n (lv' := [(3, .int (v3 + 1)), (0, .ref (lay 0)), (1, .int a1), (2, .int a2), (4, .int v4)]) hC.1 hC.2.1 dX7_stageWithout_116 rfl hl (by decide) rfl (fun ls hl => ?_)
    refine lv_iinc (v := v4 + 1) (lv' := [(4, .int (v4 + 1)), (3, .int (v3 + 1)), (0, .ref (lay 0)), (1, .int a1), (2, .int a2)]) hC.1 hC.2.1 dX7_stageWithout_117 hl (k := 4) rfl rfl (by decide) rfl (fun ls hl => ?_)
    refine lv_goto (tgt := 9) hC.1 hC.2.1 dX7_stageWithout_120 (by decide) ?_
    exact hK9 _ _ _ h _ _ _ G (lv_sub hl [2, 3, 4, 1, 0] rfl)
def u_X7_stageWithout_9 (post : Int32 → MS → Prop) (a1 : Int32) (a2 : Int32) : Nat → MS → Int32 → Int32 → Prop
  | 0, _, _, _ => False
  | n + 1, σ, v3, v4 => (((σ 0 8) ≤ v4 → post v3 σ) ∧ (¬ (σ 0 8) ≤ v4 → (vp_in v4 14 ∧ (((σ (73 + (Int32.toNatClampNeg v4)) 1) = a2 → (vp_in v4 14 ∧ w_X7_has (fun r7 σ6 => ((r7 = 0 → u_X7_stageWithout_9 post a1 a2 n σ6 v3 (v4 + 1)) ∧ (¬ r7 = 0 → w_X7_freeFor (fun r10 σ9 => (vp_in v4 14 ∧ w_X7_survey (fun σ12 => (((σ12 9 3) = 0 → u_X7_stageWithout_98 post a1 a2 (fun σ w0 w1 => u_X7_stageWithout_9 post a1 a2 n σ w0 w1) σ12 v3 v4 0 v4) ∧ (¬ (σ12 9 3) = 0 → u_X7_stageWithout_98 post a1 a2 (fun σ w0 w1 => u_X7_stageWithout_9 post a1 a2 n σ w0 w1) σ12 v3 v4 (σ12 9 0) v4))) σ9 v4 (r10 &&& ((1 <<< (a1 &&& 31)) ^^^ (-1))) (σ9 7 (Int32.toNatClampNeg v4)))) σ6 v4))) σ (σ 7 (Int32.toNatClampNeg v4)) a1)) ∧ (¬ (σ (73 + (Int32.toNatClampNeg v4)) 1) = a2 → u_X7_stageWithout_9 post a1 a2 n σ v3 (v4 + 1))))))
set_option maxHeartbeats 4000000 in
set_option maxRecDepth 100000 in
theorem l_X7_stageWithout_9 {p : Program} {l : Launch} {e : Env} {s : State} {m : MethodId} {args : Array Value} {below : List Frame} {meth : Method} {c : Code} {D : va_G} {cy : Nat → ClassId} {lay : Nat → Nat} {post : Int32 → MS → Prop} (a1 : Int32) (a2 : Int32) (hC : CallFix p m c cX7_stageWithout 5 s args wsX7_stageWithout RX7) (hr : meth.sig.returnType = some .int) (hlocks : meth.locks = false) (hT : agT D cy lay s) : ∀ (n : Nat), ∀ (σ : MS) (v3 : Int32) (v4 : Int32), u_X7_stageWithout_9 post a1 a2 n σ v3 v4 → ∀ (H : Heap) (locs : List Loc) (ls : Array Slot), agG D cy lay σ (agA lay s.heap.size) s.heap H locs → lv_has ls 5 [(0, .ref (lay 0)), (1, .int a1), (2, .int a2), (3, .int v3), (4, .int v4)] → W p l e rm_X7_stageWithout s m args below meth c H locs 0 0 (MQ below (va_Qi post (agO D cy lay) (agA lay s.heap.size)) args s 0 0 (agA lay s.heap.size)) (F0 m 9 ls []) := by
  intro n
  induction n with
  | zero =>
    intro σ v3 v4 h
    exact h.elim
  | succ n ih =>
    intro σ v3 v4 h H locs ls G hl
    rw [u_X7_stageWithout_9] at h
    refine lv_iload hC.1 hC.2.1 dX7_stageWithout_9 (lv_at hl 4 rfl) ?_
    refine lv_aload_n hC.1 hC.2.1 dX7_stageWithout_11 rfl (lv_at hl 0 rfl) ?_
    refine ag_get hC hT G (by decide) e_ag k_X7 i_X7_stageWithout_X7 8 (by decide) (wm 1 rfl) rfl dX7_stageWithout_12 ?_
    refine lv_icmp_ge (tgt := 123) hC.1 hC.2.1 dX7_stageWithout_15 (by decide) (fun c2 => ?_) (fun c2 => ?_)
    · replace h := h.1 c2
      refine lv_iload_n hC.1 hC.2.1 dX7_stageWithout_123 rfl (lv_at hl 3 rfl) ?_
      exact ag_iret hC hr hlocks G h dX7_stageWithout_124
    · replace h := h.2 c2
      refine lv_aload_n hC.1 hC.2.1 dX7_stageWithout_18 rfl (lv_at hl 0 rfl) ?_
      refine ag_get hC hT G (by decide) e_ag k_X7 i_X7_stageWithout_X7 3 (by decide) (wm 2 rfl) rfl dX7_stageWithout_19 ?_
      refine lv_iload hC.1 hC.2.1 dX7_stageWithout_22 (lv_at hl 4 rfl) ?_
      obtain ⟨hn3, h⟩ := h
      refine ag_aald hC hT G (by decide) _ rfl e_wds hn3 dX7_stageWithout_24 ?_
      refine ag_get hC hT G (k_wd (vlt hn3)) (e_wd (vlt hn3)) k_X6 i_X7_stageWithout_X6 1 (by decide) (wm 3 rfl) rfl dX7_stageWithout_25 ?_
      refine lv_iload_n hC.1 hC.2.1 dX7_stageWithout_28 rfl (lv_at hl 2 rfl) ?_
      refine lv_icmp_ne (tgt := 117) hC.1 hC.2.1 dX7_stageWithout_29 (by decide) (fun c4 => ?_) (fun c4 => ?_)
      · replace h := h.2 c4
        refine lv_iinc (v := v4 + 1) (lv' := [(4, .int (v4 + 1)), (0, .ref (lay 0)), (1, .int a1), (2, .int a2), (3, .int v3)]) hC.1 hC.2.1 dX7_stageWithout_117 hl (k := 4) rfl rfl (by decide) rfl (fun ls hl => ?_)
        refine lv_goto (tgt := 9) hC.1 hC.2.1 dX7_stageWithout_120 (by decide) ?_
        exact ih _ _ _ h _ _ _ G (lv_sub hl [1, 2, 3, 4, 0] rfl)
      · replace h := h.1 c4
        refine lv_aload_n hC.1 hC.2.1 dX7_stageWithout_32 rfl (lv_at hl 0 rfl) ?_
        refine ag_get hC hT G (by decide) e_ag k_X7 i_X7_stageWithout_X7 11 (by decide) (wm 4 rfl) rfl dX7_stageWithout_33 ?_
        refine lv_iload hC.1 hC.2.1 dX7_stageWithout_36 (lv_at hl 4 rfl) ?_
        obtain ⟨hn5, h⟩ := h
        refine ag_iald hC hT G (by decide) e_stg hn5 dX7_stageWithout_38 ?_
        refine lv_iload_n hC.1 hC.2.1 dX7_stageWithout_39 rfl (lv_at hl 1 rfl) ?_
        refine ag_i G (ag_runS (As := [.int (σ 7 (Int32.toNatClampNeg v4)), .int a1]) (rest := []) hC hT G (c_X7_has l D cy lay h _) (va_cwS 2 hC.2.2.2.2 gX7_stageWithout_X7_has rfl rfl rfl hdS_X7_has ⟨Nat.le_of_ble_eq_true rfl, Nat.le_of_ble_eq_true rfl⟩) rfl hl.1 rfl (Nat.le_of_ble_eq_true rfl) dX7_stageWithout_40 ⟨Nat.le_of_ble_eq_true rfl, Nat.le_of_ble_eq_true rfl⟩) (fun r7 σ6 H locs h G => ?_)
        (try dsimp only at h)
        refine lv_if_eq (tgt := 117) hC.1 hC.2.1 dX7_stageWithout_43 (by decide) (fun c8 => ?_) (fun c8 => ?_)
        · replace h := h.1 c8
          refine lv_iinc (v := v4 + 1) (lv' := [(4, .int (v4 + 1)), (0, .ref (lay 0)), (1, .int a1), (2, .int a2), (3, .int v3)]) hC.1 hC.2.1 dX7_stageWithout_117 hl (k := 4) rfl rfl (by decide) rfl (fun ls hl => ?_)
          refine lv_goto (tgt := 9) hC.1 hC.2.1 dX7_stageWithout_120 (by decide) ?_
          exact ih _ _ _ h _ _ _ G (lv_sub hl [1, 2, 3, 4, 0] rfl)
        · replace h := h.2 c8
          refine lv_aload_n hC.1 hC.2.1 dX7_stageWithout_46 rfl (lv_at hl 0 rfl) ?_
          refine lv_iload hC.1 hC.2.1 dX7_stageWithout_47 (lv_at hl 4 rfl) ?_
          refine lv_aload_n hC.1 hC.2.1 dX7_stageWithout_49 rfl (lv_at hl 0 rfl) ?_
          refine lv_iload hC.1 hC.2.1 dX7_stageWithout_50 (lv_at hl 4 rfl) ?_
          refine ag_i G (ag_runV (As := [.int v4]) (rest := [.int v4, .ref (lay 0)]) hC hT G (c_X7_freeFor l D cy lay h _) (cwV 1 hC.2.2.2.2 gX7_stageWithout_X7_freeFor rfl rfl rfl hdV_X7_freeFor ⟨Nat.le_of_ble_eq_true rfl, Nat.le_of_ble_eq_true rfl⟩) (ag_recv hT G (by decide) e_ag k_X7) rfl hl.1 rfl (Nat.le_of_ble_eq_true rfl) dX7_stageWithout_52 ⟨Nat.le_of_ble_eq_true rfl, Nat.le_of_ble_eq_true rfl⟩) (fun r10 σ9 H locs h G => ?_)
          (try dsimp only at h)
          refine lv_iconst (v := 1) hC.1 hC.2.1 dX7_stageWithout_55 (by decide) ?_
          refine lv_iload_n hC.1 hC.2.1 dX7_stageWithout_56 rfl (lv_at hl 1 rfl) ?_
          refine lv_ishl hC.1 hC.2.1 dX7_stageWithout_57 ?_
          refine lv_iconst (v := (-1)) hC.1 hC.2.1 dX7_stageWithout_58 (by decide) ?_
          refine lv_ixor hC.1 hC.2.1 dX7_stageWithout_59 ?_
          refine lv_iand hC.1 hC.2.1 dX7_stageWithout_60 ?_
          refine lv_aload_n hC.1 hC.2.1 dX7_stageWithout_61 rfl (lv_at hl 0 rfl) ?_
          refine ag_get hC hT G (by decide) e_ag k_X7 i_X7_stageWithout_X7 11 (by decide) (wm 4 rfl) rfl dX7_stageWithout_62 ?_
          refine lv_iload hC.1 hC.2.1 dX7_stageWithout_65 (lv_at hl 4 rfl) ?_
          obtain ⟨hn11, h⟩ := h
          refine ag_iald hC hT G (by decide) e_stg hn11 dX7_stageWithout_67 ?_
          refine ag_v G (ag_runV (As := [.int v4, .int (r10 &&& ((1 <<< (a1 &&& 31)) ^^^ (-1))), .int (σ9 7 (Int32.toNatClampNeg v4))]) (rest := []) hC hT G (c_X7_survey l D cy lay h _) (cwV 3 hC.2.2.2.2 gX7_stageWithout_X7_survey rfl rfl rfl hdV_X7_survey ⟨Nat.le_of_ble_eq_true rfl, Nat.le_of_ble_eq_true rfl⟩) (ag_recv hT G (by decide) e_ag k_X7) rfl hl.1 rfl (Nat.le_of_ble_eq_true rfl) dX7_stageWithout_68 ⟨Nat.le_of_ble_eq_true rfl, Nat.le_of_ble_eq_true rfl⟩) (fun σ12 H locs h G => ?_)
          (try dsimp only at h)
          refine lv_aload_n hC.1 hC.2.1 dX7_stageWithout_71 rfl (lv_at hl 0 rfl) ?_
          refine ag_get hC hT G (by decide) e_ag k_X7 i_X7_stageWithout_X7 11 (by decide) (wm 4 rfl) rfl dX7_stageWithout_72 ?_
          refine lv_iload hC.1 hC.2.1 dX7_stageWithout_75 (lv_at hl 4 rfl) ?_
          refine lv_aload_n hC.1 hC.2.1 dX7_stageWithout_77 rfl (lv_at hl 0 rfl) ?_
          refine ag_get hC hT G (by decide) e_ag k_X7 i_X7_stageWithout_X7 13 (by decide) (wm 5 rfl) rfl dX7_stageWithout_78 ?_
          refine ag_get hC hT G (by decide) e_fd k_X2 i_X7_stageWithout_X2 3 (by decide) (wm 6 rfl) rfl dX7_stageWithout_81 ?_
          refine lv_if_ne (tgt := 91) hC.1 hC.2.1 dX7_stageWithout_84 (by decide) (fun c13 => ?_) (fun c13 => ?_)
          · replace h := h.2 c13
            refine lv_aload_n hC.1 hC.2.1 dX7_stageWithout_91 rfl (lv_at hl 0 rfl) ?_
            refine ag_get hC hT G (by decide) e_ag k_X7 i_X7_stageWithout_X7 13 (by decide) (wm 5 rfl) rfl dX7_stageWithout_92 ?_
            refine ag_get hC hT G (by decide) e_fd k_X2 i_X7_stageWithout_X2 0 (by decide) (wm 7 rfl) rfl dX7_stageWithout_95 ?_
            exact l_X7_stageWithout_98 a1 a2 (fun σ w0 w1 => u_X7_stageWithout_9 post a1 a2 n σ w0 w1) hC hr hlocks hT ih _ _ _ _ _ h _ _ _ G (lv_sub hl [0, 1, 2, 3, 4] rfl)
          · replace h := h.1 c13
            refine lv_iconst (v := 0) hC.1 hC.2.1 dX7_stageWithout_87 (by decide) ?_
            refine lv_goto (tgt := 98) hC.1 hC.2.1 dX7_stageWithout_88 (by decide) ?_
            exact l_X7_stageWithout_98 a1 a2 (fun σ w0 w1 => u_X7_stageWithout_9 post a1 a2 n σ w0 w1) hC hr hlocks hT ih _ _ _ _ _ h _ _ _ G (lv_sub hl [0, 1, 2, 3, 4] rfl)
def w_X7_stageWithout (post : Int32 → MS → Prop) (σ : MS) (a1 : Int32) (a2 : Int32) : Prop := w_X7_stageAsFixed (fun σ1 => (∃ k, u_X7_stageWithout_9 post a1 a2 k σ1 0 0)) σ
set_option maxHeartbeats 4000000 in
set_option maxRecDepth 100000 in
theorem c_X7_stageWithout (l : Launch) (D : va_G) (cy : Nat → ClassId) (lay : Nat → Nat) {σ : MS} {post : Int32 → MS → Prop} {a1 : Int32} {a2 : Int32} (h : w_X7_stageWithout post σ a1 a2) (sz : Nat) : Met l yX7_stageWithout wsX7_stageWithout rm_X7_stageWithout (va_Pc [.ref (lay 0), .int a1, .int a2] (agI D cy lay σ sz)) (va_Qi post (agO D cy lay) (agA lay sz)) 0 0 (agA lay sz) := by
  refine ag_ofW (cc := cX7_stageWithout) (maxL := 5) (ret := some .int) (own := RX7) (Qc := fun sz => va_Qi post (agO D cy lay) (agA lay sz)) (by decide) rfl (Nat.le_of_ble_eq_true rfl) rfl ?_
  intro p e s m args below meth c ls hC hr hlocks hT G hl
  unfold w_X7_stageWithout at h
  have hl : lv_has ls 5 [(0, .ref (lay 0)), (1, .int a1), (2, .int a2)] := hl
  refine lv_iconst (v := 0) hC.1 hC.2.1 dX7_stageWithout_0 (by decide) ?_
  refine lv_istore_n (lv' := [(3, .int 0), (0, .ref (lay 0)), (1, .int a1), (2, .int a2)]) hC.1 hC.2.1 dX7_stageWithout_1 rfl hl (by decide) rfl (fun ls hl => ?_)
  refine lv_aload_n hC.1 hC.2.1 dX7_stageWithout_2 rfl (lv_at hl 1 rfl) ?_
  refine ag_v G (ag_runV (As := []) (rest := []) hC hT G (c_X7_stageAsFixed l D cy lay h _) (cwV 0 hC.2.2.2.2 gX7_stageWithout_X7_stageAsFixed rfl rfl rfl hdV_X7_stageAsFixed ⟨Nat.le_of_ble_eq_true rfl, Nat.le_of_ble_eq_true rfl⟩) (ag_recv hT G (by decide) e_ag k_X7) rfl hl.1 rfl (Nat.le_of_ble_eq_true rfl) dX7_stageWithout_3 ⟨Nat.le_of_ble_eq_true rfl, Nat.le_of_ble_eq_true rfl⟩) (fun σ1 H locs h G => ?_)
  (try dsimp only at h)
  refine lv_iconst (v := 0) hC.1 hC.2.1 dX7_stageWithout_6 (by decide) ?_
  refine lv_istore (lv' := [(4, .int 0), (3, .int 0), (0, .ref (lay 0)), (1, .int a1), (2, .int a2)]) hC.1 hC.2.1 dX7_stageWithout_7 hl (by decide) rfl (fun ls hl => ?_)
  obtain ⟨n1, h⟩ := h
  exact l_X7_stageWithout_9 a1 a2 hC hr hlocks hT n1 _ _ _ h _ _ _ G (lv_sub hl [2, 3, 4, 1, 0] rfl)
theorem hdV_X7_stageWithout : yX7_stageWithout.cls = RX7 ∧ yX7_stageWithout.cls ≠ "java/lang/invoke/MethodHandle" ∧ yX7_stageWithout.cls ≠ "java/lang/invoke/VarHandle" ∧ (parseMethodDescriptor yX7_stageWithout.desc).map (fun d => d.parameters.length) = some 2 := by decide +kernel
abbrev rm_X7_stageAll : Room := { frames := 4, cells := 0, slots := 0, locals := 97 }
theorem i_X7_stageAll_X7 : ∀ w ∈ wsX70, w ∈ wsX7_stageAll := fun _ h => List.mem_cons_of_mem _ (List.mem_append_left _ (List.mem_append_left _ (List.mem_append_left _ (List.mem_append_left _ (List.mem_append_left _ (List.mem_append_right _ h))))))
theorem i_X7_stageAll_X2 : ∀ w ∈ wsX20, w ∈ wsX7_stageAll := fun _ h => List.mem_cons_of_mem _ (List.mem_append_left _ (List.mem_append_left _ (List.mem_append_left _ (List.mem_append_left _ (List.mem_append_right _ h)))))
def u_X7_stageAll_8 (post : Int32 → MS → Prop) (a1 : Int32) : Nat → MS → Int32 → Int32 → Prop
  | 0, _, _, _ => False
  | n + 1, σ, v2, v3 => (((σ 0 8) ≤ v3 → post v2 σ) ∧ (¬ (σ 0 8) ≤ v3 → w_X7_has (fun r4 σ3 => ((r4 = 0 → u_X7_stageAll_8 post a1 n σ3 v2 (v3 + 1)) ∧ (¬ r4 = 0 → w_X7_freeFor (fun r7 σ6 => w_X7_survey (fun σ8 => (((σ8 9 3) = 0 → post (-1) σ8) ∧ (¬ (σ8 9 3) = 0 → (vp_in v3 14 ∧ w_X7_priceOf (fun r12 σ11 => u_X7_stageAll_8 post a1 n σ11 (v2 + r12) (v3 + 1)) (up2 σ8 7 (Int32.toNatClampNeg v3) (σ8 9 0)) ((up2 σ8 7 (Int32.toNatClampNeg v3) (σ8 9 0)) 9 1))))) σ6 v3 r7 0) σ3 v3))) σ a1 v3))
set_option maxHeartbeats 4000000 in
set_option maxRecDepth 100000 in
theorem l_X7_stageAll_8 {p : Program} {l : Launch} {e : Env} {s : State} {m : MethodId} {args : Array Value} {below : List Frame} {meth : Method} {c : Code} {D : va_G} {cy : Nat → ClassId} {lay : Nat → Nat} {post : Int32 → MS → Prop} (a1 : Int32) (hC : CallFix p m c cX7_stageAll 4 s args wsX7_stageAll RX7) (hr : meth.sig.returnType = some .int) (hlocks : meth.locks = false) (hT : agT D cy lay s) : ∀ (n : Nat), ∀ (σ : MS) (v2 : Int32) (v3 : Int32), u_X7_stageAll_8 post a1 n σ v2 v3 → ∀ (H : Heap) (locs : List Loc) (ls : Array Slot), agG D cy lay σ (agA lay s.heap.size) s.heap H locs → lv_has ls 4 [(0, .ref (lay 0)), (1, .int a1), (2, .int v2), (3, .int v3)] → W p l e rm_X7_stageAll s m args below meth c H locs 0 0 (MQ below (va_Qi post (agO D cy lay) (agA lay s.heap.size)) args s 0 0 (agA lay s.heap.size)) (F0 m 8 ls []) := by
  intro n
  induction n with
  | zero =>
    intro σ v2 v3 h
    exact h.elim
  | succ n ih =>
    intro σ v2 v3 h H locs ls G hl
    rw [u_X7_stageAll_8] at h
    refine lv_iload_n hC.1 hC.2.1 dX7_stageAll_8 rfl (lv_at hl 3 rfl) ?_
    refine lv_aload_n hC.1 hC.2.1 dX7_stageAll_9 rfl (lv_at hl 0 rfl) ?_
    refine ag_get hC hT G (by decide) e_ag k_X7 i_X7_stageAll_X7 8 (by decide) (wm 1 rfl) rfl dX7_stageAll_10 ?_
    refine lv_icmp_ge (tgt := 79) hC.1 hC.2.1 dX7_stageAll_13 (by decide) (fun c2 => ?_) (fun c2 => ?_)
    · replace h := h.1 c2
      refine lv_iload_n hC.1 hC.2.1 dX7_stageAll_79 rfl (lv_at hl 2 rfl) ?_
      exact ag_iret hC hr hlocks G h dX7_stageAll_80
    · replace h := h.2 c2
      refine lv_iload_n hC.1 hC.2.1 dX7_stageAll_16 rfl (lv_at hl 1 rfl) ?_
      refine lv_iload_n hC.1 hC.2.1 dX7_stageAll_17 rfl (lv_at hl 3 rfl) ?_
      refine ag_i G (ag_runS (As := [.int a1, .int v3]) (rest := []) hC hT G (c_X7_has l D cy lay h _) (va_cwS 2 hC.2.2.2.2 gX7_stageAll_X7_has rfl rfl rfl hdS_X7_has ⟨Nat.le_of_ble_eq_true rfl, Nat.le_of_ble_eq_true rfl⟩) rfl hl.1 rfl (Nat.le_of_ble_eq_true rfl) dX7_stageAll_18 ⟨Nat.le_of_ble_eq_true rfl, Nat.le_of_ble_eq_true rfl⟩) (fun r4 σ3 H locs h G => ?_)
      (try dsimp only at h)
      refine lv_if_eq (tgt := 73) hC.1 hC.2.1 dX7_stageAll_21 (by decide) (fun c5 => ?_) (fun c5 => ?_)
      · replace h := h.1 c5
        refine lv_iinc (v := v3 + 1) (lv' := [(3, .int (v3 + 1)), (0, .ref (lay 0)), (1, .int a1), (2, .int v2)]) hC.1 hC.2.1 dX7_stageAll_73 hl (k := 3) rfl rfl (by decide) rfl (fun ls hl => ?_)
        refine lv_goto (tgt := 8) hC.1 hC.2.1 dX7_stageAll_76 (by decide) ?_
        exact ih _ _ _ h _ _ _ G (lv_sub hl [1, 2, 3, 0] rfl)
      · replace h := h.2 c5
        refine lv_aload_n hC.1 hC.2.1 dX7_stageAll_24 rfl (lv_at hl 0 rfl) ?_
        refine lv_iload_n hC.1 hC.2.1 dX7_stageAll_25 rfl (lv_at hl 3 rfl) ?_
        refine lv_aload_n hC.1 hC.2.1 dX7_stageAll_26 rfl (lv_at hl 0 rfl) ?_
        refine lv_iload_n hC.1 hC.2.1 dX7_stageAll_27 rfl (lv_at hl 3 rfl) ?_
        refine ag_i G (ag_runV (As := [.int v3]) (rest := [.int v3, .ref (lay 0)]) hC hT G (c_X7_freeFor l D cy lay h _) (cwV 1 hC.2.2.2.2 gX7_stageAll_X7_freeFor rfl rfl rfl hdV_X7_freeFor ⟨Nat.le_of_ble_eq_true rfl, Nat.le_of_ble_eq_true rfl⟩) (ag_recv hT G (by decide) e_ag k_X7) rfl hl.1 rfl (Nat.le_of_ble_eq_true rfl) dX7_stageAll_28 ⟨Nat.le_of_ble_eq_true rfl, Nat.le_of_ble_eq_true rfl⟩) (fun r7 σ6 H locs h G => ?_)
        (try dsimp only at h)
        refine lv_iconst (v := 0) hC.1 hC.2.1 dX7_stageAll_31 (by decide) ?_
        refine ag_v G (ag_runV (As := [.int v3, .int r7, .int 0]) (rest := []) hC hT G (c_X7_survey l D cy lay h _) (cwV 3 hC.2.2.2.2 gX7_stageAll_X7_survey rfl rfl rfl hdV_X7_survey ⟨Nat.le_of_ble_eq_true rfl, Nat.le_of_ble_eq_true rfl⟩) (ag_recv hT G (by decide) e_ag k_X7) rfl hl.1 rfl (Nat.le_of_ble_eq_true rfl) dX7_stageAll_32 ⟨Nat.le_of_ble_eq_true rfl, Nat.le_of_ble_eq_true rfl⟩) (fun σ8 H locs h G => ?_)
        (try dsimp only at h)
        refine lv_aload_n hC.1 hC.2.1 dX7_stageAll_35 rfl (lv_at hl 0 rfl) ?_
        refine ag_get hC hT G (by decide) e_ag k_X7 i_X7_stageAll_X7 13 (by decide) (wm 2 rfl) rfl dX7_stageAll_36 ?_
        refine ag_get hC hT G (by decide) e_fd k_X2 i_X7_stageAll_X2 3 (by decide) (wm 3 rfl) rfl dX7_stageAll_39 ?_
        refine lv_if_ne (tgt := 47) hC.1 hC.2.1 dX7_stageAll_42 (by decide) (fun c9 => ?_) (fun c9 => ?_)
        · replace h := h.2 c9
          refine lv_aload_n hC.1 hC.2.1 dX7_stageAll_47 rfl (lv_at hl 0 rfl) ?_
          refine ag_get hC hT G (by decide) e_ag k_X7 i_X7_stageAll_X7 11 (by decide) (wm 4 rfl) rfl dX7_stageAll_48 ?_
          refine lv_iload_n hC.1 hC.2.1 dX7_stageAll_51 rfl (lv_at hl 3 rfl) ?_
          refine lv_aload_n hC.1 hC.2.1 dX7_stageAll_52 rfl (lv_at hl 0 rfl) ?_
          refine ag_get hC hT G (by decide) e_ag k_X7 i_X7_stageAll_X7 13 (by decide) (wm 2 rfl) rfl dX7_stageAll_53 ?_
          refine ag_get hC hT G (by decide) e_fd k_X2 i_X7_stageAll_X2 0 (by decide) (wm 5 rfl) rfl dX7_stageAll_56 ?_
          obtain ⟨hn10, h⟩ := h
          refine ag_iast hC hT G (by decide) (fun _ => e_stg) hn10 dX7_stageAll_59 (fun H locs G => ?_)
          refine lv_iload_n hC.1 hC.2.1 dX7_stageAll_60 rfl (lv_at hl 2 rfl) ?_
          refine lv_aload_n hC.1 hC.2.1 dX7_stageAll_61 rfl (lv_at hl 0 rfl) ?_
          refine ag_get hC hT G (by decide) e_ag k_X7 i_X7_stageAll_X7 13 (by decide) (wm 2 rfl) rfl dX7_stageAll_62 ?_
          refine ag_get hC hT G (by decide) e_fd k_X2 i_X7_stageAll_X2 1 (by decide) (wm 6 rfl) rfl dX7_stageAll_65 ?_
          refine ag_i G (ag_runS (As := [.int ((up2 σ8 7 (Int32.toNatClampNeg v3) (σ8 9 0)) 9 1)]) (rest := [.int v2]) hC hT G (c_X7_priceOf l D cy lay h _) (va_cwS 1 hC.2.2.2.2 gX7_stageAll_X7_priceOf rfl rfl rfl hdS_X7_priceOf ⟨Nat.le_of_ble_eq_true rfl, Nat.le_of_ble_eq_true rfl⟩) rfl hl.1 rfl (Nat.le_of_ble_eq_true rfl) dX7_stageAll_68 ⟨Nat.le_of_ble_eq_true rfl, Nat.le_of_ble_eq_true rfl⟩) (fun r12 σ11 H locs h G => ?_)
          (try dsimp only at h)
          refine lv_iadd hC.1 hC.2.1 dX7_stageAll_71 ?_
          refine lv_istore_n (lv' := [(2, .int (v2 + r12)), (0, .ref (lay 0)), (1, .int a1), (3, .int v3)]) hC.1 hC.2.1 dX7_stageAll_72 rfl hl (by decide) rfl (fun ls hl => ?_)
          refine lv_iinc (v := v3 + 1) (lv' := [(3, .int (v3 + 1)), (2, .int (v2 + r12)), (0, .ref (lay 0)), (1, .int a1)]) hC.1 hC.2.1 dX7_stageAll_73 hl (k := 3) rfl rfl (by decide) rfl (fun ls hl => ?_)
          refine lv_goto (tgt := 8) hC.1 hC.2.1 dX7_stageAll_76 (by decide) ?_
          exact ih _ _ _ h _ _ _ G (lv_sub hl [2, 3, 1, 0] rfl)
        · replace h := h.1 c9
          refine lv_iconst (v := (-1)) hC.1 hC.2.1 dX7_stageAll_45 (by decide) ?_
          exact ag_iret hC hr hlocks G h dX7_stageAll_46
def w_X7_stageAll (post : Int32 → MS → Prop) (σ : MS) (a1 : Int32) : Prop := w_X7_stageAsFixed (fun σ1 => (∃ k, u_X7_stageAll_8 post a1 k σ1 0 0)) σ
set_option maxHeartbeats 4000000 in
set_option maxRecDepth 100000 in
theorem c_X7_stageAll (l : Launch) (D : va_G) (cy : Nat → ClassId) (lay : Nat → Nat) {σ : MS} {post : Int32 → MS → Prop} {a1 : Int32} (h : w_X7_stageAll post σ a1) (sz : Nat) : Met l yX7_stageAll wsX7_stageAll rm_X7_stageAll (va_Pc [.ref (lay 0), .int a1] (agI D cy lay σ sz)) (va_Qi post (agO D cy lay) (agA lay sz)) 0 0 (agA lay sz) := by
  refine ag_ofW (cc := cX7_stageAll) (maxL := 4) (ret := some .int) (own := RX7) (Qc := fun sz => va_Qi post (agO D cy lay) (agA lay sz)) (by decide) rfl (Nat.le_of_ble_eq_true rfl) rfl ?_
  intro p e s m args below meth c ls hC hr hlocks hT G hl
  unfold w_X7_stageAll at h
  have hl : lv_has ls 4 [(0, .ref (lay 0)), (1, .int a1)] := hl
  refine lv_iconst (v := 0) hC.1 hC.2.1 dX7_stageAll_0 (by decide) ?_
  refine lv_istore_n (lv' := [(2, .int 0), (0, .ref (lay 0)), (1, .int a1)]) hC.1 hC.2.1 dX7_stageAll_1 rfl hl (by decide) rfl (fun ls hl => ?_)
  refine lv_aload_n hC.1 hC.2.1 dX7_stageAll_2 rfl (lv_at hl 1 rfl) ?_
  refine ag_v G (ag_runV (As := []) (rest := []) hC hT G (c_X7_stageAsFixed l D cy lay h _) (cwV 0 hC.2.2.2.2 gX7_stageAll_X7_stageAsFixed rfl rfl rfl hdV_X7_stageAsFixed ⟨Nat.le_of_ble_eq_true rfl, Nat.le_of_ble_eq_true rfl⟩) (ag_recv hT G (by decide) e_ag k_X7) rfl hl.1 rfl (Nat.le_of_ble_eq_true rfl) dX7_stageAll_3 ⟨Nat.le_of_ble_eq_true rfl, Nat.le_of_ble_eq_true rfl⟩) (fun σ1 H locs h G => ?_)
  (try dsimp only at h)
  refine lv_iconst (v := 0) hC.1 hC.2.1 dX7_stageAll_6 (by decide) ?_
  refine lv_istore_n (lv' := [(3, .int 0), (2, .int 0), (0, .ref (lay 0)), (1, .int a1)]) hC.1 hC.2.1 dX7_stageAll_7 rfl hl (by decide) rfl (fun ls hl => ?_)
  obtain ⟨n1, h⟩ := h
  exact l_X7_stageAll_8 a1 hC hr hlocks hT n1 _ _ _ h _ _ _ G (lv_sub hl [2, 3, 1, 0] rfl)
theorem hdV_X7_stageAll : yX7_stageAll.cls = RX7 ∧ yX7_stageAll.cls ≠ "java/lang/invoke/MethodHandle" ∧ yX7_stageAll.cls ≠ "java/lang/invoke/VarHandle" ∧ (parseMethodDescriptor yX7_stageAll.desc).map (fun d => d.parameters.length) = some 1 := by decide +kernel
abbrev rm_X7_putOnStage : Room := { frames := 1, cells := 0, slots := 0, locals := 22 }
theorem i_X7_putOnStage_X6 : ∀ w ∈ wsX60, w ∈ wsX7_putOnStage := fun _ h => List.mem_cons_of_mem _ (List.mem_append_left _ (List.mem_append_right _ h))
def w_X7_putOnStage (post : MS → Prop) (σ : MS) (i1 : Nat) (a2 : Int32) : Prop := ((a2 = 0 → w_X7_getPaid (fun σ2 => post σ2) (up2 σ (73 + i1) 7 3) i1 ((-(((up2 σ (73 + i1) 7 3) (73 + i1) 9) / 5)) - (((up2 σ (73 + i1) 7 3) (73 + i1) 9) / 10))) ∧ (¬ a2 = 0 → post (up2 σ (73 + i1) 8 a2)))
set_option maxHeartbeats 4000000 in
set_option maxRecDepth 100000 in
theorem c_X7_putOnStage (l : Launch) (D : va_G) (cy : Nat → ClassId) (lay : Nat → Nat) {σ : MS} {post : MS → Prop} {i1 : Nat} {a2 : Int32} (h : w_X7_putOnStage post σ i1 a2) (hi1 : i1 < 14) (sz : Nat) : Met l yX7_putOnStage wsX7_putOnStage rm_X7_putOnStage (va_Pc [.ref (lay 0), .ref (lay (73 + i1)), .int a2] (agI D cy lay σ sz)) (va_Qv post (agO D cy lay) (agA lay sz)) 0 0 (agA lay sz) := by
  refine ag_ofW (cc := cX7_putOnStage) (maxL := 3) (ret := none) (own := RX7) (Qc := fun sz => va_Qv post (agO D cy lay) (agA lay sz)) (by decide) rfl (Nat.le_of_ble_eq_true rfl) rfl ?_
  intro p e s m args below meth c ls hC hr hlocks hT G hl
  unfold w_X7_putOnStage at h
  have hl : lv_has ls 3 [(0, .ref (lay 0)), (1, .ref (lay (73 + i1))), (2, .int a2)] := hl
  refine lv_iload_n hC.1 hC.2.1 dX7_putOnStage_0 rfl (lv_at hl 2 rfl) ?_
  refine lv_if_eq (tgt := 10) hC.1 hC.2.1 dX7_putOnStage_1 (by decide) (fun c1 => ?_) (fun c1 => ?_)
  · replace h := h.1 c1
    refine lv_aload_n hC.1 hC.2.1 dX7_putOnStage_10 rfl (lv_at hl 1 rfl) ?_
    refine lv_iconst (v := 3) hC.1 hC.2.1 dX7_putOnStage_11 (by decide) ?_
    refine ag_put hC hT G (k_wd hi1) (e_wd hi1) k_X6 i_X7_putOnStage_X6 7 (by decide) (wm 2 rfl) rfl rfl (by simp) (e_wd hi1) rfl dX7_putOnStage_12 (fun H locs G => ?_)
    refine lv_aload_n hC.1 hC.2.1 dX7_putOnStage_15 rfl (lv_at hl 0 rfl) ?_
    refine lv_aload_n hC.1 hC.2.1 dX7_putOnStage_16 rfl (lv_at hl 1 rfl) ?_
    refine lv_aload_n hC.1 hC.2.1 dX7_putOnStage_17 rfl (lv_at hl 1 rfl) ?_
    refine ag_get hC hT G (k_wd hi1) (e_wd hi1) k_X6 i_X7_putOnStage_X6 9 (by decide) (wm 3 rfl) rfl dX7_putOnStage_18 ?_
    refine lv_iconst (v := 5) hC.1 hC.2.1 dX7_putOnStage_21 (by decide) ?_
    refine lv_idiv hC.1 hC.2.1 dX7_putOnStage_22 (by decide) ?_
    refine lv_ineg hC.1 hC.2.1 dX7_putOnStage_23 ?_
    refine lv_aload_n hC.1 hC.2.1 dX7_putOnStage_24 rfl (lv_at hl 1 rfl) ?_
    refine ag_get hC hT G (k_wd hi1) (e_wd hi1) k_X6 i_X7_putOnStage_X6 9 (by decide) (wm 3 rfl) rfl dX7_putOnStage_25 ?_
    refine lv_bipush (v := 10) hC.1 hC.2.1 dX7_putOnStage_28 (by decide) ?_
    refine lv_idiv hC.1 hC.2.1 dX7_putOnStage_30 (by decide) ?_
    refine lv_isub hC.1 hC.2.1 dX7_putOnStage_31 ?_
    refine ag_v G (ag_runV (As := [.ref (lay (73 + i1)), .int ((-(((up2 σ (73 + i1) 7 3) (73 + i1) 9) / 5)) - (((up2 σ (73 + i1) 7 3) (73 + i1) 9) / 10))]) (rest := []) hC hT G (c_X7_getPaid l D cy lay h hi1 _) (cwV 2 hC.2.2.2.2 gX7_putOnStage_X7_getPaid rfl rfl rfl hdV_X7_getPaid ⟨Nat.le_of_ble_eq_true rfl, Nat.le_of_ble_eq_true rfl⟩) (ag_recv hT G (by decide) e_ag k_X7) rfl hl.1 rfl (Nat.le_of_ble_eq_true rfl) dX7_putOnStage_32 ⟨Nat.le_of_ble_eq_true rfl, Nat.le_of_ble_eq_true rfl⟩) (fun σ2 H locs h G => ?_)
    (try dsimp only at h)
    exact ag_vret hC hr hlocks G h dX7_putOnStage_35
  · replace h := h.2 c1
    refine lv_aload_n hC.1 hC.2.1 dX7_putOnStage_4 rfl (lv_at hl 1 rfl) ?_
    refine lv_iload_n hC.1 hC.2.1 dX7_putOnStage_5 rfl (lv_at hl 2 rfl) ?_
    refine ag_put hC hT G (k_wd hi1) (e_wd hi1) k_X6 i_X7_putOnStage_X6 8 (by decide) (wm 1 rfl) rfl rfl (by simp) (e_wd hi1) rfl dX7_putOnStage_6 (fun H locs G => ?_)
    exact ag_vret hC hr hlocks G h dX7_putOnStage_9
theorem hdV_X7_putOnStage : yX7_putOnStage.cls = RX7 ∧ yX7_putOnStage.cls ≠ "java/lang/invoke/MethodHandle" ∧ yX7_putOnStage.cls ≠ "java/lang/invoke/VarHandle" ∧ (parseMethodDescriptor yX7_putOnStage.desc).map (fun d => d.parameters.length) = some 2 := by decide +kernel
abbrev rm_X7_countFixedWith : Room := { frames := 2, cells := 0, slots := 0, locals := 42 }
theorem i_X7_countFixedWith_X7 : ∀ w ∈ wsX70, w ∈ wsX7_countFixedWith := fun _ h => List.mem_cons_of_mem _ (List.mem_append_left _ (List.mem_append_right _ h))
def u_X7_countFixedWith_4 (post : Int32 → MS → Prop) (a1 : Int32) : Nat → MS → Int32 → Int32 → Prop
  | 0, _, _, _ => False
  | n + 1, σ, v2, v3 => (((σ 0 8) ≤ v3 → post v2 σ) ∧ (¬ (σ 0 8) ≤ v3 → (vp_in v3 14 ∧ w_X6_isFixedWith (fun r4 σ3 => ((r4 = 0 → u_X7_countFixedWith_4 post a1 n σ3 v2 (v3 + 1)) ∧ (¬ r4 = 0 → u_X7_countFixedWith_4 post a1 n σ3 (v2 + 1) (v3 + 1)))) σ (Int32.toNatClampNeg v3) a1)))
set_option maxHeartbeats 4000000 in
set_option maxRecDepth 100000 in
theorem l_X7_countFixedWith_4 {p : Program} {l : Launch} {e : Env} {s : State} {m : MethodId} {args : Array Value} {below : List Frame} {meth : Method} {c : Code} {D : va_G} {cy : Nat → ClassId} {lay : Nat → Nat} {post : Int32 → MS → Prop} (a1 : Int32) (hC : CallFix p m c cX7_countFixedWith 4 s args wsX7_countFixedWith RX7) (hr : meth.sig.returnType = some .int) (hlocks : meth.locks = false) (hT : agT D cy lay s) : ∀ (n : Nat), ∀ (σ : MS) (v2 : Int32) (v3 : Int32), u_X7_countFixedWith_4 post a1 n σ v2 v3 → ∀ (H : Heap) (locs : List Loc) (ls : Array Slot), agG D cy lay σ (agA lay s.heap.size) s.heap H locs → lv_has ls 4 [(0, .ref (lay 0)), (1, .int a1), (2, .int v2), (3, .int v3)] → W p l e rm_X7_countFixedWith s m args below meth c H locs 0 0 (MQ below (va_Qi post (agO D cy lay) (agA lay s.heap.size)) args s 0 0 (agA lay s.heap.size)) (F0 m 4 ls []) := by
  intro n
  induction n with
  | zero =>
    intro σ v2 v3 h
    exact h.elim
  | succ n ih =>
    intro σ v2 v3 h H locs ls G hl
    rw [u_X7_countFixedWith_4] at h
    refine lv_iload_n hC.1 hC.2.1 dX7_countFixedWith_4 rfl (lv_at hl 3 rfl) ?_
    refine lv_aload_n hC.1 hC.2.1 dX7_countFixedWith_5 rfl (lv_at hl 0 rfl) ?_
    refine ag_get hC hT G (by decide) e_ag k_X7 i_X7_countFixedWith_X7 8 (by decide) (wm 1 rfl) rfl dX7_countFixedWith_6 ?_
    refine lv_icmp_ge (tgt := 34) hC.1 hC.2.1 dX7_countFixedWith_9 (by decide) (fun c1 => ?_) (fun c1 => ?_)
    · replace h := h.1 c1
      refine lv_iload_n hC.1 hC.2.1 dX7_countFixedWith_34 rfl (lv_at hl 2 rfl) ?_
      exact ag_iret hC hr hlocks G h dX7_countFixedWith_35
    · replace h := h.2 c1
      refine lv_aload_n hC.1 hC.2.1 dX7_countFixedWith_12 rfl (lv_at hl 0 rfl) ?_
      refine ag_get hC hT G (by decide) e_ag k_X7 i_X7_countFixedWith_X7 3 (by decide) (wm 2 rfl) rfl dX7_countFixedWith_13 ?_
      refine lv_iload_n hC.1 hC.2.1 dX7_countFixedWith_16 rfl (lv_at hl 3 rfl) ?_
      obtain ⟨hn2, h⟩ := h
      refine ag_aald hC hT G (by decide) _ rfl e_wds hn2 dX7_countFixedWith_17 ?_
      refine lv_iload_n hC.1 hC.2.1 dX7_countFixedWith_18 rfl (lv_at hl 1 rfl) ?_
      refine ag_i G (ag_runV (As := [.int a1]) (rest := []) hC hT G (c_X6_isFixedWith l D cy lay h (vlt hn2) _) (cwV 1 hC.2.2.2.2 gX7_countFixedWith_X6_isFixedWith rfl rfl rfl hdV_X6_isFixedWith ⟨Nat.le_of_ble_eq_true rfl, Nat.le_of_ble_eq_true rfl⟩) (ag_recv hT G (k_wd (vlt hn2)) (e_wd (vlt hn2)) k_X6) rfl hl.1 rfl (Nat.le_of_ble_eq_true rfl) dX7_countFixedWith_19 ⟨Nat.le_of_ble_eq_true rfl, Nat.le_of_ble_eq_true rfl⟩) (fun r4 σ3 H locs h G => ?_)
      (try dsimp only at h)
      refine lv_if_eq (tgt := 28) hC.1 hC.2.1 dX7_countFixedWith_22 (by decide) (fun c5 => ?_) (fun c5 => ?_)
      · replace h := h.1 c5
        refine lv_iinc (v := v3 + 1) (lv' := [(3, .int (v3 + 1)), (0, .ref (lay 0)), (1, .int a1), (2, .int v2)]) hC.1 hC.2.1 dX7_countFixedWith_28 hl (k := 3) rfl rfl (by decide) rfl (fun ls hl => ?_)
        refine lv_goto (tgt := 4) hC.1 hC.2.1 dX7_countFixedWith_31 (by decide) ?_
        exact ih _ _ _ h _ _ _ G (lv_sub hl [1, 2, 3, 0] rfl)
      · replace h := h.2 c5
        refine lv_iinc (v := v2 + 1) (lv' := [(2, .int (v2 + 1)), (0, .ref (lay 0)), (1, .int a1), (3, .int v3)]) hC.1 hC.2.1 dX7_countFixedWith_25 hl (k := 2) rfl rfl (by decide) rfl (fun ls hl => ?_)
        refine lv_iinc (v := v3 + 1) (lv' := [(3, .int (v3 + 1)), (2, .int (v2 + 1)), (0, .ref (lay 0)), (1, .int a1)]) hC.1 hC.2.1 dX7_countFixedWith_28 hl (k := 3) rfl rfl (by decide) rfl (fun ls hl => ?_)
        refine lv_goto (tgt := 4) hC.1 hC.2.1 dX7_countFixedWith_31 (by decide) ?_
        exact ih _ _ _ h _ _ _ G (lv_sub hl [2, 3, 1, 0] rfl)
def w_X7_countFixedWith (post : Int32 → MS → Prop) (σ : MS) (a1 : Int32) : Prop := (∃ k, u_X7_countFixedWith_4 post a1 k σ 0 0)
set_option maxHeartbeats 4000000 in
set_option maxRecDepth 100000 in
theorem c_X7_countFixedWith (l : Launch) (D : va_G) (cy : Nat → ClassId) (lay : Nat → Nat) {σ : MS} {post : Int32 → MS → Prop} {a1 : Int32} (h : w_X7_countFixedWith post σ a1) (sz : Nat) : Met l yX7_countFixedWith wsX7_countFixedWith rm_X7_countFixedWith (va_Pc [.ref (lay 0), .int a1] (agI D cy lay σ sz)) (va_Qi post (agO D cy lay) (agA lay sz)) 0 0 (agA lay sz) := by
  refine ag_ofW (cc := cX7_countFixedWith) (maxL := 4) (ret := some .int) (own := RX7) (Qc := fun sz => va_Qi post (agO D cy lay) (agA lay sz)) (by decide) rfl (Nat.le_of_ble_eq_true rfl) rfl ?_
  intro p e s m args below meth c ls hC hr hlocks hT G hl
  unfold w_X7_countFixedWith at h
  have hl : lv_has ls 4 [(0, .ref (lay 0)), (1, .int a1)] := hl
  refine lv_iconst (v := 0) hC.1 hC.2.1 dX7_countFixedWith_0 (by decide) ?_
  refine lv_istore_n (lv' := [(2, .int 0), (0, .ref (lay 0)), (1, .int a1)]) hC.1 hC.2.1 dX7_countFixedWith_1 rfl hl (by decide) rfl (fun ls hl => ?_)
  refine lv_iconst (v := 0) hC.1 hC.2.1 dX7_countFixedWith_2 (by decide) ?_
  refine lv_istore_n (lv' := [(3, .int 0), (2, .int 0), (0, .ref (lay 0)), (1, .int a1)]) hC.1 hC.2.1 dX7_countFixedWith_3 rfl hl (by decide) rfl (fun ls hl => ?_)
  obtain ⟨n1, h⟩ := h
  exact l_X7_countFixedWith_4 a1 hC hr hlocks hT n1 _ _ _ h _ _ _ G (lv_sub hl [2, 3, 1, 0] rfl)
theorem hdV_X7_countFixedWith : yX7_countFixedWith.cls = RX7 ∧ yX7_countFixedWith.cls ≠ "java/lang/invoke/MethodHandle" ∧ yX7_countFixedWith.cls ≠ "java/lang/invoke/VarHandle" ∧ (parseMethodDescriptor yX7_countFixedWith.desc).map (fun d => d.parameters.length) = some 1 := by decide +kernel
abbrev rm_X7_countKnowing : Room := { frames := 1, cells := 0, slots := 0, locals := 21 }
theorem i_X7_countKnowing_X7 : ∀ w ∈ wsX70, w ∈ wsX7_countKnowing := fun _ h => List.mem_cons_of_mem _ (List.mem_append_left _ (List.mem_append_right _ h))
theorem i_X7_countKnowing_X3 : ∀ w ∈ wsX30, w ∈ wsX7_countKnowing := fun _ h => List.mem_cons_of_mem _ (List.mem_append_right _ h)
def u_X7_countKnowing_4 (post : Int32 → MS → Prop) (a1 : Int32) : Nat → MS → Int32 → Int32 → Prop
  | 0, _, _, _ => False
  | n + 1, σ, v2, v3 => (((σ 0 6) ≤ v3 → post v2 σ) ∧ (¬ (σ 0 6) ≤ v3 → (vp_in v3 10 ∧ w_X7_has (fun r4 σ3 => ((r4 = 0 → u_X7_countKnowing_4 post a1 n σ3 v2 (v3 + 1)) ∧ (¬ r4 = 0 → u_X7_countKnowing_4 post a1 n σ3 (v2 + 1) (v3 + 1)))) σ (σ (29 + (Int32.toNatClampNeg v3)) 1) a1)))
set_option maxHeartbeats 4000000 in
set_option maxRecDepth 100000 in
theorem l_X7_countKnowing_4 {p : Program} {l : Launch} {e : Env} {s : State} {m : MethodId} {args : Array Value} {below : List Frame} {meth : Method} {c : Code} {D : va_G} {cy : Nat → ClassId} {lay : Nat → Nat} {post : Int32 → MS → Prop} (a1 : Int32) (hC : CallFix p m c cX7_countKnowing 4 s args wsX7_countKnowing RX7) (hr : meth.sig.returnType = some .int) (hlocks : meth.locks = false) (hT : agT D cy lay s) : ∀ (n : Nat), ∀ (σ : MS) (v2 : Int32) (v3 : Int32), u_X7_countKnowing_4 post a1 n σ v2 v3 → ∀ (H : Heap) (locs : List Loc) (ls : Array Slot), agG D cy lay σ (agA lay s.heap.size) s.heap H locs → lv_has ls 4 [(0, .ref (lay 0)), (1, .int a1), (2, .int v2), (3, .int v3)] → W p l e rm_X7_countKnowing s m args below meth c H locs 0 0 (MQ below (va_Qi post (agO D cy lay) (agA lay s.heap.size)) args s 0 0 (agA lay s.heap.size)) (F0 m 4 ls []) := by
  intro n
  induction n with
  | zero =>
    intro σ v2 v3 h
    exact h.elim
  | succ n ih =>
    intro σ v2 v3 h H locs ls G hl
    rw [u_X7_countKnowing_4] at h
    refine lv_iload_n hC.1 hC.2.1 dX7_countKnowing_4 rfl (lv_at hl 3 rfl) ?_
    refine lv_aload_n hC.1 hC.2.1 dX7_countKnowing_5 rfl (lv_at hl 0 rfl) ?_
    refine ag_get hC hT G (by decide) e_ag k_X7 i_X7_countKnowing_X7 6 (by decide) (wm 1 rfl) rfl dX7_countKnowing_6 ?_
    refine lv_icmp_ge (tgt := 37) hC.1 hC.2.1 dX7_countKnowing_9 (by decide) (fun c1 => ?_) (fun c1 => ?_)
    · replace h := h.1 c1
      refine lv_iload_n hC.1 hC.2.1 dX7_countKnowing_37 rfl (lv_at hl 2 rfl) ?_
      exact ag_iret hC hr hlocks G h dX7_countKnowing_38
    · replace h := h.2 c1
      refine lv_aload_n hC.1 hC.2.1 dX7_countKnowing_12 rfl (lv_at hl 0 rfl) ?_
      refine ag_get hC hT G (by decide) e_ag k_X7 i_X7_countKnowing_X7 0 (by decide) (wm 2 rfl) rfl dX7_countKnowing_13 ?_
      refine lv_iload_n hC.1 hC.2.1 dX7_countKnowing_16 rfl (lv_at hl 3 rfl) ?_
      obtain ⟨hn2, h⟩ := h
      refine ag_aald hC hT G (by decide) _ rfl e_pls hn2 dX7_countKnowing_17 ?_
      refine ag_get hC hT G (k_pl (vlt hn2)) (e_pl (vlt hn2)) k_X3 i_X7_countKnowing_X3 1 (by decide) (wm 3 rfl) rfl dX7_countKnowing_18 ?_
      refine lv_iload_n hC.1 hC.2.1 dX7_countKnowing_21 rfl (lv_at hl 1 rfl) ?_
      refine ag_i G (ag_runS (As := [.int (σ (29 + (Int32.toNatClampNeg v3)) 1), .int a1]) (rest := []) hC hT G (c_X7_has l D cy lay h _) (va_cwS 2 hC.2.2.2.2 gX7_countKnowing_X7_has rfl rfl rfl hdS_X7_has ⟨Nat.le_of_ble_eq_true rfl, Nat.le_of_ble_eq_true rfl⟩) rfl hl.1 rfl (Nat.le_of_ble_eq_true rfl) dX7_countKnowing_22 ⟨Nat.le_of_ble_eq_true rfl, Nat.le_of_ble_eq_true rfl⟩) (fun r4 σ3 H locs h G => ?_)
      (try dsimp only at h)
      refine lv_if_eq (tgt := 31) hC.1 hC.2.1 dX7_countKnowing_25 (by decide) (fun c5 => ?_) (fun c5 => ?_)
      · replace h := h.1 c5
        refine lv_iinc (v := v3 + 1) (lv' := [(3, .int (v3 + 1)), (0, .ref (lay 0)), (1, .int a1), (2, .int v2)]) hC.1 hC.2.1 dX7_countKnowing_31 hl (k := 3) rfl rfl (by decide) rfl (fun ls hl => ?_)
        refine lv_goto (tgt := 4) hC.1 hC.2.1 dX7_countKnowing_34 (by decide) ?_
        exact ih _ _ _ h _ _ _ G (lv_sub hl [1, 2, 3, 0] rfl)
      · replace h := h.2 c5
        refine lv_iinc (v := v2 + 1) (lv' := [(2, .int (v2 + 1)), (0, .ref (lay 0)), (1, .int a1), (3, .int v3)]) hC.1 hC.2.1 dX7_countKnowing_28 hl (k := 2) rfl rfl (by decide) rfl (fun ls hl => ?_)
        refine lv_iinc (v := v3 + 1) (lv' := [(3, .int (v3 + 1)), (2, .int (v2 + 1)), (0, .ref (lay 0)), (1, .int a1)]) hC.1 hC.2.1 dX7_countKnowing_31 hl (k := 3) rfl rfl (by decide) rfl (fun ls hl => ?_)
        refine lv_goto (tgt := 4) hC.1 hC.2.1 dX7_countKnowing_34 (by decide) ?_
        exact ih _ _ _ h _ _ _ G (lv_sub hl [2, 3, 1, 0] rfl)
def w_X7_countKnowing (post : Int32 → MS → Prop) (σ : MS) (a1 : Int32) : Prop := (∃ k, u_X7_countKnowing_4 post a1 k σ 0 0)
set_option maxHeartbeats 4000000 in
set_option maxRecDepth 100000 in
theorem c_X7_countKnowing (l : Launch) (D : va_G) (cy : Nat → ClassId) (lay : Nat → Nat) {σ : MS} {post : Int32 → MS → Prop} {a1 : Int32} (h : w_X7_countKnowing post σ a1) (sz : Nat) : Met l yX7_countKnowing wsX7_countKnowing rm_X7_countKnowing (va_Pc [.ref (lay 0), .int a1] (agI D cy lay σ sz)) (va_Qi post (agO D cy lay) (agA lay sz)) 0 0 (agA lay sz) := by
  refine ag_ofW (cc := cX7_countKnowing) (maxL := 4) (ret := some .int) (own := RX7) (Qc := fun sz => va_Qi post (agO D cy lay) (agA lay sz)) (by decide) rfl (Nat.le_of_ble_eq_true rfl) rfl ?_
  intro p e s m args below meth c ls hC hr hlocks hT G hl
  unfold w_X7_countKnowing at h
  have hl : lv_has ls 4 [(0, .ref (lay 0)), (1, .int a1)] := hl
  refine lv_iconst (v := 0) hC.1 hC.2.1 dX7_countKnowing_0 (by decide) ?_
  refine lv_istore_n (lv' := [(2, .int 0), (0, .ref (lay 0)), (1, .int a1)]) hC.1 hC.2.1 dX7_countKnowing_1 rfl hl (by decide) rfl (fun ls hl => ?_)
  refine lv_iconst (v := 0) hC.1 hC.2.1 dX7_countKnowing_2 (by decide) ?_
  refine lv_istore_n (lv' := [(3, .int 0), (2, .int 0), (0, .ref (lay 0)), (1, .int a1)]) hC.1 hC.2.1 dX7_countKnowing_3 rfl hl (by decide) rfl (fun ls hl => ?_)
  obtain ⟨n1, h⟩ := h
  exact l_X7_countKnowing_4 a1 hC hr hlocks hT n1 _ _ _ h _ _ _ G (lv_sub hl [2, 3, 1, 0] rfl)
theorem hdV_X7_countKnowing : yX7_countKnowing.cls = RX7 ∧ yX7_countKnowing.cls ≠ "java/lang/invoke/MethodHandle" ∧ yX7_countKnowing.cls ≠ "java/lang/invoke/VarHandle" ∧ (parseMethodDescriptor yX7_countKnowing.desc).map (fun d => d.parameters.length) = some 1 := by decide +kernel
abbrev rm_X7_countOfBand : Room := { frames := 0, cells := 0, slots := 0, locals := 0 }
theorem i_X7_countOfBand_X7 : ∀ w ∈ wsX70, w ∈ wsX7_countOfBand := fun _ h => List.mem_cons_of_mem _ (List.mem_append_left _ (List.mem_append_right _ h))
theorem i_X7_countOfBand_X6 : ∀ w ∈ wsX60, w ∈ wsX7_countOfBand := fun _ h => List.mem_cons_of_mem _ (List.mem_append_right _ h)
def u_X7_countOfBand_5 (post : Int32 → MS → Prop) (a1 : Int32) (a2 : Int32) : Nat → MS → Int32 → Int32 → Prop
  | 0, _, _, _ => False
  | n + 1, σ, v3, v4 => (((σ 0 8) ≤ v4 → post v3 σ) ∧ (¬ (σ 0 8) ≤ v4 → (vp_in v4 14 ∧ (((σ (73 + (Int32.toNatClampNeg v4)) 0) = a1 → ((a2 = 0 → u_X7_countOfBand_5 post a1 a2 n σ (v3 + 1) (v4 + 1)) ∧ (¬ a2 = 0 → (vp_in v4 14 ∧ (((σ (73 + (Int32.toNatClampNeg v4)) 7) = 2 → u_X7_countOfBand_5 post a1 a2 n σ (v3 + 1) (v4 + 1)) ∧ (¬ (σ (73 + (Int32.toNatClampNeg v4)) 7) = 2 → u_X7_countOfBand_5 post a1 a2 n σ v3 (v4 + 1))))))) ∧ (¬ (σ (73 + (Int32.toNatClampNeg v4)) 0) = a1 → u_X7_countOfBand_5 post a1 a2 n σ v3 (v4 + 1))))))
set_option maxHeartbeats 4000000 in
set_option maxRecDepth 100000 in
theorem l_X7_countOfBand_5 {p : Program} {l : Launch} {e : Env} {s : State} {m : MethodId} {args : Array Value} {below : List Frame} {meth : Method} {c : Code} {D : va_G} {cy : Nat → ClassId} {lay : Nat → Nat} {post : Int32 → MS → Prop} (a1 : Int32) (a2 : Int32) (hC : CallFix p m c cX7_countOfBand 5 s args wsX7_countOfBand RX7) (hr : meth.sig.returnType = some .int) (hlocks : meth.locks = false) (hT : agT D cy lay s) : ∀ (n : Nat), ∀ (σ : MS) (v3 : Int32) (v4 : Int32), u_X7_countOfBand_5 post a1 a2 n σ v3 v4 → ∀ (H : Heap) (locs : List Loc) (ls : Array Slot), agG D cy lay σ (agA lay s.heap.size) s.heap H locs → lv_has ls 5 [(0, .ref (lay 0)), (1, .int a1), (2, .int a2), (3, .int v3), (4, .int v4)] → W p l e rm_X7_countOfBand s m args below meth c H locs 0 0 (MQ below (va_Qi post (agO D cy lay) (agA lay s.heap.size)) args s 0 0 (agA lay s.heap.size)) (F0 m 5 ls []) := by
  intro n
  induction n with
  | zero =>
    intro σ v3 v4 h
    exact h.elim
  | succ n ih =>
    intro σ v3 v4 h H locs ls G hl
    rw [u_X7_countOfBand_5] at h
    refine lv_iload hC.1 hC.2.1 dX7_countOfBand_5 (lv_at hl 4 rfl) ?_
    refine lv_aload_n hC.1 hC.2.1 dX7_countOfBand_7 rfl (lv_at hl 0 rfl) ?_
    refine ag_get hC hT G (by decide) e_ag k_X7 i_X7_countOfBand_X7 8 (by decide) (wm 1 rfl) rfl dX7_countOfBand_8 ?_
    refine lv_icmp_ge (tgt := 55) hC.1 hC.2.1 dX7_countOfBand_11 (by decide) (fun c1 => ?_) (fun c1 => ?_)
    · replace h := h.1 c1
      refine lv_iload_n hC.1 hC.2.1 dX7_countOfBand_55 rfl (lv_at hl 3 rfl) ?_
      exact ag_iret hC hr hlocks G h dX7_countOfBand_56
    · replace h := h.2 c1
      refine lv_aload_n hC.1 hC.2.1 dX7_countOfBand_14 rfl (lv_at hl 0 rfl) ?_
      refine ag_get hC hT G (by decide) e_ag k_X7 i_X7_countOfBand_X7 3 (by decide) (wm 2 rfl) rfl dX7_countOfBand_15 ?_
      refine lv_iload hC.1 hC.2.1 dX7_countOfBand_18 (lv_at hl 4 rfl) ?_
      obtain ⟨hn2, h⟩ := h
      refine ag_aald hC hT G (by decide) _ rfl e_wds hn2 dX7_countOfBand_20 ?_
      refine ag_get hC hT G (k_wd (vlt hn2)) (e_wd (vlt hn2)) k_X6 i_X7_countOfBand_X6 0 (by decide) (wm 3 rfl) rfl dX7_countOfBand_21 ?_
      refine lv_iload_n hC.1 hC.2.1 dX7_countOfBand_24 rfl (lv_at hl 1 rfl) ?_
      refine lv_icmp_ne (tgt := 49) hC.1 hC.2.1 dX7_countOfBand_25 (by decide) (fun c3 => ?_) (fun c3 => ?_)
      · replace h := h.2 c3
        refine lv_iinc (v := v4 + 1) (lv' := [(4, .int (v4 + 1)), (0, .ref (lay 0)), (1, .int a1), (2, .int a2), (3, .int v3)]) hC.1 hC.2.1 dX7_countOfBand_49 hl (k := 4) rfl rfl (by decide) rfl (fun ls hl => ?_)
        refine lv_goto (tgt := 5) hC.1 hC.2.1 dX7_countOfBand_52 (by decide) ?_
        exact ih _ _ _ h _ _ _ G (lv_sub hl [1, 2, 3, 4, 0] rfl)
      · replace h := h.1 c3
        refine lv_iload_n hC.1 hC.2.1 dX7_countOfBand_28 rfl (lv_at hl 2 rfl) ?_
        refine lv_if_eq (tgt := 46) hC.1 hC.2.1 dX7_countOfBand_29 (by decide) (fun c4 => ?_) (fun c4 => ?_)
        · replace h := h.1 c4
          refine lv_iinc (v := v3 + 1) (lv' := [(3, .int (v3 + 1)), (0, .ref (lay 0)), (1, .int a1), (2, .int a2), (4, .int v4)]) hC.1 hC.2.1 dX7_countOfBand_46 hl (k := 3) rfl rfl (by decide) rfl (fun ls hl => ?_)
          refine lv_iinc (v := v4 + 1) (lv' := [(4, .int (v4 + 1)), (3, .int (v3 + 1)), (0, .ref (lay 0)), (1, .int a1), (2, .int a2)]) hC.1 hC.2.1 dX7_countOfBand_49 hl (k := 4) rfl rfl (by decide) rfl (fun ls hl => ?_)
          refine lv_goto (tgt := 5) hC.1 hC.2.1 dX7_countOfBand_52 (by decide) ?_
          exact ih _ _ _ h _ _ _ G (lv_sub hl [2, 3, 4, 1, 0] rfl)
        · replace h := h.2 c4
          refine lv_aload_n hC.1 hC.2.1 dX7_countOfBand_32 rfl (lv_at hl 0 rfl) ?_
          refine ag_get hC hT G (by decide) e_ag k_X7 i_X7_countOfBand_X7 3 (by decide) (wm 2 rfl) rfl dX7_countOfBand_33 ?_
          refine lv_iload hC.1 hC.2.1 dX7_countOfBand_36 (lv_at hl 4 rfl) ?_
          obtain ⟨hn5, h⟩ := h
          refine ag_aald hC hT G (by decide) _ rfl e_wds hn5 dX7_countOfBand_38 ?_
          refine ag_get hC hT G (k_wd (vlt hn5)) (e_wd (vlt hn5)) k_X6 i_X7_countOfBand_X6 7 (by decide) (wm 4 rfl) rfl dX7_countOfBand_39 ?_
          refine lv_iconst (v := 2) hC.1 hC.2.1 dX7_countOfBand_42 (by decide) ?_
          refine lv_icmp_ne (tgt := 49) hC.1 hC.2.1 dX7_countOfBand_43 (by decide) (fun c6 => ?_) (fun c6 => ?_)
          · replace h := h.2 c6
            refine lv_iinc (v := v4 + 1) (lv' := [(4, .int (v4 + 1)), (0, .ref (lay 0)), (1, .int a1), (2, .int a2), (3, .int v3)]) hC.1 hC.2.1 dX7_countOfBand_49 hl (k := 4) rfl rfl (by decide) rfl (fun ls hl => ?_)
            refine lv_goto (tgt := 5) hC.1 hC.2.1 dX7_countOfBand_52 (by decide) ?_
            exact ih _ _ _ h _ _ _ G (lv_sub hl [1, 2, 3, 4, 0] rfl)
          · replace h := h.1 c6
            refine lv_iinc (v := v3 + 1) (lv' := [(3, .int (v3 + 1)), (0, .ref (lay 0)), (1, .int a1), (2, .int a2), (4, .int v4)]) hC.1 hC.2.1 dX7_countOfBand_46 hl (k := 3) rfl rfl (by decide) rfl (fun ls hl => ?_)
            refine lv_iinc (v := v4 + 1) (lv' := [(4, .int (v4 + 1)), (3, .int (v3 + 1)), (0, .ref (lay 0)), (1, .int a1), (2, .int a2)]) hC.1 hC.2.1 dX7_countOfBand_49 hl (k := 4) rfl rfl (by decide) rfl (fun ls hl => ?_)
            refine lv_goto (tgt := 5) hC.1 hC.2.1 dX7_countOfBand_52 (by decide) ?_
            exact ih _ _ _ h _ _ _ G (lv_sub hl [2, 3, 4, 1, 0] rfl)
def w_X7_countOfBand (post : Int32 → MS → Prop) (σ : MS) (a1 : Int32) (a2 : Int32) : Prop := (∃ k, u_X7_countOfBand_5 post a1 a2 k σ 0 0)
set_option maxHeartbeats 4000000 in
set_option maxRecDepth 100000 in
theorem c_X7_countOfBand (l : Launch) (D : va_G) (cy : Nat → ClassId) (lay : Nat → Nat) {σ : MS} {post : Int32 → MS → Prop} {a1 : Int32} {a2 : Int32} (h : w_X7_countOfBand post σ a1 a2) (sz : Nat) : Met l yX7_countOfBand wsX7_countOfBand rm_X7_countOfBand (va_Pc [.ref (lay 0), .int a1, .int a2] (agI D cy lay σ sz)) (va_Qi post (agO D cy lay) (agA lay sz)) 0 0 (agA lay sz) := by
  refine ag_ofW (cc := cX7_countOfBand) (maxL := 5) (ret := some .int) (own := RX7) (Qc := fun sz => va_Qi post (agO D cy lay) (agA lay sz)) (by decide) rfl (Nat.le_of_ble_eq_true rfl) rfl ?_
  intro p e s m args below meth c ls hC hr hlocks hT G hl
  unfold w_X7_countOfBand at h
  have hl : lv_has ls 5 [(0, .ref (lay 0)), (1, .int a1), (2, .int a2)] := hl
  refine lv_iconst (v := 0) hC.1 hC.2.1 dX7_countOfBand_0 (by decide) ?_
  refine lv_istore_n (lv' := [(3, .int 0), (0, .ref (lay 0)), (1, .int a1), (2, .int a2)]) hC.1 hC.2.1 dX7_countOfBand_1 rfl hl (by decide) rfl (fun ls hl => ?_)
  refine lv_iconst (v := 0) hC.1 hC.2.1 dX7_countOfBand_2 (by decide) ?_
  refine lv_istore (lv' := [(4, .int 0), (3, .int 0), (0, .ref (lay 0)), (1, .int a1), (2, .int a2)]) hC.1 hC.2.1 dX7_countOfBand_3 hl (by decide) rfl (fun ls hl => ?_)
  obtain ⟨n1, h⟩ := h
  exact l_X7_countOfBand_5 a1 a2 hC hr hlocks hT n1 _ _ _ h _ _ _ G (lv_sub hl [2, 3, 4, 1, 0] rfl)
theorem hdV_X7_countOfBand : yX7_countOfBand.cls = RX7 ∧ yX7_countOfBand.cls ≠ "java/lang/invoke/MethodHandle" ∧ yX7_countOfBand.cls ≠ "java/lang/invoke/VarHandle" ∧ (parseMethodDescriptor yX7_countOfBand.desc).map (fun d => d.parameters.length) = some 2 := by decide +kernel
abbrev rm_X7_countFeuds : Room := { frames := 1, cells := 0, slots := 0, locals := 20 }
theorem i_X7_countFeuds_X7 : ∀ w ∈ wsX70, w ∈ wsX7_countFeuds := fun _ h => List.mem_cons_of_mem _ (List.mem_append_left _ (List.mem_append_right _ h))
theorem i_X7_countFeuds_X3 : ∀ w ∈ wsX30, w ∈ wsX7_countFeuds := fun _ h => List.mem_cons_of_mem _ (List.mem_append_right _ h)
def u_X7_countFeuds_4 (post : Int32 → MS → Prop) : Nat → MS → Int32 → Int32 → Prop
  | 0, _, _, _ => False
  | n + 1, σ, v1, v2 => (((σ 0 6) ≤ v2 → post (v1 / 2) σ) ∧ (¬ (σ 0 6) ≤ v2 → (vp_in v2 10 ∧ w_J6_bitCount_0f7a4 (fun r4 σ3 => u_X7_countFeuds_4 post n σ3 (v1 + r4) (v2 + 1)) σ (σ (29 + (Int32.toNatClampNeg v2)) 4))))
set_option maxHeartbeats 4000000 in
set_option maxRecDepth 100000 in
theorem l_X7_countFeuds_4 {p : Program} {l : Launch} {e : Env} {s : State} {m : MethodId} {args : Array Value} {below : List Frame} {meth : Method} {c : Code} {D : va_G} {cy : Nat → ClassId} {lay : Nat → Nat} {post : Int32 → MS → Prop} (hC : CallFix p m c cX7_countFeuds 3 s args wsX7_countFeuds RX7) (hr : meth.sig.returnType = some .int) (hlocks : meth.locks = false) (hT : agT D cy lay s) : ∀ (n : Nat), ∀ (σ : MS) (v1 : Int32) (v2 : Int32), u_X7_countFeuds_4 post n σ v1 v2 → ∀ (H : Heap) (locs : List Loc) (ls : Array Slot), agG D cy lay σ (agA lay s.heap.size) s.heap H locs → lv_has ls 3 [(0, .ref (lay 0)), (1, .int v1), (2, .int v2)] → W p l e rm_X7_countFeuds s m args below meth c H locs 0 0 (MQ below (va_Qi post (agO D cy lay) (agA lay s.heap.size)) args s 0 0 (agA lay s.heap.size)) (F0 m 4 ls []) := by
  intro n
  induction n with
  | zero =>
    intro σ v1 v2 h
    exact h.elim
  | succ n ih =>
    intro σ v1 v2 h H locs ls G hl
    rw [u_X7_countFeuds_4] at h
    refine lv_iload_n hC.1 hC.2.1 dX7_countFeuds_4 rfl (lv_at hl 2 rfl) ?_
    refine lv_aload_n hC.1 hC.2.1 dX7_countFeuds_5 rfl (lv_at hl 0 rfl) ?_
    refine ag_get hC hT G (by decide) e_ag k_X7 i_X7_countFeuds_X7 6 (by decide) (wm 1 rfl) rfl dX7_countFeuds_6 ?_
    refine lv_icmp_ge (tgt := 33) hC.1 hC.2.1 dX7_countFeuds_9 (by decide) (fun c1 => ?_) (fun c1 => ?_)
    · replace h := h.1 c1
      refine lv_iload_n hC.1 hC.2.1 dX7_countFeuds_33 rfl (lv_at hl 1 rfl) ?_
      refine lv_iconst (v := 2) hC.1 hC.2.1 dX7_countFeuds_34 (by decide) ?_
      refine lv_idiv hC.1 hC.2.1 dX7_countFeuds_35 (by decide) ?_
      exact ag_iret hC hr hlocks G h dX7_countFeuds_36
    · replace h := h.2 c1
      refine lv_iload_n hC.1 hC.2.1 dX7_countFeuds_12 rfl (lv_at hl 1 rfl) ?_
      refine lv_aload_n hC.1 hC.2.1 dX7_countFeuds_13 rfl (lv_at hl 0 rfl) ?_
      refine ag_get hC hT G (by decide) e_ag k_X7 i_X7_countFeuds_X7 0 (by decide) (wm 2 rfl) rfl dX7_countFeuds_14 ?_
      refine lv_iload_n hC.1 hC.2.1 dX7_countFeuds_17 rfl (lv_at hl 2 rfl) ?_
      obtain ⟨hn2, h⟩ := h
      refine ag_aald hC hT G (by decide) _ rfl e_pls hn2 dX7_countFeuds_18 ?_
      refine ag_get hC hT G (k_pl (vlt hn2)) (e_pl (vlt hn2)) k_X3 i_X7_countFeuds_X3 4 (by decide) (wm 3 rfl) rfl dX7_countFeuds_19 ?_
      refine ag_i G (ag_runS (As := [.int (σ (29 + (Int32.toNatClampNeg v2)) 4)]) (rest := [.int v1]) hC hT G (c_J6_bitCount_0f7a4 l D cy lay h _) (va_cwS 1 hC.2.2.2.2 gX7_countFeuds_J6_bitCount_0f7a4 rfl rfl rfl hdS_J6_bitCount_0f7a4 ⟨Nat.le_of_ble_eq_true rfl, Nat.le_of_ble_eq_true rfl⟩) rfl hl.1 rfl (Nat.le_of_ble_eq_true rfl) dX7_countFeuds_22 ⟨Nat.le_of_ble_eq_true rfl, Nat.le_of_ble_eq_true rfl⟩) (fun r4 σ3 H locs h G => ?_)
      (try dsimp only at h)
      refine lv_iadd hC.1 hC.2.1 dX7_countFeuds_25 ?_
      refine lv_istore_n (lv' := [(1, .int (v1 + r4)), (0, .ref (lay 0)), (2, .int v2)]) hC.1 hC.2.1 dX7_countFeuds_26 rfl hl (by decide) rfl (fun ls hl => ?_)
      refine lv_iinc (v := v2 + 1) (lv' := [(2, .int (v2 + 1)), (1, .int (v1 + r4)), (0, .ref (lay 0))]) hC.1 hC.2.1 dX7_countFeuds_27 hl (k := 2) rfl rfl (by decide) rfl (fun ls hl => ?_)
      refine lv_goto (tgt := 4) hC.1 hC.2.1 dX7_countFeuds_30 (by decide) ?_
      exact ih _ _ _ h _ _ _ G (lv_sub hl [2, 1, 0] rfl)
def w_X7_countFeuds (post : Int32 → MS → Prop) (σ : MS) : Prop := (∃ k, u_X7_countFeuds_4 post k σ 0 0)
set_option maxHeartbeats 4000000 in
set_option maxRecDepth 100000 in
theorem c_X7_countFeuds (l : Launch) (D : va_G) (cy : Nat → ClassId) (lay : Nat → Nat) {σ : MS} {post : Int32 → MS → Prop} (h : w_X7_countFeuds post σ) (sz : Nat) : Met l yX7_countFeuds wsX7_countFeuds rm_X7_countFeuds (va_Pc [.ref (lay 0)] (agI D cy lay σ sz)) (va_Qi post (agO D cy lay) (agA lay sz)) 0 0 (agA lay sz) := by
  refine ag_ofW (cc := cX7_countFeuds) (maxL := 3) (ret := some .int) (own := RX7) (Qc := fun sz => va_Qi post (agO D cy lay) (agA lay sz)) (by decide) rfl (Nat.le_of_ble_eq_true rfl) rfl ?_
  intro p e s m args below meth c ls hC hr hlocks hT G hl
  unfold w_X7_countFeuds at h
  have hl : lv_has ls 3 [(0, .ref (lay 0))] := hl
  refine lv_iconst (v := 0) hC.1 hC.2.1 dX7_countFeuds_0 (by decide) ?_
  refine lv_istore_n (lv' := [(1, .int 0), (0, .ref (lay 0))]) hC.1 hC.2.1 dX7_countFeuds_1 rfl hl (by decide) rfl (fun ls hl => ?_)
  refine lv_iconst (v := 0) hC.1 hC.2.1 dX7_countFeuds_2 (by decide) ?_
  refine lv_istore_n (lv' := [(2, .int 0), (1, .int 0), (0, .ref (lay 0))]) hC.1 hC.2.1 dX7_countFeuds_3 rfl hl (by decide) rfl (fun ls hl => ?_)
  obtain ⟨n1, h⟩ := h
  exact l_X7_countFeuds_4 hC hr hlocks hT n1 _ _ _ h _ _ _ G (lv_sub hl [2, 1, 0] rfl)
theorem hdV_X7_countFeuds : yX7_countFeuds.cls = RX7 ∧ yX7_countFeuds.cls ≠ "java/lang/invoke/MethodHandle" ∧ yX7_countFeuds.cls ≠ "java/lang/invoke/VarHandle" ∧ (parseMethodDescriptor yX7_countFeuds.desc).map (fun d => d.parameters.length) = some 0 := by decide +kernel
abbrev rm_X7_countDaysOff : Room := { frames := 1, cells := 0, slots := 0, locals := 20 }
theorem i_X7_countDaysOff_X7 : ∀ w ∈ wsX70, w ∈ wsX7_countDaysOff := fun _ h => List.mem_cons_of_mem _ (List.mem_append_right _ h)
def u_X7_countDaysOff_4 (post : Int32 → MS → Prop) : Nat → MS → Int32 → Int32 → Prop
  | 0, _, _, _ => False
  | n + 1, σ, v1, v2 => ((365 < v2 → post v1 σ) ∧ (¬ 365 < v2 → (vp_in v2 366 ∧ w_J6_bitCount_0f7a4 (fun r4 σ3 => u_X7_countDaysOff_4 post n σ3 (v1 + r4) (v2 + 1)) σ (σ 6 (Int32.toNatClampNeg v2)))))
set_option maxHeartbeats 4000000 in
set_option maxRecDepth 100000 in
theorem l_X7_countDaysOff_4 {p : Program} {l : Launch} {e : Env} {s : State} {m : MethodId} {args : Array Value} {below : List Frame} {meth : Method} {c : Code} {D : va_G} {cy : Nat → ClassId} {lay : Nat → Nat} {post : Int32 → MS → Prop} (hC : CallFix p m c cX7_countDaysOff 3 s args wsX7_countDaysOff RX7) (hr : meth.sig.returnType = some .int) (hlocks : meth.locks = false) (hT : agT D cy lay s) : ∀ (n : Nat), ∀ (σ : MS) (v1 : Int32) (v2 : Int32), u_X7_countDaysOff_4 post n σ v1 v2 → ∀ (H : Heap) (locs : List Loc) (ls : Array Slot), agG D cy lay σ (agA lay s.heap.size) s.heap H locs → lv_has ls 3 [(0, .ref (lay 0)), (1, .int v1), (2, .int v2)] → W p l e rm_X7_countDaysOff s m args below meth c H locs 0 0 (MQ below (va_Qi post (agO D cy lay) (agA lay s.heap.size)) args s 0 0 (agA lay s.heap.size)) (F0 m 4 ls []) := by
  intro n
  induction n with
  | zero =>
    intro σ v1 v2 h
    exact h.elim
  | succ n ih =>
    intro σ v1 v2 h H locs ls G hl
    rw [u_X7_countDaysOff_4] at h
    refine lv_iload_n hC.1 hC.2.1 dX7_countDaysOff_4 rfl (lv_at hl 2 rfl) ?_
    refine lv_sipush (v := 365) hC.1 hC.2.1 dX7_countDaysOff_5 (by decide) ?_
    refine lv_icmp_gt (tgt := 29) hC.1 hC.2.1 dX7_countDaysOff_8 (by decide) (fun c1 => ?_) (fun c1 => ?_)
    · replace h := h.1 c1
      refine lv_iload_n hC.1 hC.2.1 dX7_countDaysOff_29 rfl (lv_at hl 1 rfl) ?_
      exact ag_iret hC hr hlocks G h dX7_countDaysOff_30
    · replace h := h.2 c1
      refine lv_iload_n hC.1 hC.2.1 dX7_countDaysOff_11 rfl (lv_at hl 1 rfl) ?_
      refine lv_aload_n hC.1 hC.2.1 dX7_countDaysOff_12 rfl (lv_at hl 0 rfl) ?_
      refine ag_get hC hT G (by decide) e_ag k_X7 i_X7_countDaysOff_X7 5 (by decide) (wm 1 rfl) rfl dX7_countDaysOff_13 ?_
      refine lv_iload_n hC.1 hC.2.1 dX7_countDaysOff_16 rfl (lv_at hl 2 rfl) ?_
      obtain ⟨hn2, h⟩ := h
      refine ag_iald hC hT G (by decide) e_off hn2 dX7_countDaysOff_17 ?_
      refine ag_i G (ag_runS (As := [.int (σ 6 (Int32.toNatClampNeg v2))]) (rest := [.int v1]) hC hT G (c_J6_bitCount_0f7a4 l D cy lay h _) (va_cwS 1 hC.2.2.2.2 gX7_countDaysOff_J6_bitCount_0f7a4 rfl rfl rfl hdS_J6_bitCount_0f7a4 ⟨Nat.le_of_ble_eq_true rfl, Nat.le_of_ble_eq_true rfl⟩) rfl hl.1 rfl (Nat.le_of_ble_eq_true rfl) dX7_countDaysOff_18 ⟨Nat.le_of_ble_eq_true rfl, Nat.le_of_ble_eq_true rfl⟩) (fun r4 σ3 H locs h G => ?_)
      (try dsimp only at h)
      refine lv_iadd hC.1 hC.2.1 dX7_countDaysOff_21 ?_
      refine lv_istore_n (lv' := [(1, .int (v1 + r4)), (0, .ref (lay 0)), (2, .int v2)]) hC.1 hC.2.1 dX7_countDaysOff_22 rfl hl (by decide) rfl (fun ls hl => ?_)
      refine lv_iinc (v := v2 + 1) (lv' := [(2, .int (v2 + 1)), (1, .int (v1 + r4)), (0, .ref (lay 0))]) hC.1 hC.2.1 dX7_countDaysOff_23 hl (k := 2) rfl rfl (by decide) rfl (fun ls hl => ?_)
      refine lv_goto (tgt := 4) hC.1 hC.2.1 dX7_countDaysOff_26 (by decide) ?_
      exact ih _ _ _ h _ _ _ G (lv_sub hl [2, 1, 0] rfl)
def w_X7_countDaysOff (post : Int32 → MS → Prop) (σ : MS) : Prop := (∃ k, u_X7_countDaysOff_4 post k σ 0 0)
set_option maxHeartbeats 4000000 in
set_option maxRecDepth 100000 in
theorem c_X7_countDaysOff (l : Launch) (D : va_G) (cy : Nat → ClassId) (lay : Nat → Nat) {σ : MS} {post : Int32 → MS → Prop} (h : w_X7_countDaysOff post σ) (sz : Nat) : Met l yX7_countDaysOff wsX7_countDaysOff rm_X7_countDaysOff (va_Pc [.ref (lay 0)] (agI D cy lay σ sz)) (va_Qi post (agO D cy lay) (agA lay sz)) 0 0 (agA lay sz) := by
  refine ag_ofW (cc := cX7_countDaysOff) (maxL := 3) (ret := some .int) (own := RX7) (Qc := fun sz => va_Qi post (agO D cy lay) (agA lay sz)) (by decide) rfl (Nat.le_of_ble_eq_true rfl) rfl ?_
  intro p e s m args below meth c ls hC hr hlocks hT G hl
  unfold w_X7_countDaysOff at h
  have hl : lv_has ls 3 [(0, .ref (lay 0))] := hl
  refine lv_iconst (v := 0) hC.1 hC.2.1 dX7_countDaysOff_0 (by decide) ?_
  refine lv_istore_n (lv' := [(1, .int 0), (0, .ref (lay 0))]) hC.1 hC.2.1 dX7_countDaysOff_1 rfl hl (by decide) rfl (fun ls hl => ?_)
  refine lv_iconst (v := 0) hC.1 hC.2.1 dX7_countDaysOff_2 (by decide) ?_
  refine lv_istore_n (lv' := [(2, .int 0), (1, .int 0), (0, .ref (lay 0))]) hC.1 hC.2.1 dX7_countDaysOff_3 rfl hl (by decide) rfl (fun ls hl => ?_)
  obtain ⟨n1, h⟩ := h
  exact l_X7_countDaysOff_4 hC hr hlocks hT n1 _ _ _ h _ _ _ G (lv_sub hl [2, 1, 0] rfl)
theorem hdV_X7_countDaysOff : yX7_countDaysOff.cls = RX7 ∧ yX7_countDaysOff.cls ≠ "java/lang/invoke/MethodHandle" ∧ yX7_countDaysOff.cls ≠ "java/lang/invoke/VarHandle" ∧ (parseMethodDescriptor yX7_countDaysOff.desc).map (fun d => d.parameters.length) = some 0 := by decide +kernel
abbrev rm_X7_allEarned : Room := { frames := 0, cells := 0, slots := 0, locals := 0 }
theorem i_X7_allEarned_X7 : ∀ w ∈ wsX70, w ∈ wsX7_allEarned := fun _ h => List.mem_cons_of_mem _ (List.mem_append_left _ (List.mem_append_right _ h))
theorem i_X7_allEarned_X3 : ∀ w ∈ wsX30, w ∈ wsX7_allEarned := fun _ h => List.mem_cons_of_mem _ (List.mem_append_right _ h)
def u_X7_allEarned_4 (post : Int32 → MS → Prop) : Nat → MS → Int32 → Int32 → Prop
  | 0, _, _, _ => False
  | n + 1, σ, v1, v2 => (((σ 0 6) ≤ v2 → post v1 σ) ∧ (¬ (σ 0 6) ≤ v2 → (vp_in v2 10 ∧ u_X7_allEarned_4 post n σ (v1 + (σ (29 + (Int32.toNatClampNeg v2)) 5)) (v2 + 1))))
set_option maxHeartbeats 4000000 in
set_option maxRecDepth 100000 in
theorem l_X7_allEarned_4 {p : Program} {l : Launch} {e : Env} {s : State} {m : MethodId} {args : Array Value} {below : List Frame} {meth : Method} {c : Code} {D : va_G} {cy : Nat → ClassId} {lay : Nat → Nat} {post : Int32 → MS → Prop} (hC : CallFix p m c cX7_allEarned 3 s args wsX7_allEarned RX7) (hr : meth.sig.returnType = some .int) (hlocks : meth.locks = false) (hT : agT D cy lay s) : ∀ (n : Nat), ∀ (σ : MS) (v1 : Int32) (v2 : Int32), u_X7_allEarned_4 post n σ v1 v2 → ∀ (H : Heap) (locs : List Loc) (ls : Array Slot), agG D cy lay σ (agA lay s.heap.size) s.heap H locs → lv_has ls 3 [(0, .ref (lay 0)), (1, .int v1), (2, .int v2)] → W p l e rm_X7_allEarned s m args below meth c H locs 0 0 (MQ below (va_Qi post (agO D cy lay) (agA lay s.heap.size)) args s 0 0 (agA lay s.heap.size)) (F0 m 4 ls []) := by
  intro n
  induction n with
  | zero =>
    intro σ v1 v2 h
    exact h.elim
  | succ n ih =>
    intro σ v1 v2 h H locs ls G hl
    rw [u_X7_allEarned_4] at h
    refine lv_iload_n hC.1 hC.2.1 dX7_allEarned_4 rfl (lv_at hl 2 rfl) ?_
    refine lv_aload_n hC.1 hC.2.1 dX7_allEarned_5 rfl (lv_at hl 0 rfl) ?_
    refine ag_get hC hT G (by decide) e_ag k_X7 i_X7_allEarned_X7 6 (by decide) (wm 1 rfl) rfl dX7_allEarned_6 ?_
    refine lv_icmp_ge (tgt := 30) hC.1 hC.2.1 dX7_allEarned_9 (by decide) (fun c1 => ?_) (fun c1 => ?_)
    · replace h := h.1 c1
      refine lv_iload_n hC.1 hC.2.1 dX7_allEarned_30 rfl (lv_at hl 1 rfl) ?_
      exact ag_iret hC hr hlocks G h dX7_allEarned_31
    · replace h := h.2 c1
      refine lv_iload_n hC.1 hC.2.1 dX7_allEarned_12 rfl (lv_at hl 1 rfl) ?_
      refine lv_aload_n hC.1 hC.2.1 dX7_allEarned_13 rfl (lv_at hl 0 rfl) ?_
      refine ag_get hC hT G (by decide) e_ag k_X7 i_X7_allEarned_X7 0 (by decide) (wm 2 rfl) rfl dX7_allEarned_14 ?_
      refine lv_iload_n hC.1 hC.2.1 dX7_allEarned_17 rfl (lv_at hl 2 rfl) ?_
      obtain ⟨hn2, h⟩ := h
      refine ag_aald hC hT G (by decide) _ rfl e_pls hn2 dX7_allEarned_18 ?_
      refine ag_get hC hT G (k_pl (vlt hn2)) (e_pl (vlt hn2)) k_X3 i_X7_allEarned_X3 5 (by decide) (wm 3 rfl) rfl dX7_allEarned_19 ?_
      refine lv_iadd hC.1 hC.2.1 dX7_allEarned_22 ?_
      refine lv_istore_n (lv' := [(1, .int (v1 + (σ (29 + (Int32.toNatClampNeg v2)) 5))), (0, .ref (lay 0)), (2, .int v2)]) hC.1 hC.2.1 dX7_allEarned_23 rfl hl (by decide) rfl (fun ls hl => ?_)
      refine lv_iinc (v := v2 + 1) (lv' := [(2, .int (v2 + 1)), (1, .int (v1 + (σ (29 + (Int32.toNatClampNeg v2)) 5))), (0, .ref (lay 0))]) hC.1 hC.2.1 dX7_allEarned_24 hl (k := 2) rfl rfl (by decide) rfl (fun ls hl => ?_)
      refine lv_goto (tgt := 4) hC.1 hC.2.1 dX7_allEarned_27 (by decide) ?_
      exact ih _ _ _ h _ _ _ G (lv_sub hl [2, 1, 0] rfl)
def w_X7_allEarned (post : Int32 → MS → Prop) (σ : MS) : Prop := (∃ k, u_X7_allEarned_4 post k σ 0 0)
set_option maxHeartbeats 4000000 in
set_option maxRecDepth 100000 in
theorem c_X7_allEarned (l : Launch) (D : va_G) (cy : Nat → ClassId) (lay : Nat → Nat) {σ : MS} {post : Int32 → MS → Prop} (h : w_X7_allEarned post σ) (sz : Nat) : Met l yX7_allEarned wsX7_allEarned rm_X7_allEarned (va_Pc [.ref (lay 0)] (agI D cy lay σ sz)) (va_Qi post (agO D cy lay) (agA lay sz)) 0 0 (agA lay sz) := by
  refine ag_ofW (cc := cX7_allEarned) (maxL := 3) (ret := some .int) (own := RX7) (Qc := fun sz => va_Qi post (agO D cy lay) (agA lay sz)) (by decide) rfl (Nat.le_of_ble_eq_true rfl) rfl ?_
  intro p e s m args below meth c ls hC hr hlocks hT G hl
  unfold w_X7_allEarned at h
  have hl : lv_has ls 3 [(0, .ref (lay 0))] := hl
  refine lv_iconst (v := 0) hC.1 hC.2.1 dX7_allEarned_0 (by decide) ?_
  refine lv_istore_n (lv' := [(1, .int 0), (0, .ref (lay 0))]) hC.1 hC.2.1 dX7_allEarned_1 rfl hl (by decide) rfl (fun ls hl => ?_)
  refine lv_iconst (v := 0) hC.1 hC.2.1 dX7_allEarned_2 (by decide) ?_
  refine lv_istore_n (lv' := [(2, .int 0), (1, .int 0), (0, .ref (lay 0))]) hC.1 hC.2.1 dX7_allEarned_3 rfl hl (by decide) rfl (fun ls hl => ?_)
  obtain ⟨n1, h⟩ := h
  exact l_X7_allEarned_4 hC hr hlocks hT n1 _ _ _ h _ _ _ G (lv_sub hl [2, 1, 0] rfl)
theorem hdV_X7_allEarned : yX7_allEarned.cls = RX7 ∧ yX7_allEarned.cls ≠ "java/lang/invoke/MethodHandle" ∧ yX7_allEarned.cls ≠ "java/lang/invoke/VarHandle" ∧ (parseMethodDescriptor yX7_allEarned.desc).map (fun d => d.parameters.length) = some 0 := by decide +kernel
abbrev rm_X7_gapOfHours : Room := { frames := 1, cells := 0, slots := 0, locals := 13 }
theorem i_X7_gapOfHours_X7 : ∀ w ∈ wsX70, w ∈ wsX7_gapOfHours := fun _ h => List.mem_cons_of_mem _ (List.mem_append_left _ (List.mem_append_right _ h))
theorem i_X7_gapOfHours_X3 : ∀ w ∈ wsX30, w ∈ wsX7_gapOfHours := fun _ h => List.mem_cons_of_mem _ (List.mem_append_right _ h)
def u_X7_gapOfHours_25 (post : Int32 → MS → Prop) : Nat → MS → Int32 → Int32 → Int32 → Prop
  | 0, _, _, _, _ => False
  | n + 1, σ, v1, v2, v3 => (((σ 0 6) ≤ v3 → post (v1 - v2) σ) ∧ (¬ (σ 0 6) ≤ v3 → (vp_in v3 10 ∧ (vp_in v3 10 ∧ u_X7_gapOfHours_25 post n σ (if v1 < (σ (29 + (Int32.toNatClampNeg v3)) 7) then (σ (29 + (Int32.toNatClampNeg v3)) 7) else v1) (if (σ (29 + (Int32.toNatClampNeg v3)) 7) < v2 then (σ (29 + (Int32.toNatClampNeg v3)) 7) else v2) (v3 + 1)))))
set_option maxHeartbeats 4000000 in
set_option maxRecDepth 100000 in
theorem l_X7_gapOfHours_25 {p : Program} {l : Launch} {e : Env} {s : State} {m : MethodId} {args : Array Value} {below : List Frame} {meth : Method} {c : Code} {D : va_G} {cy : Nat → ClassId} {lay : Nat → Nat} {post : Int32 → MS → Prop} (hC : CallFix p m c cX7_gapOfHours 4 s args wsX7_gapOfHours RX7) (hr : meth.sig.returnType = some .int) (hlocks : meth.locks = false) (hT : agT D cy lay s) : ∀ (n : Nat), ∀ (σ : MS) (v1 : Int32) (v2 : Int32) (v3 : Int32), u_X7_gapOfHours_25 post n σ v1 v2 v3 → ∀ (H : Heap) (locs : List Loc) (ls : Array Slot), agG D cy lay σ (agA lay s.heap.size) s.heap H locs → lv_has ls 4 [(0, .ref (lay 0)), (1, .int v1), (2, .int v2), (3, .int v3)] → W p l e rm_X7_gapOfHours s m args below meth c H locs 0 0 (MQ below (va_Qi post (agO D cy lay) (agA lay s.heap.size)) args s 0 0 (agA lay s.heap.size)) (F0 m 25 ls []) := by
  intro n
  induction n with
  | zero =>
    intro σ v1 v2 v3 h
    exact h.elim
  | succ n ih =>
    intro σ v1 v2 v3 h H locs ls G hl
    rw [u_X7_gapOfHours_25] at h
    refine lv_iload_n hC.1 hC.2.1 dX7_gapOfHours_25 rfl (lv_at hl 3 rfl) ?_
    refine lv_aload_n hC.1 hC.2.1 dX7_gapOfHours_26 rfl (lv_at hl 0 rfl) ?_
    refine ag_get hC hT G (by decide) e_ag k_X7 i_X7_gapOfHours_X7 6 (by decide) (wm 1 rfl) rfl dX7_gapOfHours_27 ?_
    refine lv_icmp_ge (tgt := 67) hC.1 hC.2.1 dX7_gapOfHours_30 (by decide) (fun c3 => ?_) (fun c3 => ?_)
    · replace h := h.1 c3
      refine lv_iload_n hC.1 hC.2.1 dX7_gapOfHours_67 rfl (lv_at hl 1 rfl) ?_
      refine lv_iload_n hC.1 hC.2.1 dX7_gapOfHours_68 rfl (lv_at hl 2 rfl) ?_
      refine lv_isub hC.1 hC.2.1 dX7_gapOfHours_69 ?_
      exact ag_iret hC hr hlocks G h dX7_gapOfHours_70
    · replace h := h.2 c3
      refine lv_iload_n hC.1 hC.2.1 dX7_gapOfHours_33 rfl (lv_at hl 1 rfl) ?_
      refine lv_aload_n hC.1 hC.2.1 dX7_gapOfHours_34 rfl (lv_at hl 0 rfl) ?_
      refine ag_get hC hT G (by decide) e_ag k_X7 i_X7_gapOfHours_X7 0 (by decide) (wm 2 rfl) rfl dX7_gapOfHours_35 ?_
      refine lv_iload_n hC.1 hC.2.1 dX7_gapOfHours_38 rfl (lv_at hl 3 rfl) ?_
      obtain ⟨hn4, h⟩ := h
      refine ag_aald hC hT G (by decide) _ rfl e_pls hn4 dX7_gapOfHours_39 ?_
      refine ag_get hC hT G (k_pl (vlt hn4)) (e_pl (vlt hn4)) k_X3 i_X7_gapOfHours_X3 7 (by decide) (wm 3 rfl) rfl dX7_gapOfHours_40 ?_
      refine va_mmax hC.1 hC.2.1 (hC.2.2.1.trans hl.1.symm) hC.2.2.2.1 (hC.2.2.2.2 _ (wm 4 rfl)) (hC.2.2.2.2 _ (wm 5 rfl)) (hC.2.2.2.2 _ (wm 6 rfl)) (hC.2.2.2.2 _ (wm 7 rfl)) (Nat.le_of_ble_eq_true rfl) (Nat.le_of_ble_eq_true rfl) (Nat.le_of_ble_eq_true rfl) (Nat.le_of_ble_eq_true rfl) dX7_gapOfHours_43 ?_
      refine lv_istore_n (lv' := [(1, .int (if v1 < (σ (29 + (Int32.toNatClampNeg v3)) 7) then (σ (29 + (Int32.toNatClampNeg v3)) 7) else v1)), (0, .ref (lay 0)), (2, .int v2), (3, .int v3)]) hC.1 hC.2.1 dX7_gapOfHours_46 rfl hl (by decide) rfl (fun ls hl => ?_)
      refine lv_iload_n hC.1 hC.2.1 dX7_gapOfHours_47 rfl (lv_at hl 2 rfl) ?_
      refine lv_aload_n hC.1 hC.2.1 dX7_gapOfHours_48 rfl (lv_at hl 1 rfl) ?_
      refine ag_get hC hT G (by decide) e_ag k_X7 i_X7_gapOfHours_X7 0 (by decide) (wm 2 rfl) rfl dX7_gapOfHours_49 ?_
      refine lv_iload_n hC.1 hC.2.1 dX7_gapOfHours_52 rfl (lv_at hl 3 rfl) ?_
      obtain ⟨hn5, h⟩ := h
      refine ag_aald hC hT G (by decide) _ rfl e_pls hn5 dX7_gapOfHours_53 ?_
      refine ag_get hC hT G (k_pl (vlt hn5)) (e_pl (vlt hn5)) k_X3 i_X7_gapOfHours_X3 7 (by decide) (wm 3 rfl) rfl dX7_gapOfHours_54 ?_
      refine va_mmin hC.1 hC.2.1 (hC.2.2.1.trans hl.1.symm) hC.2.2.2.1 (hC.2.2.2.2 _ (wm 8 rfl)) (hC.2.2.2.2 _ (wm 9 rfl)) (hC.2.2.2.2 _ (wm 6 rfl)) (hC.2.2.2.2 _ (wm 10 rfl)) (Nat.le_of_ble_eq_true rfl) (Nat.le_of_ble_eq_true rfl) (Nat.le_of_ble_eq_true rfl) (Nat.le_of_ble_eq_true rfl) dX7_gapOfHours_57 ?_
      refine lv_istore_n (lv' := [(2, .int (if (σ (29 + (Int32.toNatClampNeg v3)) 7) < v2 then (σ (29 + (Int32.toNatClampNeg v3)) 7) else v2)), (1, .int (if v1 < (σ (29 + (Int32.toNatClampNeg v3)) 7) then (σ (29 + (Int32.toNatClampNeg v3)) 7) else v1)), (0, .ref (lay 0)), (3, .int v3)]) hC.1 hC.2.1 dX7_gapOfHours_60 rfl hl (by decide) rfl (fun ls hl => ?_)
      refine lv_iinc (v := v3 + 1) (lv' := [(3, .int (v3 + 1)), (2, .int (if (σ (29 + (Int32.toNatClampNeg v3)) 7) < v2 then (σ (29 + (Int32.toNatClampNeg v3)) 7) else v2)), (1, .int (if v1 < (σ (29 + (Int32.toNatClampNeg v3)) 7) then (σ (29 + (Int32.toNatClampNeg v3)) 7) else v1)), (0, .ref (lay 0))]) hC.1 hC.2.1 dX7_gapOfHours_61 hl (k := 3) rfl rfl (by decide) rfl (fun ls hl => ?_)
      refine lv_goto (tgt := 25) hC.1 hC.2.1 dX7_gapOfHours_64 (by decide) ?_
      exact ih _ _ _ _ h _ _ _ G (lv_sub hl [3, 2, 1, 0] rfl)
def w_X7_gapOfHours (post : Int32 → MS → Prop) (σ : MS) : Prop := (((σ 0 6) = 0 → (∃ k, u_X7_gapOfHours_25 post k σ 0 0 0)) ∧ (¬ (σ 0 6) = 0 → (vp_in 0 10 ∧ (∃ k, u_X7_gapOfHours_25 post k σ 0 (σ (29 + (Int32.toNatClampNeg 0)) 7) 0))))
set_option maxHeartbeats 4000000 in
set_option maxRecDepth 100000 in
theorem c_X7_gapOfHours (l : Launch) (D : va_G) (cy : Nat → ClassId) (lay : Nat → Nat) {σ : MS} {post : Int32 → MS → Prop} (h : w_X7_gapOfHours post σ) (sz : Nat) : Met l yX7_gapOfHours wsX7_gapOfHours rm_X7_gapOfHours (va_Pc [.ref (lay 0)] (agI D cy lay σ sz)) (va_Qi post (agO D cy lay) (agA lay sz)) 0 0 (agA lay sz) := by
  refine ag_ofW (cc := cX7_gapOfHours) (maxL := 4) (ret := some .int) (own := RX7) (Qc := fun sz => va_Qi post (agO D cy lay) (agA lay sz)) (by decide) rfl (Nat.le_of_ble_eq_true rfl) rfl ?_
  intro p e s m args below meth c ls hC hr hlocks hT G hl
  unfold w_X7_gapOfHours at h
  have hl : lv_has ls 4 [(0, .ref (lay 0))] := hl
  refine lv_iconst (v := 0) hC.1 hC.2.1 dX7_gapOfHours_0 (by decide) ?_
  refine lv_istore_n (lv' := [(1, .int 0), (0, .ref (lay 0))]) hC.1 hC.2.1 dX7_gapOfHours_1 rfl hl (by decide) rfl (fun ls hl => ?_)
  refine lv_aload_n hC.1 hC.2.1 dX7_gapOfHours_2 rfl (lv_at hl 1 rfl) ?_
  refine ag_get hC hT G (by decide) e_ag k_X7 i_X7_gapOfHours_X7 6 (by decide) (wm 1 rfl) rfl dX7_gapOfHours_3 ?_
  refine lv_if_ne (tgt := 13) hC.1 hC.2.1 dX7_gapOfHours_6 (by decide) (fun c1 => ?_) (fun c1 => ?_)
  · replace h := h.2 c1
    refine lv_aload_n hC.1 hC.2.1 dX7_gapOfHours_13 rfl (lv_at hl 1 rfl) ?_
    refine ag_get hC hT G (by decide) e_ag k_X7 i_X7_gapOfHours_X7 0 (by decide) (wm 2 rfl) rfl dX7_gapOfHours_14 ?_
    refine lv_iconst (v := 0) hC.1 hC.2.1 dX7_gapOfHours_17 (by decide) ?_
    obtain ⟨hn2, h⟩ := h
    refine ag_aald hC hT G (by decide) _ rfl e_pls hn2 dX7_gapOfHours_18 ?_
    refine ag_get hC hT G (k_pl (vlt hn2)) (e_pl (vlt hn2)) k_X3 i_X7_gapOfHours_X3 7 (by decide) (wm 3 rfl) rfl dX7_gapOfHours_19 ?_
    refine lv_istore_n (lv' := [(2, .int (σ (29 + (Int32.toNatClampNeg 0)) 7)), (1, .int 0), (0, .ref (lay 0))]) hC.1 hC.2.1 dX7_gapOfHours_22 rfl hl (by decide) rfl (fun ls hl => ?_)
    refine lv_iconst (v := 0) hC.1 hC.2.1 dX7_gapOfHours_23 (by decide) ?_
    refine lv_istore_n (lv' := [(3, .int 0), (2, .int (σ (29 + (Int32.toNatClampNeg 0)) 7)), (1, .int 0), (0, .ref (lay 0))]) hC.1 hC.2.1 dX7_gapOfHours_24 rfl hl (by decide) rfl (fun ls hl => ?_)
    obtain ⟨n1, h⟩ := h
    exact l_X7_gapOfHours_25 hC hr hlocks hT n1 _ _ _ _ h _ _ _ G (lv_sub hl [3, 2, 1, 0] rfl)
  · replace h := h.1 c1
    refine lv_iconst (v := 0) hC.1 hC.2.1 dX7_gapOfHours_9 (by decide) ?_
    refine lv_goto (tgt := 22) hC.1 hC.2.1 dX7_gapOfHours_10 (by decide) ?_
    refine lv_istore_n (lv' := [(2, .int 0), (1, .int 0), (0, .ref (lay 0))]) hC.1 hC.2.1 dX7_gapOfHours_22 rfl hl (by decide) rfl (fun ls hl => ?_)
    refine lv_iconst (v := 0) hC.1 hC.2.1 dX7_gapOfHours_23 (by decide) ?_
    refine lv_istore_n (lv' := [(3, .int 0), (2, .int 0), (1, .int 0), (0, .ref (lay 0))]) hC.1 hC.2.1 dX7_gapOfHours_24 rfl hl (by decide) rfl (fun ls hl => ?_)
    obtain ⟨n1, h⟩ := h
    exact l_X7_gapOfHours_25 hC hr hlocks hT n1 _ _ _ _ h _ _ _ G (lv_sub hl [3, 2, 1, 0] rfl)
theorem hdV_X7_gapOfHours : yX7_gapOfHours.cls = RX7 ∧ yX7_gapOfHours.cls ≠ "java/lang/invoke/MethodHandle" ∧ yX7_gapOfHours.cls ≠ "java/lang/invoke/VarHandle" ∧ (parseMethodDescriptor yX7_gapOfHours.desc).map (fun d => d.parameters.length) = some 0 := by decide +kernel
abbrev rm_X7_shareOf : Room := { frames := 0, cells := 0, slots := 0, locals := 0 }
theorem i_X7_shareOf_X5 : ∀ w ∈ wsX50, w ∈ wsX7_shareOf := fun _ h => List.mem_cons_of_mem _ (List.mem_append_right _ h)
theorem i_X7_shareOf_X7 : ∀ w ∈ wsX70, w ∈ wsX7_shareOf := fun _ h => List.mem_cons_of_mem _ (List.mem_append_left _ (List.mem_append_right _ h))
def u_X7_shareOf_4 (post : Int32 → MS → Prop) (i1 : Nat) : Nat → MS → Int32 → Int32 → Prop
  | 0, _, _, _ => False
  | n + 1, σ, v2, v3 => ((16 ≤ v3 → ((v2 = 0 → post 0 σ) ∧ (¬ v2 = 0 → (¬ v2 = 0 ∧ post ((((σ (39 + i1) 2) * (σ (39 + i1) 3)) * 1000) / v2) σ)))) ∧ (¬ 16 ≤ v3 → (vp_in v3 16 ∧ (vp_in v3 16 ∧ u_X7_shareOf_4 post i1 n σ (v2 + ((σ (39 + (Int32.toNatClampNeg v3)) 2) * (σ (39 + (Int32.toNatClampNeg v3)) 3))) (v3 + 1)))))
set_option maxHeartbeats 4000000 in
set_option maxRecDepth 100000 in
theorem l_X7_shareOf_4 {p : Program} {l : Launch} {e : Env} {s : State} {m : MethodId} {args : Array Value} {below : List Frame} {meth : Method} {c : Code} {D : va_G} {cy : Nat → ClassId} {lay : Nat → Nat} {post : Int32 → MS → Prop} (i1 : Nat) (hC : CallFix p m c cX7_shareOf 4 s args wsX7_shareOf RX7) (hr : meth.sig.returnType = some .int) (hlocks : meth.locks = false) (hT : agT D cy lay s) (hi1 : i1 < 16) : ∀ (n : Nat), ∀ (σ : MS) (v2 : Int32) (v3 : Int32), u_X7_shareOf_4 post i1 n σ v2 v3 → ∀ (H : Heap) (locs : List Loc) (ls : Array Slot), agG D cy lay σ (agA lay s.heap.size) s.heap H locs → lv_has ls 4 [(0, .ref (lay 0)), (1, .ref (lay (39 + i1))), (2, .int v2), (3, .int v3)] → W p l e rm_X7_shareOf s m args below meth c H locs 0 0 (MQ below (va_Qi post (agO D cy lay) (agA lay s.heap.size)) args s 0 0 (agA lay s.heap.size)) (F0 m 4 ls []) := by
  intro n
  induction n with
  | zero =>
    intro σ v2 v3 h
    exact h.elim
  | succ n ih =>
    intro σ v2 v3 h H locs ls G hl
    rw [u_X7_shareOf_4] at h
    refine lv_iload_n hC.1 hC.2.1 dX7_shareOf_4 rfl (lv_at hl 3 rfl) ?_
    refine lv_bipush (v := 16) hC.1 hC.2.1 dX7_shareOf_5 (by decide) ?_
    refine lv_icmp_ge (tgt := 38) hC.1 hC.2.1 dX7_shareOf_7 (by decide) (fun c1 => ?_) (fun c1 => ?_)
    · replace h := h.1 c1
      refine lv_iload_n hC.1 hC.2.1 dX7_shareOf_38 rfl (lv_at hl 2 rfl) ?_
      refine lv_if_ne (tgt := 46) hC.1 hC.2.1 dX7_shareOf_39 (by decide) (fun c2 => ?_) (fun c2 => ?_)
      · replace h := h.2 c2
        refine lv_aload_n hC.1 hC.2.1 dX7_shareOf_46 rfl (lv_at hl 1 rfl) ?_
        refine ag_get hC hT G (k_sg hi1) (e_sg hi1) k_X5 i_X7_shareOf_X5 2 (by decide) (wm 2 rfl) rfl dX7_shareOf_47 ?_
        refine lv_aload_n hC.1 hC.2.1 dX7_shareOf_50 rfl (lv_at hl 1 rfl) ?_
        refine ag_get hC hT G (k_sg hi1) (e_sg hi1) k_X5 i_X7_shareOf_X5 3 (by decide) (wm 3 rfl) rfl dX7_shareOf_51 ?_
        refine lv_imul hC.1 hC.2.1 dX7_shareOf_54 ?_
        refine lv_sipush (v := 1000) hC.1 hC.2.1 dX7_shareOf_55 (by decide) ?_
        refine lv_imul hC.1 hC.2.1 dX7_shareOf_58 ?_
        refine lv_iload_n hC.1 hC.2.1 dX7_shareOf_59 rfl (lv_at hl 2 rfl) ?_
        obtain ⟨hz3, h⟩ := h
        refine lv_idiv hC.1 hC.2.1 dX7_shareOf_60 hz3 ?_
        exact ag_iret hC hr hlocks G h dX7_shareOf_61
      · replace h := h.1 c2
        refine lv_iconst (v := 0) hC.1 hC.2.1 dX7_shareOf_42 (by decide) ?_
        refine lv_goto (tgt := 61) hC.1 hC.2.1 dX7_shareOf_43 (by decide) ?_
        exact ag_iret hC hr hlocks G h dX7_shareOf_61
    · replace h := h.2 c1
      refine lv_iload_n hC.1 hC.2.1 dX7_shareOf_10 rfl (lv_at hl 2 rfl) ?_
      refine lv_aload_n hC.1 hC.2.1 dX7_shareOf_11 rfl (lv_at hl 0 rfl) ?_
      refine ag_get hC hT G (by decide) e_ag k_X7 i_X7_shareOf_X7 1 (by decide) (wm 1 rfl) rfl dX7_shareOf_12 ?_
      refine lv_iload_n hC.1 hC.2.1 dX7_shareOf_15 rfl (lv_at hl 3 rfl) ?_
      obtain ⟨hn4, h⟩ := h
      refine ag_aald hC hT G (by decide) _ rfl e_sgs hn4 dX7_shareOf_16 ?_
      refine ag_get hC hT G (k_sg (vlt hn4)) (e_sg (vlt hn4)) k_X5 i_X7_shareOf_X5 2 (by decide) (wm 2 rfl) rfl dX7_shareOf_17 ?_
      refine lv_aload_n hC.1 hC.2.1 dX7_shareOf_20 rfl (lv_at hl 0 rfl) ?_
      refine ag_get hC hT G (by decide) e_ag k_X7 i_X7_shareOf_X7 1 (by decide) (wm 1 rfl) rfl dX7_shareOf_21 ?_
      refine lv_iload_n hC.1 hC.2.1 dX7_shareOf_24 rfl (lv_at hl 3 rfl) ?_
      obtain ⟨hn5, h⟩ := h
      refine ag_aald hC hT G (by decide) _ rfl e_sgs hn5 dX7_shareOf_25 ?_
      refine ag_get hC hT G (k_sg (vlt hn5)) (e_sg (vlt hn5)) k_X5 i_X7_shareOf_X5 3 (by decide) (wm 3 rfl) rfl dX7_shareOf_26 ?_
      refine lv_imul hC.1 hC.2.1 dX7_shareOf_29 ?_
      refine lv_iadd hC.1 hC.2.1 dX7_shareOf_30 ?_
      refine lv_istore_n (lv' := [(2, .int (v2 + ((σ (39 + (Int32.toNatClampNeg v3)) 2) * (σ (39 + (Int32.toNatClampNeg v3)) 3)))), (0, .ref (lay 0)), (1, .ref (lay (39 + i1))), (3, .int v3)]) hC.1 hC.2.1 dX7_shareOf_31 rfl hl (by decide) rfl (fun ls hl => ?_)
      refine lv_iinc (v := v3 + 1) (lv' := [(3, .int (v3 + 1)), (2, .int (v2 + ((σ (39 + (Int32.toNatClampNeg v3)) 2) * (σ (39 + (Int32.toNatClampNeg v3)) 3)))), (0, .ref (lay 0)), (1, .ref (lay (39 + i1)))]) hC.1 hC.2.1 dX7_shareOf_32 hl (k := 3) rfl rfl (by decide) rfl (fun ls hl => ?_)
      refine lv_goto (tgt := 4) hC.1 hC.2.1 dX7_shareOf_35 (by decide) ?_
      exact ih _ _ _ h _ _ _ G (lv_sub hl [2, 3, 1, 0] rfl)
def w_X7_shareOf (post : Int32 → MS → Prop) (σ : MS) (i1 : Nat) : Prop := (∃ k, u_X7_shareOf_4 post i1 k σ 0 0)
set_option maxHeartbeats 4000000 in
set_option maxRecDepth 100000 in
theorem c_X7_shareOf (l : Launch) (D : va_G) (cy : Nat → ClassId) (lay : Nat → Nat) {σ : MS} {post : Int32 → MS → Prop} {i1 : Nat} (h : w_X7_shareOf post σ i1) (hi1 : i1 < 16) (sz : Nat) : Met l yX7_shareOf wsX7_shareOf rm_X7_shareOf (va_Pc [.ref (lay 0), .ref (lay (39 + i1))] (agI D cy lay σ sz)) (va_Qi post (agO D cy lay) (agA lay sz)) 0 0 (agA lay sz) := by
  refine ag_ofW (cc := cX7_shareOf) (maxL := 4) (ret := some .int) (own := RX7) (Qc := fun sz => va_Qi post (agO D cy lay) (agA lay sz)) (by decide) rfl (Nat.le_of_ble_eq_true rfl) rfl ?_
  intro p e s m args below meth c ls hC hr hlocks hT G hl
  unfold w_X7_shareOf at h
  have hl : lv_has ls 4 [(0, .ref (lay 0)), (1, .ref (lay (39 + i1)))] := hl
  refine lv_iconst (v := 0) hC.1 hC.2.1 dX7_shareOf_0 (by decide) ?_
  refine lv_istore_n (lv' := [(2, .int 0), (0, .ref (lay 0)), (1, .ref (lay (39 + i1)))]) hC.1 hC.2.1 dX7_shareOf_1 rfl hl (by decide) rfl (fun ls hl => ?_)
  refine lv_iconst (v := 0) hC.1 hC.2.1 dX7_shareOf_2 (by decide) ?_
  refine lv_istore_n (lv' := [(3, .int 0), (2, .int 0), (0, .ref (lay 0)), (1, .ref (lay (39 + i1)))]) hC.1 hC.2.1 dX7_shareOf_3 rfl hl (by decide) rfl (fun ls hl => ?_)
  obtain ⟨n1, h⟩ := h
  exact l_X7_shareOf_4 i1 hC hr hlocks hT hi1 n1 _ _ _ h _ _ _ G (lv_sub hl [2, 3, 1, 0] rfl)
theorem hdV_X7_shareOf : yX7_shareOf.cls = RX7 ∧ yX7_shareOf.cls ≠ "java/lang/invoke/MethodHandle" ∧ yX7_shareOf.cls ≠ "java/lang/invoke/VarHandle" ∧ (parseMethodDescriptor yX7_shareOf.desc).map (fun d => d.parameters.length) = some 1 := by decide +kernel
