abbrev rm_X1_follow : Room := { frames := 0, cells := 0, slots := 0, locals := 0 }
theorem i_X1_follow_X1 : ∀ w ∈ wsX10, w ∈ wsX1_follow := fun _ h => List.mem_cons_of_mem _ (List.mem_append_right _ h)
def u_X1_follow_7 (post : MS → Prop) (a1 : Int32) : Nat → MS → Int32 → Prop
  | 0, _, _ => False
  | n + 1, σ, v2 => ((v2 = (-1) → post σ) ∧ (¬ v2 = (-1) → ((16 ≤ (σ 10 1) → post σ) ∧ (¬ 16 ≤ (σ 10 1) → (vp_in v2 16 ∧ (vp_in (σ 10 1) 16 ∧ (vp_in v2 16 ∧ (∀ y6 : Int32, y6 = (up2 (up2 σ 11 (Int32.toNatClampNeg (σ 10 1)) (σ 12 (Int32.toNatClampNeg v2))) 10 1 (((up2 σ 11 (Int32.toNatClampNeg (σ 10 1)) (σ 12 (Int32.toNatClampNeg v2))) 10 1) + 1)) 14 (Int32.toNatClampNeg v2) → u_X1_follow_7 post a1 n (up2 (up2 σ 11 (Int32.toNatClampNeg (σ 10 1)) (σ 12 (Int32.toNatClampNeg v2))) 10 1 (((up2 σ 11 (Int32.toNatClampNeg (σ 10 1)) (σ 12 (Int32.toNatClampNeg v2))) 10 1) + 1)) y6))))))))
set_option maxHeartbeats 4000000 in
set_option maxRecDepth 100000 in
theorem l_X1_follow_7 {p : Program} {l : Launch} {e : Env} {s : State} {m : MethodId} {args : Array Value} {below : List Frame} {meth : Method} {c : Code} {D : va_G} {cy : Nat → ClassId} {lay : Nat → Nat} {post : MS → Prop} (a1 : Int32) (hC : CallFix p m c cX1_follow 3 s args wsX1_follow RX1) (hr : meth.sig.returnType = none) (hlocks : meth.locks = false) (hT : agT D cy lay s) : ∀ (n : Nat), ∀ (σ : MS) (v2 : Int32), u_X1_follow_7 post a1 n σ v2 → ∀ (H : Heap) (locs : List Loc) (ls : Array Slot), agG D cy lay σ (agA lay s.heap.size) s.heap H locs → lv_has ls 3 [(0, .ref (lay 10)), (1, .int a1), (2, .int v2)] → W p l e rm_X1_follow s m args below meth c H locs 0 0 (MQ below (va_Qv post (agO D cy lay) (agA lay s.heap.size)) args s 0 0 (agA lay s.heap.size)) (F0 m 7 ls []) := by
  intro n
  induction n with
  | zero =>
    intro σ v2 h
    exact h.elim
  | succ n ih =>
    intro σ v2 h H locs ls G hl
    rw [u_X1_follow_7] at h
    refine lv_iload_n hC.1 hC.2.1 dX1_follow_7 rfl (lv_at hl 2 rfl) ?_
    refine lv_iconst (v := (-1)) hC.1 hC.2.1 dX1_follow_8 (by decide) ?_
    refine lv_icmp_eq (tgt := 56) hC.1 hC.2.1 dX1_follow_9 (by decide) (fun c1 => ?_) (fun c1 => ?_)
    · replace h := h.1 c1
      exact ag_vret hC hr hlocks G h dX1_follow_56
    · replace h := h.2 c1
      refine lv_aload_n hC.1 hC.2.1 dX1_follow_12 rfl (lv_at hl 0 rfl) ?_
      refine ag_get hC hT G (by decide) e_bs k_X1 i_X1_follow_X1 1 (by decide) (wm 1 rfl) rfl dX1_follow_13 ?_
      refine lv_bipush (v := 16) hC.1 hC.2.1 dX1_follow_16 (by decide) ?_
      refine lv_icmp_ge (tgt := 56) hC.1 hC.2.1 dX1_follow_18 (by decide) (fun c2 => ?_) (fun c2 => ?_)
      · replace h := h.1 c2
        exact ag_vret hC hr hlocks G h dX1_follow_56
      · replace h := h.2 c2
        refine lv_aload_n hC.1 hC.2.1 dX1_follow_21 rfl (lv_at hl 0 rfl) ?_
        refine ag_get hC hT G (by decide) e_bs k_X1 i_X1_follow_X1 0 (by decide) (wm 2 rfl) rfl dX1_follow_22 ?_
        refine lv_aload_n hC.1 hC.2.1 dX1_follow_25 rfl (lv_at hl 0 rfl) ?_
        refine ag_get hC hT G (by decide) e_bs k_X1 i_X1_follow_X1 1 (by decide) (wm 1 rfl) rfl dX1_follow_26 ?_
        refine lv_aload_n hC.1 hC.2.1 dX1_follow_29 rfl (lv_at hl 0 rfl) ?_
        refine ag_get hC hT G (by decide) e_bs k_X1 i_X1_follow_X1 3 (by decide) (wm 3 rfl) rfl dX1_follow_30 ?_
        refine lv_iload_n hC.1 hC.2.1 dX1_follow_33 rfl (lv_at hl 2 rfl) ?_
        obtain ⟨hn3, h⟩ := h
        refine ag_iald hC hT G (by decide) e_ord hn3 dX1_follow_34 ?_
        obtain ⟨hn4, h⟩ := h
        refine ag_iast hC hT G (by decide) (fun _ => e_row) hn4 dX1_follow_35 (fun H locs G => ?_)
        refine lv_aload_n hC.1 hC.2.1 dX1_follow_36 rfl (lv_at hl 0 rfl) ?_
        refine lv_dup hC.1 hC.2.1 dX1_follow_37 rfl ?_
        refine ag_get hC hT G (by decide) e_bs k_X1 i_X1_follow_X1 1 (by decide) (wm 1 rfl) rfl dX1_follow_38 ?_
        refine lv_iconst (v := 1) hC.1 hC.2.1 dX1_follow_41 (by decide) ?_
        refine lv_iadd hC.1 hC.2.1 dX1_follow_42 ?_
        refine ag_put hC hT G (by decide) e_bs k_X1 i_X1_follow_X1 1 (by decide) (wm 1 rfl) rfl rfl (by simp) e_bs rfl dX1_follow_43 (fun H locs G => ?_)
        refine lv_aload_n hC.1 hC.2.1 dX1_follow_46 rfl (lv_at hl 0 rfl) ?_
        refine ag_get hC hT G (by decide) e_bs k_X1 i_X1_follow_X1 5 (by decide) (wm 4 rfl) rfl dX1_follow_47 ?_
        refine lv_iload_n hC.1 hC.2.1 dX1_follow_50 rfl (lv_at hl 2 rfl) ?_
        obtain ⟨hn5, h⟩ := h
        refine ag_iald hC hT G (by decide) e_nxt hn5 dX1_follow_51 ?_
        refine lv_topi (fun y6 ey6 => ?_)
        replace h := h y6 ey6
        refine lv_istore_n (lv' := [(2, .int y6), (0, .ref (lay 10)), (1, .int a1)]) hC.1 hC.2.1 dX1_follow_52 rfl hl (by decide) rfl (fun ls hl => ?_)
        refine lv_goto (tgt := 7) hC.1 hC.2.1 dX1_follow_53 (by decide) ?_
        exact ih _ _ h _ _ _ G (lv_sub hl [1, 2, 0] rfl)
def w_X1_follow (post : MS → Prop) (σ : MS) (a1 : Int32) : Prop := (∃ k, u_X1_follow_7 post a1 k (up2 σ 10 1 0) a1)
set_option maxHeartbeats 4000000 in
set_option maxRecDepth 100000 in
theorem c_X1_follow (l : Launch) (D : va_G) (cy : Nat → ClassId) (lay : Nat → Nat) {σ : MS} {post : MS → Prop} {a1 : Int32} (h : w_X1_follow post σ a1) (sz : Nat) : Met l yX1_follow wsX1_follow rm_X1_follow (va_Pc [.ref (lay 10), .int a1] (agI D cy lay σ sz)) (va_Qv post (agO D cy lay) (agA lay sz)) 0 0 (agA lay sz) := by
  refine ag_ofW (cc := cX1_follow) (maxL := 3) (ret := none) (own := RX1) (Qc := fun sz => va_Qv post (agO D cy lay) (agA lay sz)) (by decide) rfl (Nat.le_of_ble_eq_true rfl) rfl ?_
  intro p e s m args below meth c ls hC hr hlocks hT G hl
  unfold w_X1_follow at h
  have hl : lv_has ls 3 [(0, .ref (lay 10)), (1, .int a1)] := hl
  refine lv_aload_n hC.1 hC.2.1 dX1_follow_0 rfl (lv_at hl 0 rfl) ?_
  refine lv_iconst (v := 0) hC.1 hC.2.1 dX1_follow_1 (by decide) ?_
  refine ag_put hC hT G (by decide) e_bs k_X1 i_X1_follow_X1 1 (by decide) (wm 1 rfl) rfl rfl (by simp) e_bs rfl dX1_follow_2 (fun H locs G => ?_)
  refine lv_iload_n hC.1 hC.2.1 dX1_follow_5 rfl (lv_at hl 1 rfl) ?_
  refine lv_istore_n (lv' := [(2, .int a1), (0, .ref (lay 10)), (1, .int a1)]) hC.1 hC.2.1 dX1_follow_6 rfl hl (by decide) rfl (fun ls hl => ?_)
  obtain ⟨n1, h⟩ := h
  exact l_X1_follow_7 a1 hC hr hlocks hT n1 _ _ h _ _ _ G (lv_sub hl [1, 2, 0] rfl)
theorem hdV_X1_follow : yX1_follow.cls = RX1 ∧ yX1_follow.cls ≠ "java/lang/invoke/MethodHandle" ∧ yX1_follow.cls ≠ "java/lang/invoke/VarHandle" ∧ (parseMethodDescriptor yX1_follow.desc).map (fun d => d.parameters.length) = some 1 := by decide +kernel
abbrev rm_X1_choose : Room := { frames := 2, cells := 0, slots := 0, locals := 45 }
theorem i_X1_choose_X1 : ∀ w ∈ wsX10, w ∈ wsX1_choose := fun _ h => List.mem_cons_of_mem _ (List.mem_append_left _ (List.mem_append_right _ h))
theorem i_X1_choose_X5 : ∀ w ∈ wsX50, w ∈ wsX1_choose := fun _ h => List.mem_cons_of_mem _ (List.mem_append_right _ h)
def u_X1_choose_176 (post : MS → Prop) (a2 : Int32) (σ : MS) (v3 : Int32) (t0 : Int32) : Prop := w_X1_follow (fun σ6 => post σ6) (up2 σ 10 2 t0) v3
set_option maxHeartbeats 4000000 in
set_option maxRecDepth 100000 in
theorem l_X1_choose_176 {p : Program} {l : Launch} {e : Env} {s : State} {m : MethodId} {args : Array Value} {below : List Frame} {meth : Method} {c : Code} {D : va_G} {cy : Nat → ClassId} {lay : Nat → Nat} {post : MS → Prop} (a2 : Int32) (hC : CallFix p m c cX1_choose 6 s args wsX1_choose RX1) (hr : meth.sig.returnType = none) (hlocks : meth.locks = false) (hT : agT D cy lay s) : ∀ (σ : MS) (v3 : Int32) (t0 : Int32), u_X1_choose_176 post a2 σ v3 t0 → ∀ (H : Heap) (locs : List Loc) (ls : Array Slot), agG D cy lay σ (agA lay s.heap.size) s.heap H locs → lv_has ls 6 [(0, .ref (lay 10)), (1, .ref (lay 2)), (2, .int a2), (3, .int v3)] → W p l e rm_X1_choose s m args below meth c H locs 0 0 (MQ below (va_Qv post (agO D cy lay) (agA lay s.heap.size)) args s 0 0 (agA lay s.heap.size)) (F0 m 176 ls [.int t0, .ref (lay 10)]) := by
  intro σ v3 t0 h H locs ls G hl
  unfold u_X1_choose_176 at h
  refine ag_put hC hT G (by decide) e_bs k_X1 i_X1_choose_X1 2 (by decide) (wm 6 rfl) rfl rfl (by simp) e_bs rfl dX1_choose_176 (fun H locs G => ?_)
  refine lv_aload_n hC.1 hC.2.1 dX1_choose_179 rfl (lv_at hl 0 rfl) ?_
  refine lv_iload_n hC.1 hC.2.1 dX1_choose_180 rfl (lv_at hl 3 rfl) ?_
  refine ag_v G (ag_runV (As := [.int v3]) (rest := []) hC hT G (c_X1_follow l D cy lay h _) (cwV 1 hC.2.2.2.2 gX1_choose_X1_follow rfl rfl rfl hdV_X1_follow ⟨Nat.le_of_ble_eq_true rfl, Nat.le_of_ble_eq_true rfl⟩) (ag_recv hT G (by decide) e_bs k_X1) rfl hl.1 rfl (Nat.le_of_ble_eq_true rfl) dX1_choose_181 ⟨Nat.le_of_ble_eq_true rfl, Nat.le_of_ble_eq_true rfl⟩) (fun σ6 H locs h G => ?_)
  (try dsimp only at h)
  exact ag_vret hC hr hlocks G h dX1_choose_184
def u_X1_choose_137 (post : MS → Prop) (a2 : Int32) : Nat → MS → Int32 → Int32 → Prop
  | 0, _, _, _ => False
  | n + 1, σ, v3, v4 => (((σ 10 6) ≤ v4 → ((v3 = (-1) → u_X1_choose_176 post a2 σ v3 0) ∧ (¬ v3 = (-1) → (vp_in v3 16 ∧ u_X1_choose_176 post a2 σ v3 (σ 13 (Int32.toNatClampNeg v3)))))) ∧ (¬ (σ 10 6) ≤ v4 → w_X1_betterStart (fun r8 σ7 => u_X1_choose_137 post a2 n σ7 r8 (v4 + 1)) σ v4 v3))
set_option maxHeartbeats 4000000 in
set_option maxRecDepth 100000 in
theorem l_X1_choose_137 {p : Program} {l : Launch} {e : Env} {s : State} {m : MethodId} {args : Array Value} {below : List Frame} {meth : Method} {c : Code} {D : va_G} {cy : Nat → ClassId} {lay : Nat → Nat} {post : MS → Prop} (a2 : Int32) (hC : CallFix p m c cX1_choose 6 s args wsX1_choose RX1) (hr : meth.sig.returnType = none) (hlocks : meth.locks = false) (hT : agT D cy lay s) : ∀ (n : Nat), ∀ (σ : MS) (v3 : Int32) (v4 : Int32), u_X1_choose_137 post a2 n σ v3 v4 → ∀ (H : Heap) (locs : List Loc) (ls : Array Slot), agG D cy lay σ (agA lay s.heap.size) s.heap H locs → lv_has ls 6 [(0, .ref (lay 10)), (1, .ref (lay 2)), (2, .int a2), (3, .int v3), (4, .int v4)] → W p l e rm_X1_choose s m args below meth c H locs 0 0 (MQ below (va_Qv post (agO D cy lay) (agA lay s.heap.size)) args s 0 0 (agA lay s.heap.size)) (F0 m 137 ls []) := by
  intro n
  induction n with
  | zero =>
    intro σ v3 v4 h
    exact h.elim
  | succ n ih =>
    intro σ v3 v4 h H locs ls G hl
    rw [u_X1_choose_137] at h
    refine lv_iload hC.1 hC.2.1 dX1_choose_137 (lv_at hl 4 rfl) ?_
    refine lv_aload_n hC.1 hC.2.1 dX1_choose_139 rfl (lv_at hl 0 rfl) ?_
    refine ag_get hC hT G (by decide) e_bs k_X1 i_X1_choose_X1 6 (by decide) (wm 1 rfl) rfl dX1_choose_140 ?_
    refine lv_icmp_ge (tgt := 160) hC.1 hC.2.1 dX1_choose_143 (by decide) (fun c3 => ?_) (fun c3 => ?_)
    · replace h := h.1 c3
      refine lv_aload_n hC.1 hC.2.1 dX1_choose_160 rfl (lv_at hl 0 rfl) ?_
      refine lv_iload_n hC.1 hC.2.1 dX1_choose_161 rfl (lv_at hl 3 rfl) ?_
      refine lv_iconst (v := (-1)) hC.1 hC.2.1 dX1_choose_162 (by decide) ?_
      refine lv_icmp_ne (tgt := 170) hC.1 hC.2.1 dX1_choose_163 (by decide) (fun c4 => ?_) (fun c4 => ?_)
      · replace h := h.2 c4
        refine lv_aload_n hC.1 hC.2.1 dX1_choose_170 rfl (lv_at hl 0 rfl) ?_
        refine ag_get hC hT G (by decide) e_bs k_X1 i_X1_choose_X1 4 (by decide) (wm 4 rfl) rfl dX1_choose_171 ?_
        refine lv_iload_n hC.1 hC.2.1 dX1_choose_174 rfl (lv_at hl 3 rfl) ?_
        obtain ⟨hn5, h⟩ := h
        refine ag_iald hC hT G (by decide) e_lng hn5 dX1_choose_175 ?_
        exact l_X1_choose_176 a2 hC hr hlocks hT _ _ _ h _ _ _ G (lv_sub hl [0, 1, 2, 3] rfl)
      · replace h := h.1 c4
        refine lv_iconst (v := 0) hC.1 hC.2.1 dX1_choose_166 (by decide) ?_
        refine lv_goto (tgt := 176) hC.1 hC.2.1 dX1_choose_167 (by decide) ?_
        exact l_X1_choose_176 a2 hC hr hlocks hT _ _ _ h _ _ _ G (lv_sub hl [0, 1, 2, 3] rfl)
    · replace h := h.2 c3
      refine lv_aload_n hC.1 hC.2.1 dX1_choose_146 rfl (lv_at hl 0 rfl) ?_
      refine lv_iload hC.1 hC.2.1 dX1_choose_147 (lv_at hl 4 rfl) ?_
      refine lv_iload_n hC.1 hC.2.1 dX1_choose_149 rfl (lv_at hl 3 rfl) ?_
      refine ag_i G (ag_runV (As := [.int v4, .int v3]) (rest := []) hC hT G (c_X1_betterStart l D cy lay h _) (cwV 2 hC.2.2.2.2 gX1_choose_X1_betterStart rfl rfl rfl hdV_X1_betterStart ⟨Nat.le_of_ble_eq_true rfl, Nat.le_of_ble_eq_true rfl⟩) (ag_recv hT G (by decide) e_bs k_X1) rfl hl.1 rfl (Nat.le_of_ble_eq_true rfl) dX1_choose_150 ⟨Nat.le_of_ble_eq_true rfl, Nat.le_of_ble_eq_true rfl⟩) (fun r8 σ7 H locs h G => ?_)
      (try dsimp only at h)
      refine lv_istore_n (lv' := [(3, .int r8), (0, .ref (lay 10)), (1, .ref (lay 2)), (2, .int a2), (4, .int v4)]) hC.1 hC.2.1 dX1_choose_153 rfl hl (by decide) rfl (fun ls hl => ?_)
      refine lv_iinc (v := v4 + 1) (lv' := [(4, .int (v4 + 1)), (3, .int r8), (0, .ref (lay 10)), (1, .ref (lay 2)), (2, .int a2)]) hC.1 hC.2.1 dX1_choose_154 hl (k := 4) rfl rfl (by decide) rfl (fun ls hl => ?_)
      refine lv_goto (tgt := 137) hC.1 hC.2.1 dX1_choose_157 (by decide) ?_
      exact ih _ _ _ h _ _ _ G (lv_sub hl [2, 3, 4, 1, 0] rfl)
def u_X1_choose_39 (post : MS → Prop) (a2 : Int32) (K13 : MS → Int32 → Prop) : Nat → MS → Int32 → Nat → Int32 → Prop
  | 0, _, _, _, _ => False
  | n + 1, σ, v3, v4, v5 => (((σ 10 6) ≤ v5 → (vp_in v3 16 ∧ (((σ 14 (Int32.toNatClampNeg v3)) = (-1) → (vp_in v3 16 ∧ K13 (up2 σ 13 (Int32.toNatClampNeg v3) ((σ (39 + v4) 2) + 0)) (v3 + (-1)))) ∧ (¬ (σ 14 (Int32.toNatClampNeg v3)) = (-1) → (vp_in v3 16 ∧ (vp_in (σ 14 (Int32.toNatClampNeg v3)) 16 ∧ (vp_in v3 16 ∧ K13 (up2 σ 13 (Int32.toNatClampNeg v3) ((σ (39 + v4) 2) + (σ 13 (Int32.toNatClampNeg (σ 14 (Int32.toNatClampNeg v3)))))) (v3 + (-1))))))))) ∧ (¬ (σ 10 6) ≤ v5 → (vp_in v5 16 ∧ (vp_in (σ 12 (Int32.toNatClampNeg v5)) 16 ∧ w_X5_fitsBeside (fun r22 σ21 => ((r22 = 0 → u_X1_choose_39 post a2 K13 n σ21 v3 v4 (v5 + 1)) ∧ (¬ r22 = 0 → (vp_in v3 16 ∧ w_X1_betterStart (fun r26 σ25 => (vp_in v3 16 ∧ u_X1_choose_39 post a2 K13 n (up2 σ25 14 (Int32.toNatClampNeg v3) r26) v3 v4 (v5 + 1))) σ21 v5 (σ21 14 (Int32.toNatClampNeg v3)))))) σ v4 (Int32.toNatClampNeg (σ 12 (Int32.toNatClampNeg v5)))))))
set_option maxHeartbeats 4000000 in
set_option maxRecDepth 100000 in
theorem l_X1_choose_39 {p : Program} {l : Launch} {e : Env} {s : State} {m : MethodId} {args : Array Value} {below : List Frame} {meth : Method} {c : Code} {D : va_G} {cy : Nat → ClassId} {lay : Nat → Nat} {post : MS → Prop} (a2 : Int32) (K13 : MS → Int32 → Prop) (hC : CallFix p m c cX1_choose 6 s args wsX1_choose RX1) (hr : meth.sig.returnType = none) (hlocks : meth.locks = false) (hT : agT D cy lay s) (hK13 : ∀ (σ : MS) (v3 : Int32), K13 σ v3 → ∀ (H : Heap) (locs : List Loc) (ls : Array Slot), agG D cy lay σ (agA lay s.heap.size) s.heap H locs → lv_has ls 6 [(0, .ref (lay 10)), (1, .ref (lay 2)), (2, .int a2), (3, .int v3)] → W p l e rm_X1_choose s m args below meth c H locs 0 0 (MQ below (va_Qv post (agO D cy lay) (agA lay s.heap.size)) args s 0 0 (agA lay s.heap.size)) (F0 m 13 ls [])) : ∀ (n : Nat), ∀ (σ : MS) (v3 : Int32) (v4 : Nat) (v5 : Int32), u_X1_choose_39 post a2 K13 n σ v3 v4 v5 → ∀ (hv4 : v4 < 16), ∀ (H : Heap) (locs : List Loc) (ls : Array Slot), agG D cy lay σ (agA lay s.heap.size) s.heap H locs → lv_has ls 6 [(0, .ref (lay 10)), (1, .ref (lay 2)), (2, .int a2), (3, .int v3), (4, .ref (lay (39 + v4))), (5, .int v5)] → W p l e rm_X1_choose s m args below meth c H locs 0 0 (MQ below (va_Qv post (agO D cy lay) (agA lay s.heap.size)) args s 0 0 (agA lay s.heap.size)) (F0 m 39 ls []) := by
  intro n
  induction n with
  | zero =>
    intro σ v3 v4 v5 h
    exact h.elim
  | succ n ih =>
    intro σ v3 v4 v5 h hv4 H locs ls G hl
    rw [u_X1_choose_39] at h
    refine lv_iload hC.1 hC.2.1 dX1_choose_39 (lv_at hl 5 rfl) ?_
    refine lv_aload_n hC.1 hC.2.1 dX1_choose_41 rfl (lv_at hl 0 rfl) ?_
    refine ag_get hC hT G (by decide) e_bs k_X1 i_X1_choose_X1 6 (by decide) (wm 1 rfl) rfl dX1_choose_42 ?_
    refine lv_icmp_ge (tgt := 89) hC.1 hC.2.1 dX1_choose_45 (by decide) (fun c12 => ?_) (fun c12 => ?_)
    · replace h := h.1 c12
      refine lv_aload_n hC.1 hC.2.1 dX1_choose_89 rfl (lv_at hl 0 rfl) ?_
      refine ag_get hC hT G (by decide) e_bs k_X1 i_X1_choose_X1 4 (by decide) (wm 4 rfl) rfl dX1_choose_90 ?_
      refine lv_iload_n hC.1 hC.2.1 dX1_choose_93 rfl (lv_at hl 3 rfl) ?_
      refine lv_aload hC.1 hC.2.1 dX1_choose_94 (lv_at hl 4 rfl) ?_
      refine ag_get hC hT G (k_sg hv4) (e_sg hv4) k_X5 i_X1_choose_X5 2 (by decide) (wm 5 rfl) rfl dX1_choose_96 ?_
      refine lv_aload_n hC.1 hC.2.1 dX1_choose_99 rfl (lv_at hl 0 rfl) ?_
      refine ag_get hC hT G (by decide) e_bs k_X1 i_X1_choose_X1 5 (by decide) (wm 3 rfl) rfl dX1_choose_100 ?_
      refine lv_iload_n hC.1 hC.2.1 dX1_choose_103 rfl (lv_at hl 3 rfl) ?_
      obtain ⟨hn13, h⟩ := h
      refine ag_iald hC hT G (by decide) e_nxt hn13 dX1_choose_104 ?_
      refine lv_iconst (v := (-1)) hC.1 hC.2.1 dX1_choose_105 (by decide) ?_
      refine lv_icmp_ne (tgt := 113) hC.1 hC.2.1 dX1_choose_106 (by decide) (fun c14 => ?_) (fun c14 => ?_)
      · replace h := h.2 c14
        refine lv_aload_n hC.1 hC.2.1 dX1_choose_113 rfl (lv_at hl 0 rfl) ?_
        refine ag_get hC hT G (by decide) e_bs k_X1 i_X1_choose_X1 4 (by decide) (wm 4 rfl) rfl dX1_choose_114 ?_
        refine lv_aload_n hC.1 hC.2.1 dX1_choose_117 rfl (lv_at hl 0 rfl) ?_
        refine ag_get hC hT G (by decide) e_bs k_X1 i_X1_choose_X1 5 (by decide) (wm 3 rfl) rfl dX1_choose_118 ?_
        refine lv_iload_n hC.1 hC.2.1 dX1_choose_121 rfl (lv_at hl 3 rfl) ?_
        obtain ⟨hn15, h⟩ := h
        refine ag_iald hC hT G (by decide) e_nxt hn15 dX1_choose_122 ?_
        obtain ⟨hn16, h⟩ := h
        refine ag_iald hC hT G (by decide) e_lng hn16 dX1_choose_123 ?_
        refine lv_iadd hC.1 hC.2.1 dX1_choose_124 ?_
        obtain ⟨hn17, h⟩ := h
        refine ag_iast hC hT G (by decide) (fun _ => e_lng) hn17 dX1_choose_125 (fun H locs G => ?_)
        refine lv_iinc (v := v3 + (-1)) (lv' := [(3, .int (v3 + (-1))), (0, .ref (lay 10)), (1, .ref (lay 2)), (2, .int a2), (4, .ref (lay (39 + v4))), (5, .int v5)]) hC.1 hC.2.1 dX1_choose_126 hl (k := 3) rfl rfl (by decide) rfl (fun ls hl => ?_)
        refine lv_goto (tgt := 13) hC.1 hC.2.1 dX1_choose_129 (by decide) ?_
        exact hK13 _ _ h _ _ _ G (lv_sub hl [1, 2, 3, 0] rfl)
      · replace h := h.1 c14
        refine lv_iconst (v := 0) hC.1 hC.2.1 dX1_choose_109 (by decide) ?_
        refine lv_goto (tgt := 124) hC.1 hC.2.1 dX1_choose_110 (by decide) ?_
        refine lv_iadd hC.1 hC.2.1 dX1_choose_124 ?_
        obtain ⟨hn18, h⟩ := h
        refine ag_iast hC hT G (by decide) (fun _ => e_lng) hn18 dX1_choose_125 (fun H locs G => ?_)
        refine lv_iinc (v := v3 + (-1)) (lv' := [(3, .int (v3 + (-1))), (0, .ref (lay 10)), (1, .ref (lay 2)), (2, .int a2), (4, .ref (lay (39 + v4))), (5, .int v5)]) hC.1 hC.2.1 dX1_choose_126 hl (k := 3) rfl rfl (by decide) rfl (fun ls hl => ?_)
        refine lv_goto (tgt := 13) hC.1 hC.2.1 dX1_choose_129 (by decide) ?_
        exact hK13 _ _ h _ _ _ G (lv_sub hl [1, 2, 3, 0] rfl)
    · replace h := h.2 c12
      refine lv_aload hC.1 hC.2.1 dX1_choose_48 (lv_at hl 4 rfl) ?_
      refine lv_aload_n hC.1 hC.2.1 dX1_choose_50 rfl (lv_at hl 1 rfl) ?_
      refine lv_aload_n hC.1 hC.2.1 dX1_choose_51 rfl (lv_at hl 0 rfl) ?_
      refine ag_get hC hT G (by decide) e_bs k_X1 i_X1_choose_X1 3 (by decide) (wm 2 rfl) rfl dX1_choose_52 ?_
      refine lv_iload hC.1 hC.2.1 dX1_choose_55 (lv_at hl 5 rfl) ?_
      obtain ⟨hn19, h⟩ := h
      refine ag_iald hC hT G (by decide) e_ord hn19 dX1_choose_57 ?_
      obtain ⟨hn20, h⟩ := h
      refine ag_aald hC hT G (by decide) _ rfl e_sgs hn20 dX1_choose_58 ?_
      refine ag_i G (ag_runV (As := [.ref (lay (39 + (Int32.toNatClampNeg (σ 12 (Int32.toNatClampNeg v5)))))]) (rest := []) hC hT G (c_X5_fitsBeside l D cy lay h hv4 (vlt hn20) _) (cwV 1 hC.2.2.2.2 gX1_choose_X5_fitsBeside rfl rfl rfl hdV_X5_fitsBeside ⟨Nat.le_of_ble_eq_true rfl, Nat.le_of_ble_eq_true rfl⟩) (ag_recv hT G (k_sg hv4) (e_sg hv4) k_X5) rfl hl.1 rfl (Nat.le_of_ble_eq_true rfl) dX1_choose_59 ⟨Nat.le_of_ble_eq_true rfl, Nat.le_of_ble_eq_true rfl⟩) (fun r22 σ21 H locs h G => ?_)
      (try dsimp only at h)
      refine lv_if_eq (tgt := 83) hC.1 hC.2.1 dX1_choose_62 (by decide) (fun c23 => ?_) (fun c23 => ?_)
      · replace h := h.1 c23
        refine lv_iinc (v := v5 + 1) (lv' := [(5, .int (v5 + 1)), (0, .ref (lay 10)), (1, .ref (lay 2)), (2, .int a2), (3, .int v3), (4, .ref (lay (39 + v4)))]) hC.1 hC.2.1 dX1_choose_83 hl (k := 5) rfl rfl (by decide) rfl (fun ls hl => ?_)
        refine lv_goto (tgt := 39) hC.1 hC.2.1 dX1_choose_86 (by decide) ?_
        exact ih _ _ _ _ h hv4 _ _ _ G (lv_sub hl [1, 2, 3, 4, 5, 0] rfl)
      · replace h := h.2 c23
        refine lv_aload_n hC.1 hC.2.1 dX1_choose_65 rfl (lv_at hl 0 rfl) ?_
        refine ag_get hC hT G (by decide) e_bs k_X1 i_X1_choose_X1 5 (by decide) (wm 3 rfl) rfl dX1_choose_66 ?_
        refine lv_iload_n hC.1 hC.2.1 dX1_choose_69 rfl (lv_at hl 3 rfl) ?_
        refine lv_aload_n hC.1 hC.2.1 dX1_choose_70 rfl (lv_at hl 0 rfl) ?_
        refine lv_iload hC.1 hC.2.1 dX1_choose_71 (lv_at hl 5 rfl) ?_
        refine lv_aload_n hC.1 hC.2.1 dX1_choose_73 rfl (lv_at hl 0 rfl) ?_
        refine ag_get hC hT G (by decide) e_bs k_X1 i_X1_choose_X1 5 (by decide) (wm 3 rfl) rfl dX1_choose_74 ?_
        refine lv_iload_n hC.1 hC.2.1 dX1_choose_77 rfl (lv_at hl 3 rfl) ?_
        obtain ⟨hn24, h⟩ := h
        refine ag_iald hC hT G (by decide) e_nxt hn24 dX1_choose_78 ?_
        refine ag_i G (ag_runV (As := [.int v5, .int (σ21 14 (Int32.toNatClampNeg v3))]) (rest := [.int v3, .ref (lay 14)]) hC hT G (c_X1_betterStart l D cy lay h _) (cwV 2 hC.2.2.2.2 gX1_choose_X1_betterStart rfl rfl rfl hdV_X1_betterStart ⟨Nat.le_of_ble_eq_true rfl, Nat.le_of_ble_eq_true rfl⟩) (ag_recv hT G (by decide) e_bs k_X1) rfl hl.1 rfl (Nat.le_of_ble_eq_true rfl) dX1_choose_79 ⟨Nat.le_of_ble_eq_true rfl, Nat.le_of_ble_eq_true rfl⟩) (fun r26 σ25 H locs h G => ?_)
        (try dsimp only at h)
        obtain ⟨hn27, h⟩ := h
        refine ag_iast hC hT G (by decide) (fun _ => e_nxt) hn27 dX1_choose_82 (fun H locs G => ?_)
        refine lv_iinc (v := v5 + 1) (lv' := [(5, .int (v5 + 1)), (0, .ref (lay 10)), (1, .ref (lay 2)), (2, .int a2), (3, .int v3), (4, .ref (lay (39 + v4)))]) hC.1 hC.2.1 dX1_choose_83 hl (k := 5) rfl rfl (by decide) rfl (fun ls hl => ?_)
        refine lv_goto (tgt := 39) hC.1 hC.2.1 dX1_choose_86 (by decide) ?_
        exact ih _ _ _ _ h hv4 _ _ _ G (lv_sub hl [1, 2, 3, 4, 5, 0] rfl)
def u_X1_choose_13 (post : MS → Prop) (a2 : Int32) : Nat → MS → Int32 → Prop
  | 0, _, _ => False
  | n + 1, σ, v3 => ((v3 < 0 → (∃ k, u_X1_choose_137 post a2 k σ (-1) 0)) ∧ (¬ v3 < 0 → (vp_in v3 16 ∧ (vp_in (σ 12 (Int32.toNatClampNeg v3)) 16 ∧ (vp_in v3 16 ∧ (∃ k, u_X1_choose_39 post a2 (fun σ w0 => u_X1_choose_13 post a2 n σ w0) k (up2 σ 14 (Int32.toNatClampNeg v3) (-1)) v3 (Int32.toNatClampNeg (σ 12 (Int32.toNatClampNeg v3))) (v3 + 1)))))))
set_option maxHeartbeats 4000000 in
set_option maxRecDepth 100000 in
theorem l_X1_choose_13 {p : Program} {l : Launch} {e : Env} {s : State} {m : MethodId} {args : Array Value} {below : List Frame} {meth : Method} {c : Code} {D : va_G} {cy : Nat → ClassId} {lay : Nat → Nat} {post : MS → Prop} (a2 : Int32) (hC : CallFix p m c cX1_choose 6 s args wsX1_choose RX1) (hr : meth.sig.returnType = none) (hlocks : meth.locks = false) (hT : agT D cy lay s) : ∀ (n : Nat), ∀ (σ : MS) (v3 : Int32), u_X1_choose_13 post a2 n σ v3 → ∀ (H : Heap) (locs : List Loc) (ls : Array Slot), agG D cy lay σ (agA lay s.heap.size) s.heap H locs → lv_has ls 6 [(0, .ref (lay 10)), (1, .ref (lay 2)), (2, .int a2), (3, .int v3)] → W p l e rm_X1_choose s m args below meth c H locs 0 0 (MQ below (va_Qv post (agO D cy lay) (agA lay s.heap.size)) args s 0 0 (agA lay s.heap.size)) (F0 m 13 ls []) := by
  intro n
  induction n with
  | zero =>
    intro σ v3 h
    exact h.elim
  | succ n ih =>
    intro σ v3 h H locs ls G hl
    rw [u_X1_choose_13] at h
    refine lv_iload_n hC.1 hC.2.1 dX1_choose_13 rfl (lv_at hl 3 rfl) ?_
    refine lv_if_lt (tgt := 132) hC.1 hC.2.1 dX1_choose_14 (by decide) (fun c2 => ?_) (fun c2 => ?_)
    · replace h := h.1 c2
      refine lv_iconst (v := (-1)) hC.1 hC.2.1 dX1_choose_132 (by decide) ?_
      refine lv_istore_n (lv' := [(3, .int (-1)), (0, .ref (lay 10)), (1, .ref (lay 2)), (2, .int a2)]) hC.1 hC.2.1 dX1_choose_133 rfl hl (by decide) rfl (fun ls hl => ?_)
      refine lv_iconst (v := 0) hC.1 hC.2.1 dX1_choose_134 (by decide) ?_
      refine lv_istore (lv' := [(4, .int 0), (3, .int (-1)), (0, .ref (lay 10)), (1, .ref (lay 2)), (2, .int a2)]) hC.1 hC.2.1 dX1_choose_135 hl (by decide) rfl (fun ls hl => ?_)
      obtain ⟨n1, h⟩ := h
      exact l_X1_choose_137 a2 hC hr hlocks hT n1 _ _ _ h _ _ _ G (lv_sub hl [2, 3, 4, 1, 0] rfl)
    · replace h := h.2 c2
      refine lv_aload_n hC.1 hC.2.1 dX1_choose_17 rfl (lv_at hl 1 rfl) ?_
      refine lv_aload_n hC.1 hC.2.1 dX1_choose_18 rfl (lv_at hl 0 rfl) ?_
      refine ag_get hC hT G (by decide) e_bs k_X1 i_X1_choose_X1 3 (by decide) (wm 2 rfl) rfl dX1_choose_19 ?_
      refine lv_iload_n hC.1 hC.2.1 dX1_choose_22 rfl (lv_at hl 3 rfl) ?_
      obtain ⟨hn9, h⟩ := h
      refine ag_iald hC hT G (by decide) e_ord hn9 dX1_choose_23 ?_
      obtain ⟨hn10, h⟩ := h
      refine ag_aald hC hT G (by decide) _ rfl e_sgs hn10 dX1_choose_24 ?_
      refine lv_astore (lv' := [(4, .ref (lay (39 + (Int32.toNatClampNeg (σ 12 (Int32.toNatClampNeg v3)))))), (0, .ref (lay 10)), (1, .ref (lay 2)), (2, .int a2), (3, .int v3)]) hC.1 hC.2.1 dX1_choose_25 hl (by decide) rfl (fun ls hl => ?_)
      refine lv_aload_n hC.1 hC.2.1 dX1_choose_27 rfl (lv_at hl 1 rfl) ?_
      refine ag_get hC hT G (by decide) e_bs k_X1 i_X1_choose_X1 5 (by decide) (wm 3 rfl) rfl dX1_choose_28 ?_
      refine lv_iload_n hC.1 hC.2.1 dX1_choose_31 rfl (lv_at hl 4 rfl) ?_
      refine lv_iconst (v := (-1)) hC.1 hC.2.1 dX1_choose_32 (by decide) ?_
      obtain ⟨hn11, h⟩ := h
      refine ag_iast hC hT G (by decide) (fun _ => e_nxt) hn11 dX1_choose_33 (fun H locs G => ?_)
      refine lv_iload_n hC.1 hC.2.1 dX1_choose_34 rfl (lv_at hl 4 rfl) ?_
      refine lv_iconst (v := 1) hC.1 hC.2.1 dX1_choose_35 (by decide) ?_
      refine lv_iadd hC.1 hC.2.1 dX1_choose_36 ?_
      refine lv_istore (lv' := [(5, .int (v3 + 1)), (4, .ref (lay (39 + (Int32.toNatClampNeg (σ 12 (Int32.toNatClampNeg v3)))))), (0, .ref (lay 10)), (1, .ref (lay 2)), (2, .int a2), (3, .int v3)]) hC.1 hC.2.1 dX1_choose_37 hl (by decide) rfl (fun ls hl => ?_)
      obtain ⟨n1, h⟩ := h
      exact l_X1_choose_39 a2 (fun σ w0 => u_X1_choose_13 post a2 n σ w0) hC hr hlocks hT ih n1 _ _ _ _ h (vlt hn10) _ _ _ G (lv_sub hl [2, 3, 4, 5, 1, 0] rfl)
def w_X1_choose (post : MS → Prop) (σ : MS) (a2 : Int32) : Prop := w_X1_sort (fun σ1 => (∃ k, u_X1_choose_13 post a2 k σ1 ((σ1 10 6) - 1))) σ a2
set_option maxHeartbeats 4000000 in
set_option maxRecDepth 100000 in
theorem c_X1_choose (l : Launch) (D : va_G) (cy : Nat → ClassId) (lay : Nat → Nat) {σ : MS} {post : MS → Prop} {a2 : Int32} (h : w_X1_choose post σ a2) (sz : Nat) : Met l yX1_choose wsX1_choose rm_X1_choose (va_Pc [.ref (lay 10), .ref (lay 2), .int a2] (agI D cy lay σ sz)) (va_Qv post (agO D cy lay) (agA lay sz)) 0 0 (agA lay sz) := by
  refine ag_ofW (cc := cX1_choose) (maxL := 6) (ret := none) (own := RX1) (Qc := fun sz => va_Qv post (agO D cy lay) (agA lay sz)) (by decide) rfl (Nat.le_of_ble_eq_true rfl) rfl ?_
  intro p e s m args below meth c ls hC hr hlocks hT G hl
  unfold w_X1_choose at h
  have hl : lv_has ls 6 [(0, .ref (lay 10)), (1, .ref (lay 2)), (2, .int a2)] := hl
  refine lv_aload_n hC.1 hC.2.1 dX1_choose_0 rfl (lv_at hl 0 rfl) ?_
  refine lv_aload_n hC.1 hC.2.1 dX1_choose_1 rfl (lv_at hl 1 rfl) ?_
  refine lv_iload_n hC.1 hC.2.1 dX1_choose_2 rfl (lv_at hl 2 rfl) ?_
  refine ag_v G (ag_runV (As := [.ref (lay 2), .int a2]) (rest := []) hC hT G (c_X1_sort l D cy lay h _) (cwV 2 hC.2.2.2.2 gX1_choose_X1_sort rfl rfl rfl hdV_X1_sort ⟨Nat.le_of_ble_eq_true rfl, Nat.le_of_ble_eq_true rfl⟩) (ag_recv hT G (by decide) e_bs k_X1) rfl hl.1 rfl (Nat.le_of_ble_eq_true rfl) dX1_choose_3 ⟨Nat.le_of_ble_eq_true rfl, Nat.le_of_ble_eq_true rfl⟩) (fun σ1 H locs h G => ?_)
  (try dsimp only at h)
  refine lv_aload_n hC.1 hC.2.1 dX1_choose_6 rfl (lv_at hl 0 rfl) ?_
  refine ag_get hC hT G (by decide) e_bs k_X1 i_X1_choose_X1 6 (by decide) (wm 1 rfl) rfl dX1_choose_7 ?_
  refine lv_iconst (v := 1) hC.1 hC.2.1 dX1_choose_10 (by decide) ?_
  refine lv_isub hC.1 hC.2.1 dX1_choose_11 ?_
  refine lv_istore_n (lv' := [(3, .int ((σ1 10 6) - 1)), (0, .ref (lay 10)), (1, .ref (lay 2)), (2, .int a2)]) hC.1 hC.2.1 dX1_choose_12 rfl hl (by decide) rfl (fun ls hl => ?_)
  obtain ⟨n1, h⟩ := h
  exact l_X1_choose_13 a2 hC hr hlocks hT n1 _ _ h _ _ _ G (lv_sub hl [1, 2, 3, 0] rfl)
theorem hdV_X1_choose : yX1_choose.cls = RX1 ∧ yX1_choose.cls ≠ "java/lang/invoke/MethodHandle" ∧ yX1_choose.cls ≠ "java/lang/invoke/VarHandle" ∧ (parseMethodDescriptor yX1_choose.desc).map (fun d => d.parameters.length) = some 2 := by decide +kernel
abbrev rm_X7_getPaid : Room := { frames := 0, cells := 0, slots := 0, locals := 0 }
theorem i_X7_getPaid_X6 : ∀ w ∈ wsX60, w ∈ wsX7_getPaid := fun _ h => List.mem_cons_of_mem _ (List.mem_append_left _ (List.mem_append_right _ h))
theorem i_X7_getPaid_X7 : ∀ w ∈ wsX70, w ∈ wsX7_getPaid := fun _ h => List.mem_cons_of_mem _ (List.mem_append_right _ h)
def w_X7_getPaid (post : MS → Prop) (σ : MS) (i1 : Nat) (a2 : Int32) : Prop := post (up2 (up2 σ (73 + i1) 11 ((σ (73 + i1) 11) + a2)) 0 10 (((up2 σ (73 + i1) 11 ((σ (73 + i1) 11) + a2)) 0 10) + a2))
set_option maxHeartbeats 4000000 in
set_option maxRecDepth 100000 in
theorem c_X7_getPaid (l : Launch) (D : va_G) (cy : Nat → ClassId) (lay : Nat → Nat) {σ : MS} {post : MS → Prop} {i1 : Nat} {a2 : Int32} (h : w_X7_getPaid post σ i1 a2) (hi1 : i1 < 14) (sz : Nat) : Met l yX7_getPaid wsX7_getPaid rm_X7_getPaid (va_Pc [.ref (lay 0), .ref (lay (73 + i1)), .int a2] (agI D cy lay σ sz)) (va_Qv post (agO D cy lay) (agA lay sz)) 0 0 (agA lay sz) := by
  refine ag_ofW (cc := cX7_getPaid) (maxL := 3) (ret := none) (own := RX7) (Qc := fun sz => va_Qv post (agO D cy lay) (agA lay sz)) (by decide) rfl (Nat.le_of_ble_eq_true rfl) rfl ?_
  intro p e s m args below meth c ls hC hr hlocks hT G hl
  unfold w_X7_getPaid at h
  have hl : lv_has ls 3 [(0, .ref (lay 0)), (1, .ref (lay (73 + i1))), (2, .int a2)] := hl
  refine lv_aload_n hC.1 hC.2.1 dX7_getPaid_0 rfl (lv_at hl 1 rfl) ?_
  refine lv_dup hC.1 hC.2.1 dX7_getPaid_1 rfl ?_
  refine ag_get hC hT G (k_wd hi1) (e_wd hi1) k_X6 i_X7_getPaid_X6 11 (by decide) (wm 1 rfl) rfl dX7_getPaid_2 ?_
  refine lv_iload_n hC.1 hC.2.1 dX7_getPaid_5 rfl (lv_at hl 2 rfl) ?_
  refine lv_iadd hC.1 hC.2.1 dX7_getPaid_6 ?_
  refine ag_put hC hT G (k_wd hi1) (e_wd hi1) k_X6 i_X7_getPaid_X6 11 (by decide) (wm 1 rfl) rfl rfl (by simp) (e_wd hi1) rfl dX7_getPaid_7 (fun H locs G => ?_)
  refine lv_aload_n hC.1 hC.2.1 dX7_getPaid_10 rfl (lv_at hl 0 rfl) ?_
  refine lv_dup hC.1 hC.2.1 dX7_getPaid_11 rfl ?_
  refine ag_get hC hT G (by decide) e_ag k_X7 i_X7_getPaid_X7 10 (by decide) (wm 2 rfl) rfl dX7_getPaid_12 ?_
  refine lv_iload_n hC.1 hC.2.1 dX7_getPaid_15 rfl (lv_at hl 2 rfl) ?_
  refine lv_iadd hC.1 hC.2.1 dX7_getPaid_16 ?_
  refine ag_put hC hT G (by decide) e_ag k_X7 i_X7_getPaid_X7 10 (by decide) (wm 2 rfl) rfl rfl (by simp) e_ag rfl dX7_getPaid_17 (fun H locs G => ?_)
  exact ag_vret hC hr hlocks G h dX7_getPaid_20
theorem hdV_X7_getPaid : yX7_getPaid.cls = RX7 ∧ yX7_getPaid.cls ≠ "java/lang/invoke/MethodHandle" ∧ yX7_getPaid.cls ≠ "java/lang/invoke/VarHandle" ∧ (parseMethodDescriptor yX7_getPaid.desc).map (fun d => d.parameters.length) = some 2 := by decide +kernel
abbrev rm_X7_owedFor : Room := { frames := 0, cells := 0, slots := 0, locals := 0 }
theorem i_X7_owedFor_X6 : ∀ w ∈ wsX60, w ∈ wsX7_owedFor := fun _ h => List.mem_cons_of_mem _ (List.mem_append_left _ (List.mem_append_right _ h))
theorem i_X7_owedFor_X7 : ∀ w ∈ wsX70, w ∈ wsX7_owedFor := fun _ h => List.mem_cons_of_mem _ (List.mem_append_right _ h)
def w_X7_owedFor (post : Int32 → MS → Prop) (σ : MS) (i1 : Nat) : Prop := ((((σ (73 + i1) 1) - (σ 0 9)) < 30 → ((((σ (73 + i1) 1) - (σ 0 9)) < 14 → ((((σ (73 + i1) 1) - (σ 0 9)) < 7 → post (((σ (73 + i1) 9) * 100) / 100) σ) ∧ (¬ ((σ (73 + i1) 1) - (σ 0 9)) < 7 → post (((σ (73 + i1) 9) * 70) / 100) σ))) ∧ (¬ ((σ (73 + i1) 1) - (σ 0 9)) < 14 → post (((σ (73 + i1) 9) * 40) / 100) σ))) ∧ (¬ ((σ (73 + i1) 1) - (σ 0 9)) < 30 → post (((σ (73 + i1) 9) * 20) / 100) σ))
set_option maxHeartbeats 4000000 in
set_option maxRecDepth 100000 in
theorem c_X7_owedFor (l : Launch) (D : va_G) (cy : Nat → ClassId) (lay : Nat → Nat) {σ : MS} {post : Int32 → MS → Prop} {i1 : Nat} (h : w_X7_owedFor post σ i1) (hi1 : i1 < 14) (sz : Nat) : Met l yX7_owedFor wsX7_owedFor rm_X7_owedFor (va_Pc [.ref (lay 0), .ref (lay (73 + i1))] (agI D cy lay σ sz)) (va_Qi post (agO D cy lay) (agA lay sz)) 0 0 (agA lay sz) := by
  refine ag_ofW (cc := cX7_owedFor) (maxL := 4) (ret := some .int) (own := RX7) (Qc := fun sz => va_Qi post (agO D cy lay) (agA lay sz)) (by decide) rfl (Nat.le_of_ble_eq_true rfl) rfl ?_
  intro p e s m args below meth c ls hC hr hlocks hT G hl
  unfold w_X7_owedFor at h
  have hl : lv_has ls 4 [(0, .ref (lay 0)), (1, .ref (lay (73 + i1)))] := hl
  refine lv_aload_n hC.1 hC.2.1 dX7_owedFor_0 rfl (lv_at hl 1 rfl) ?_
  refine ag_get hC hT G (k_wd hi1) (e_wd hi1) k_X6 i_X7_owedFor_X6 1 (by decide) (wm 1 rfl) rfl dX7_owedFor_1 ?_
  refine lv_aload_n hC.1 hC.2.1 dX7_owedFor_4 rfl (lv_at hl 0 rfl) ?_
  refine ag_get hC hT G (by decide) e_ag k_X7 i_X7_owedFor_X7 9 (by decide) (wm 2 rfl) rfl dX7_owedFor_5 ?_
  refine lv_isub hC.1 hC.2.1 dX7_owedFor_8 ?_
  refine lv_istore_n (lv' := [(2, .int ((σ (73 + i1) 1) - (σ 0 9))), (0, .ref (lay 0)), (1, .ref (lay (73 + i1)))]) hC.1 hC.2.1 dX7_owedFor_9 rfl hl (by decide) rfl (fun ls hl => ?_)
  refine lv_iload_n hC.1 hC.2.1 dX7_owedFor_10 rfl (lv_at hl 0 rfl) ?_
  refine lv_bipush (v := 30) hC.1 hC.2.1 dX7_owedFor_11 (by decide) ?_
  refine lv_icmp_lt (tgt := 21) hC.1 hC.2.1 dX7_owedFor_13 (by decide) (fun c1 => ?_) (fun c1 => ?_)
  · replace h := h.1 c1
    refine lv_iload_n hC.1 hC.2.1 dX7_owedFor_21 rfl (lv_at hl 0 rfl) ?_
    refine lv_bipush (v := 14) hC.1 hC.2.1 dX7_owedFor_22 (by decide) ?_
    refine lv_icmp_lt (tgt := 32) hC.1 hC.2.1 dX7_owedFor_24 (by decide) (fun c2 => ?_) (fun c2 => ?_)
    · replace h := h.1 c2
      refine lv_iload_n hC.1 hC.2.1 dX7_owedFor_32 rfl (lv_at hl 0 rfl) ?_
      refine lv_bipush (v := 7) hC.1 hC.2.1 dX7_owedFor_33 (by decide) ?_
      refine lv_icmp_lt (tgt := 43) hC.1 hC.2.1 dX7_owedFor_35 (by decide) (fun c3 => ?_) (fun c3 => ?_)
      · replace h := h.1 c3
        refine lv_bipush (v := 100) hC.1 hC.2.1 dX7_owedFor_43 (by decide) ?_
        refine lv_istore_n (lv' := [(3, .int 100), (2, .int ((σ (73 + i1) 1) - (σ 0 9))), (0, .ref (lay 0)), (1, .ref (lay (73 + i1)))]) hC.1 hC.2.1 dX7_owedFor_45 rfl hl (by decide) rfl (fun ls hl => ?_)
        refine lv_aload_n hC.1 hC.2.1 dX7_owedFor_46 rfl (lv_at hl 3 rfl) ?_
        refine ag_get hC hT G (k_wd hi1) (e_wd hi1) k_X6 i_X7_owedFor_X6 9 (by decide) (wm 3 rfl) rfl dX7_owedFor_47 ?_
        refine lv_iload_n hC.1 hC.2.1 dX7_owedFor_50 rfl (lv_at hl 0 rfl) ?_
        refine lv_imul hC.1 hC.2.1 dX7_owedFor_51 ?_
        refine lv_bipush (v := 100) hC.1 hC.2.1 dX7_owedFor_52 (by decide) ?_
        refine lv_idiv hC.1 hC.2.1 dX7_owedFor_54 (by decide) ?_
        exact ag_iret hC hr hlocks G h dX7_owedFor_55
      · replace h := h.2 c3
        refine lv_bipush (v := 70) hC.1 hC.2.1 dX7_owedFor_38 (by decide) ?_
        refine lv_goto (tgt := 45) hC.1 hC.2.1 dX7_owedFor_40 (by decide) ?_
        refine lv_istore_n (lv' := [(3, .int 70), (2, .int ((σ (73 + i1) 1) - (σ 0 9))), (0, .ref (lay 0)), (1, .ref (lay (73 + i1)))]) hC.1 hC.2.1 dX7_owedFor_45 rfl hl (by decide) rfl (fun ls hl => ?_)
        refine lv_aload_n hC.1 hC.2.1 dX7_owedFor_46 rfl (lv_at hl 3 rfl) ?_
        refine ag_get hC hT G (k_wd hi1) (e_wd hi1) k_X6 i_X7_owedFor_X6 9 (by decide) (wm 3 rfl) rfl dX7_owedFor_47 ?_
        refine lv_iload_n hC.1 hC.2.1 dX7_owedFor_50 rfl (lv_at hl 0 rfl) ?_
        refine lv_imul hC.1 hC.2.1 dX7_owedFor_51 ?_
        refine lv_bipush (v := 100) hC.1 hC.2.1 dX7_owedFor_52 (by decide) ?_
        refine lv_idiv hC.1 hC.2.1 dX7_owedFor_54 (by decide) ?_
        exact ag_iret hC hr hlocks G h dX7_owedFor_55
    · replace h := h.2 c2
      refine lv_bipush (v := 40) hC.1 hC.2.1 dX7_owedFor_27 (by decide) ?_
      refine lv_goto (tgt := 45) hC.1 hC.2.1 dX7_owedFor_29 (by decide) ?_
      refine lv_istore_n (lv' := [(3, .int 40), (2, .int ((σ (73 + i1) 1) - (σ 0 9))), (0, .ref (lay 0)), (1, .ref (lay (73 + i1)))]) hC.1 hC.2.1 dX7_owedFor_45 rfl hl (by decide) rfl (fun ls hl => ?_)
      refine lv_aload_n hC.1 hC.2.1 dX7_owedFor_46 rfl (lv_at hl 3 rfl) ?_
      refine ag_get hC hT G (k_wd hi1) (e_wd hi1) k_X6 i_X7_owedFor_X6 9 (by decide) (wm 3 rfl) rfl dX7_owedFor_47 ?_
      refine lv_iload_n hC.1 hC.2.1 dX7_owedFor_50 rfl (lv_at hl 0 rfl) ?_
      refine lv_imul hC.1 hC.2.1 dX7_owedFor_51 ?_
      refine lv_bipush (v := 100) hC.1 hC.2.1 dX7_owedFor_52 (by decide) ?_
      refine lv_idiv hC.1 hC.2.1 dX7_owedFor_54 (by decide) ?_
      exact ag_iret hC hr hlocks G h dX7_owedFor_55
  · replace h := h.2 c1
    refine lv_bipush (v := 20) hC.1 hC.2.1 dX7_owedFor_16 (by decide) ?_
    refine lv_goto (tgt := 45) hC.1 hC.2.1 dX7_owedFor_18 (by decide) ?_
    refine lv_istore_n (lv' := [(3, .int 20), (2, .int ((σ (73 + i1) 1) - (σ 0 9))), (0, .ref (lay 0)), (1, .ref (lay (73 + i1)))]) hC.1 hC.2.1 dX7_owedFor_45 rfl hl (by decide) rfl (fun ls hl => ?_)
    refine lv_aload_n hC.1 hC.2.1 dX7_owedFor_46 rfl (lv_at hl 3 rfl) ?_
    refine ag_get hC hT G (k_wd hi1) (e_wd hi1) k_X6 i_X7_owedFor_X6 9 (by decide) (wm 3 rfl) rfl dX7_owedFor_47 ?_
    refine lv_iload_n hC.1 hC.2.1 dX7_owedFor_50 rfl (lv_at hl 0 rfl) ?_
    refine lv_imul hC.1 hC.2.1 dX7_owedFor_51 ?_
    refine lv_bipush (v := 100) hC.1 hC.2.1 dX7_owedFor_52 (by decide) ?_
    refine lv_idiv hC.1 hC.2.1 dX7_owedFor_54 (by decide) ?_
    exact ag_iret hC hr hlocks G h dX7_owedFor_55
theorem hdV_X7_owedFor : yX7_owedFor.cls = RX7 ∧ yX7_owedFor.cls ≠ "java/lang/invoke/MethodHandle" ∧ yX7_owedFor.cls ≠ "java/lang/invoke/VarHandle" ∧ (parseMethodDescriptor yX7_owedFor.desc).map (fun d => d.parameters.length) = some 1 := by decide +kernel
abbrev rm_X7_extraOf : Room := { frames := 2, cells := 0, slots := 0, locals := 34 }
theorem i_X7_extraOf_X7 : ∀ w ∈ wsX70, w ∈ wsX7_extraOf := fun _ h => List.mem_cons_of_mem _ (List.mem_append_left _ (List.mem_append_left _ (List.mem_append_right _ h)))
theorem i_X7_extraOf_X6 : ∀ w ∈ wsX60, w ∈ wsX7_extraOf := fun _ h => List.mem_cons_of_mem _ (List.mem_append_left _ (List.mem_append_right _ h))
theorem i_X7_extraOf_X3 : ∀ w ∈ wsX30, w ∈ wsX7_extraOf := fun _ h => List.mem_cons_of_mem _ (List.mem_append_right _ h)
def u_X7_extraOf_4 (post : Int32 → MS → Prop) (i1 : Nat) : Nat → MS → Int32 → Int32 → Prop
  | 0, _, _, _ => False
  | n + 1, σ, v2, v3 => (((σ 0 6) ≤ v3 → w_X6_quarters (fun r3 σ2 => post ((r3 * v2) / 4) σ2) σ i1) ∧ (¬ (σ 0 6) ≤ v3 → w_X7_has (fun r5 σ4 => ((r5 = 0 → u_X7_extraOf_4 post i1 n σ4 v2 (v3 + 1)) ∧ (¬ r5 = 0 → (vp_in v3 10 ∧ u_X7_extraOf_4 post i1 n σ4 (v2 + (σ4 (29 + (Int32.toNatClampNeg v3)) 3)) (v3 + 1))))) σ (σ (73 + i1) 8) v3))
set_option maxHeartbeats 4000000 in
set_option maxRecDepth 100000 in
theorem l_X7_extraOf_4 {p : Program} {l : Launch} {e : Env} {s : State} {m : MethodId} {args : Array Value} {below : List Frame} {meth : Method} {c : Code} {D : va_G} {cy : Nat → ClassId} {lay : Nat → Nat} {post : Int32 → MS → Prop} (i1 : Nat) (hC : CallFix p m c cX7_extraOf 4 s args wsX7_extraOf RX7) (hr : meth.sig.returnType = some .int) (hlocks : meth.locks = false) (hT : agT D cy lay s) (hi1 : i1 < 14) : ∀ (n : Nat), ∀ (σ : MS) (v2 : Int32) (v3 : Int32), u_X7_extraOf_4 post i1 n σ v2 v3 → ∀ (H : Heap) (locs : List Loc) (ls : Array Slot), agG D cy lay σ (agA lay s.heap.size) s.heap H locs → lv_has ls 4 [(0, .ref (lay 0)), (1, .ref (lay (73 + i1))), (2, .int v2), (3, .int v3)] → W p l e rm_X7_extraOf s m args below meth c H locs 0 0 (MQ below (va_Qi post (agO D cy lay) (agA lay s.heap.size)) args s 0 0 (agA lay s.heap.size)) (F0 m 4 ls []) := by
  intro n
  induction n with
  | zero =>
    intro σ v2 v3 h
    exact h.elim
  | succ n ih =>
    intro σ v2 v3 h H locs ls G hl
    rw [u_X7_extraOf_4] at h
    refine lv_iload_n hC.1 hC.2.1 dX7_extraOf_4 rfl (lv_at hl 3 rfl) ?_
    refine lv_aload_n hC.1 hC.2.1 dX7_extraOf_5 rfl (lv_at hl 0 rfl) ?_
    refine ag_get hC hT G (by decide) e_ag k_X7 i_X7_extraOf_X7 6 (by decide) (wm 1 rfl) rfl dX7_extraOf_6 ?_
    refine lv_icmp_ge (tgt := 41) hC.1 hC.2.1 dX7_extraOf_9 (by decide) (fun c1 => ?_) (fun c1 => ?_)
    · replace h := h.1 c1
      refine lv_aload_n hC.1 hC.2.1 dX7_extraOf_41 rfl (lv_at hl 1 rfl) ?_
      refine ag_i G (ag_runV (As := []) (rest := []) hC hT G (c_X6_quarters l D cy lay h hi1 _) (cwV 0 hC.2.2.2.2 gX7_extraOf_X6_quarters rfl rfl rfl hdV_X6_quarters ⟨Nat.le_of_ble_eq_true rfl, Nat.le_of_ble_eq_true rfl⟩) (ag_recv hT G (k_wd hi1) (e_wd hi1) k_X6) rfl hl.1 rfl (Nat.le_of_ble_eq_true rfl) dX7_extraOf_42 ⟨Nat.le_of_ble_eq_true rfl, Nat.le_of_ble_eq_true rfl⟩) (fun r3 σ2 H locs h G => ?_)
      (try dsimp only at h)
      refine lv_iload_n hC.1 hC.2.1 dX7_extraOf_45 rfl (lv_at hl 2 rfl) ?_
      refine lv_imul hC.1 hC.2.1 dX7_extraOf_46 ?_
      refine lv_iconst (v := 4) hC.1 hC.2.1 dX7_extraOf_47 (by decide) ?_
      refine lv_idiv hC.1 hC.2.1 dX7_extraOf_48 (by decide) ?_
      exact ag_iret hC hr hlocks G h dX7_extraOf_49
    · replace h := h.2 c1
      refine lv_aload_n hC.1 hC.2.1 dX7_extraOf_12 rfl (lv_at hl 1 rfl) ?_
      refine ag_get hC hT G (k_wd hi1) (e_wd hi1) k_X6 i_X7_extraOf_X6 8 (by decide) (wm 2 rfl) rfl dX7_extraOf_13 ?_
      refine lv_iload_n hC.1 hC.2.1 dX7_extraOf_16 rfl (lv_at hl 3 rfl) ?_
      refine ag_i G (ag_runS (As := [.int (σ (73 + i1) 8), .int v3]) (rest := []) hC hT G (c_X7_has l D cy lay h _) (va_cwS 2 hC.2.2.2.2 gX7_extraOf_X7_has rfl rfl rfl hdS_X7_has ⟨Nat.le_of_ble_eq_true rfl, Nat.le_of_ble_eq_true rfl⟩) rfl hl.1 rfl (Nat.le_of_ble_eq_true rfl) dX7_extraOf_17 ⟨Nat.le_of_ble_eq_true rfl, Nat.le_of_ble_eq_true rfl⟩) (fun r5 σ4 H locs h G => ?_)
      (try dsimp only at h)
      refine lv_if_eq (tgt := 35) hC.1 hC.2.1 dX7_extraOf_20 (by decide) (fun c6 => ?_) (fun c6 => ?_)
      · replace h := h.1 c6
        refine lv_iinc (v := v3 + 1) (lv' := [(3, .int (v3 + 1)), (0, .ref (lay 0)), (1, .ref (lay (73 + i1))), (2, .int v2)]) hC.1 hC.2.1 dX7_extraOf_35 hl (k := 3) rfl rfl (by decide) rfl (fun ls hl => ?_)
        refine lv_goto (tgt := 4) hC.1 hC.2.1 dX7_extraOf_38 (by decide) ?_
        exact ih _ _ _ h _ _ _ G (lv_sub hl [1, 2, 3, 0] rfl)
      · replace h := h.2 c6
        refine lv_iload_n hC.1 hC.2.1 dX7_extraOf_23 rfl (lv_at hl 2 rfl) ?_
        refine lv_aload_n hC.1 hC.2.1 dX7_extraOf_24 rfl (lv_at hl 0 rfl) ?_
        refine ag_get hC hT G (by decide) e_ag k_X7 i_X7_extraOf_X7 0 (by decide) (wm 3 rfl) rfl dX7_extraOf_25 ?_
        refine lv_iload_n hC.1 hC.2.1 dX7_extraOf_28 rfl (lv_at hl 3 rfl) ?_
        obtain ⟨hn7, h⟩ := h
        refine ag_aald hC hT G (by decide) _ rfl e_pls hn7 dX7_extraOf_29 ?_
        refine ag_get hC hT G (k_pl (vlt hn7)) (e_pl (vlt hn7)) k_X3 i_X7_extraOf_X3 3 (by decide) (wm 4 rfl) rfl dX7_extraOf_30 ?_
        refine lv_iadd hC.1 hC.2.1 dX7_extraOf_33 ?_
        refine lv_istore_n (lv' := [(2, .int (v2 + (σ4 (29 + (Int32.toNatClampNeg v3)) 3))), (0, .ref (lay 0)), (1, .ref (lay (73 + i1))), (3, .int v3)]) hC.1 hC.2.1 dX7_extraOf_34 rfl hl (by decide) rfl (fun ls hl => ?_)
        refine lv_iinc (v := v3 + 1) (lv' := [(3, .int (v3 + 1)), (2, .int (v2 + (σ4 (29 + (Int32.toNatClampNeg v3)) 3))), (0, .ref (lay 0)), (1, .ref (lay (73 + i1)))]) hC.1 hC.2.1 dX7_extraOf_35 hl (k := 3) rfl rfl (by decide) rfl (fun ls hl => ?_)
        refine lv_goto (tgt := 4) hC.1 hC.2.1 dX7_extraOf_38 (by decide) ?_
        exact ih _ _ _ h _ _ _ G (lv_sub hl [2, 3, 1, 0] rfl)
def w_X7_extraOf (post : Int32 → MS → Prop) (σ : MS) (i1 : Nat) : Prop := (∃ k, u_X7_extraOf_4 post i1 k σ 0 0)
set_option maxHeartbeats 4000000 in
set_option maxRecDepth 100000 in
theorem c_X7_extraOf (l : Launch) (D : va_G) (cy : Nat → ClassId) (lay : Nat → Nat) {σ : MS} {post : Int32 → MS → Prop} {i1 : Nat} (h : w_X7_extraOf post σ i1) (hi1 : i1 < 14) (sz : Nat) : Met l yX7_extraOf wsX7_extraOf rm_X7_extraOf (va_Pc [.ref (lay 0), .ref (lay (73 + i1))] (agI D cy lay σ sz)) (va_Qi post (agO D cy lay) (agA lay sz)) 0 0 (agA lay sz) := by
  refine ag_ofW (cc := cX7_extraOf) (maxL := 4) (ret := some .int) (own := RX7) (Qc := fun sz => va_Qi post (agO D cy lay) (agA lay sz)) (by decide) rfl (Nat.le_of_ble_eq_true rfl) rfl ?_
  intro p e s m args below meth c ls hC hr hlocks hT G hl
  unfold w_X7_extraOf at h
  have hl : lv_has ls 4 [(0, .ref (lay 0)), (1, .ref (lay (73 + i1)))] := hl
  refine lv_iconst (v := 0) hC.1 hC.2.1 dX7_extraOf_0 (by decide) ?_
  refine lv_istore_n (lv' := [(2, .int 0), (0, .ref (lay 0)), (1, .ref (lay (73 + i1)))]) hC.1 hC.2.1 dX7_extraOf_1 rfl hl (by decide) rfl (fun ls hl => ?_)
  refine lv_iconst (v := 0) hC.1 hC.2.1 dX7_extraOf_2 (by decide) ?_
  refine lv_istore_n (lv' := [(3, .int 0), (2, .int 0), (0, .ref (lay 0)), (1, .ref (lay (73 + i1)))]) hC.1 hC.2.1 dX7_extraOf_3 rfl hl (by decide) rfl (fun ls hl => ?_)
  obtain ⟨n1, h⟩ := h
  exact l_X7_extraOf_4 i1 hC hr hlocks hT hi1 n1 _ _ _ h _ _ _ G (lv_sub hl [2, 3, 1, 0] rfl)
theorem hdV_X7_extraOf : yX7_extraOf.cls = RX7 ∧ yX7_extraOf.cls ≠ "java/lang/invoke/MethodHandle" ∧ yX7_extraOf.cls ≠ "java/lang/invoke/VarHandle" ∧ (parseMethodDescriptor yX7_extraOf.desc).map (fun d => d.parameters.length) = some 1 := by decide +kernel
abbrev rm_X7_costAt : Room := { frames := 1, cells := 0, slots := 0, locals := 22 }
theorem i_X7_costAt_X7 : ∀ w ∈ wsX70, w ∈ wsX7_costAt := fun _ h => List.mem_cons_of_mem _ (List.mem_append_left _ (List.mem_append_left _ (List.mem_append_left _ (List.mem_append_right _ h))))
theorem i_X7_costAt_X3 : ∀ w ∈ wsX30, w ∈ wsX7_costAt := fun _ h => List.mem_cons_of_mem _ (List.mem_append_left _ (List.mem_append_left _ (List.mem_append_right _ h)))
theorem i_X7_costAt_X6 : ∀ w ∈ wsX60, w ∈ wsX7_costAt := fun _ h => List.mem_cons_of_mem _ (List.mem_append_left _ (List.mem_append_right _ h))
def w_X7_costAt (post : Int32 → MS → Prop) (σ : MS) (i1 : Nat) (i2 : Nat) : Prop := w_X4_between (fun r2 σ1 => post (((σ1 (29 + i1) 3) * (σ1 (73 + i2) 4)) + (10 * (if 0 < r2 then r2 else 0))) σ1) σ (σ (29 + i1) 2) (σ (73 + i2) 2)
set_option maxHeartbeats 4000000 in
set_option maxRecDepth 100000 in
theorem c_X7_costAt (l : Launch) (D : va_G) (cy : Nat → ClassId) (lay : Nat → Nat) {σ : MS} {post : Int32 → MS → Prop} {i1 : Nat} {i2 : Nat} (h : w_X7_costAt post σ i1 i2) (hi1 : i1 < 10) (hi2 : i2 < 14) (sz : Nat) : Met l yX7_costAt wsX7_costAt rm_X7_costAt (va_Pc [.ref (lay 0), .ref (lay (29 + i1)), .ref (lay (73 + i2))] (agI D cy lay σ sz)) (va_Qi post (agO D cy lay) (agA lay sz)) 0 0 (agA lay sz) := by
  refine ag_ofW (cc := cX7_costAt) (maxL := 4) (ret := some .int) (own := RX7) (Qc := fun sz => va_Qi post (agO D cy lay) (agA lay sz)) (by decide) rfl (Nat.le_of_ble_eq_true rfl) rfl ?_
  intro p e s m args below meth c ls hC hr hlocks hT G hl
  unfold w_X7_costAt at h
  have hl : lv_has ls 4 [(0, .ref (lay 0)), (1, .ref (lay (29 + i1))), (2, .ref (lay (73 + i2)))] := hl
  refine lv_aload_n hC.1 hC.2.1 dX7_costAt_0 rfl (lv_at hl 0 rfl) ?_
  refine ag_get hC hT G (by decide) e_ag k_X7 i_X7_costAt_X7 4 (by decide) (wm 1 rfl) rfl dX7_costAt_1 ?_
  refine lv_aload_n hC.1 hC.2.1 dX7_costAt_4 rfl (lv_at hl 1 rfl) ?_
  refine ag_get hC hT G (k_pl hi1) (e_pl hi1) k_X3 i_X7_costAt_X3 2 (by decide) (wm 2 rfl) rfl dX7_costAt_5 ?_
  refine lv_aload_n hC.1 hC.2.1 dX7_costAt_8 rfl (lv_at hl 2 rfl) ?_
  refine ag_get hC hT G (k_wd hi2) (e_wd hi2) k_X6 i_X7_costAt_X6 2 (by decide) (wm 3 rfl) rfl dX7_costAt_9 ?_
  refine ag_i G (ag_runV (As := [.int (σ (29 + i1) 2), .int (σ (73 + i2) 2)]) (rest := []) hC hT G (c_X4_between l D cy lay h _) (cwV 2 hC.2.2.2.2 gX7_costAt_X4_between rfl rfl rfl hdV_X4_between ⟨Nat.le_of_ble_eq_true rfl, Nat.le_of_ble_eq_true rfl⟩) (ag_recv hT G (by decide) e_rd k_X4) rfl hl.1 rfl (Nat.le_of_ble_eq_true rfl) dX7_costAt_12 ⟨Nat.le_of_ble_eq_true rfl, Nat.le_of_ble_eq_true rfl⟩) (fun r2 σ1 H locs h G => ?_)
  (try dsimp only at h)
  refine lv_istore_n (lv' := [(3, .int r2), (0, .ref (lay 0)), (1, .ref (lay (29 + i1))), (2, .ref (lay (73 + i2)))]) hC.1 hC.2.1 dX7_costAt_15 rfl hl (by decide) rfl (fun ls hl => ?_)
  refine lv_aload_n hC.1 hC.2.1 dX7_costAt_16 rfl (lv_at hl 2 rfl) ?_
  refine ag_get hC hT G (k_pl hi1) (e_pl hi1) k_X3 i_X7_costAt_X3 3 (by decide) (wm 4 rfl) rfl dX7_costAt_17 ?_
  refine lv_aload_n hC.1 hC.2.1 dX7_costAt_20 rfl (lv_at hl 3 rfl) ?_
  refine ag_get hC hT G (k_wd hi2) (e_wd hi2) k_X6 i_X7_costAt_X6 4 (by decide) (wm 5 rfl) rfl dX7_costAt_21 ?_
  refine lv_imul hC.1 hC.2.1 dX7_costAt_24 ?_
  refine lv_bipush (v := 10) hC.1 hC.2.1 dX7_costAt_25 (by decide) ?_
  refine lv_iconst (v := 0) hC.1 hC.2.1 dX7_costAt_27 (by decide) ?_
  refine lv_iload_n hC.1 hC.2.1 dX7_costAt_28 rfl (lv_at hl 0 rfl) ?_
  refine va_mmax hC.1 hC.2.1 (hC.2.2.1.trans hl.1.symm) hC.2.2.2.1 (hC.2.2.2.2 _ (wm 6 rfl)) (hC.2.2.2.2 _ (wm 7 rfl)) (hC.2.2.2.2 _ (wm 8 rfl)) (hC.2.2.2.2 _ (wm 9 rfl)) (Nat.le_of_ble_eq_true rfl) (Nat.le_of_ble_eq_true rfl) (Nat.le_of_ble_eq_true rfl) (Nat.le_of_ble_eq_true rfl) dX7_costAt_29 ?_
  refine lv_imul hC.1 hC.2.1 dX7_costAt_32 ?_
  refine lv_iadd hC.1 hC.2.1 dX7_costAt_33 ?_
  exact ag_iret hC hr hlocks G h dX7_costAt_34
theorem hdV_X7_costAt : yX7_costAt.cls = RX7 ∧ yX7_costAt.cls ≠ "java/lang/invoke/MethodHandle" ∧ yX7_costAt.cls ≠ "java/lang/invoke/VarHandle" ∧ (parseMethodDescriptor yX7_costAt.desc).map (fun d => d.parameters.length) = some 2 := by decide +kernel
abbrev rm_X7_wageAt : Room := { frames := 2, cells := 0, slots := 0, locals := 45 }
theorem i_X7_wageAt_X3 : ∀ w ∈ wsX30, w ∈ wsX7_wageAt := fun _ h => List.mem_cons_of_mem _ (List.mem_append_left _ (List.mem_append_left _ (List.mem_append_left _ (List.mem_append_right _ h))))
def w_X7_wageAt (post : Int32 → MS → Prop) (σ : MS) (i1 : Nat) (i2 : Nat) : Prop := w_X7_costAt (fun r2 σ1 => w_X6_quarters (fun r4 σ3 => post (r2 + ((r4 * (σ3 (29 + i1) 3)) / 4)) σ3) σ1 i2) σ i1 i2
set_option maxHeartbeats 4000000 in
set_option maxRecDepth 100000 in
theorem c_X7_wageAt (l : Launch) (D : va_G) (cy : Nat → ClassId) (lay : Nat → Nat) {σ : MS} {post : Int32 → MS → Prop} {i1 : Nat} {i2 : Nat} (h : w_X7_wageAt post σ i1 i2) (hi1 : i1 < 10) (hi2 : i2 < 14) (sz : Nat) : Met l yX7_wageAt wsX7_wageAt rm_X7_wageAt (va_Pc [.ref (lay 0), .ref (lay (29 + i1)), .ref (lay (73 + i2))] (agI D cy lay σ sz)) (va_Qi post (agO D cy lay) (agA lay sz)) 0 0 (agA lay sz) := by
  refine ag_ofW (cc := cX7_wageAt) (maxL := 3) (ret := some .int) (own := RX7) (Qc := fun sz => va_Qi post (agO D cy lay) (agA lay sz)) (by decide) rfl (Nat.le_of_ble_eq_true rfl) rfl ?_
  intro p e s m args below meth c ls hC hr hlocks hT G hl
  unfold w_X7_wageAt at h
  have hl : lv_has ls 3 [(0, .ref (lay 0)), (1, .ref (lay (29 + i1))), (2, .ref (lay (73 + i2)))] := hl
  refine lv_aload_n hC.1 hC.2.1 dX7_wageAt_0 rfl (lv_at hl 0 rfl) ?_
  refine lv_aload_n hC.1 hC.2.1 dX7_wageAt_1 rfl (lv_at hl 1 rfl) ?_
  refine lv_aload_n hC.1 hC.2.1 dX7_wageAt_2 rfl (lv_at hl 2 rfl) ?_
  refine ag_i G (ag_runV (As := [.ref (lay (29 + i1)), .ref (lay (73 + i2))]) (rest := []) hC hT G (c_X7_costAt l D cy lay h hi1 hi2 _) (cwV 2 hC.2.2.2.2 gX7_wageAt_X7_costAt rfl rfl rfl hdV_X7_costAt ⟨Nat.le_of_ble_eq_true rfl, Nat.le_of_ble_eq_true rfl⟩) (ag_recv hT G (by decide) e_ag k_X7) rfl hl.1 rfl (Nat.le_of_ble_eq_true rfl) dX7_wageAt_3 ⟨Nat.le_of_ble_eq_true rfl, Nat.le_of_ble_eq_true rfl⟩) (fun r2 σ1 H locs h G => ?_)
  (try dsimp only at h)
  refine lv_aload_n hC.1 hC.2.1 dX7_wageAt_6 rfl (lv_at hl 2 rfl) ?_
  refine ag_i G (ag_runV (As := []) (rest := [.int r2]) hC hT G (c_X6_quarters l D cy lay h hi2 _) (cwV 0 hC.2.2.2.2 gX7_wageAt_X6_quarters rfl rfl rfl hdV_X6_quarters ⟨Nat.le_of_ble_eq_true rfl, Nat.le_of_ble_eq_true rfl⟩) (ag_recv hT G (k_wd hi2) (e_wd hi2) k_X6) rfl hl.1 rfl (Nat.le_of_ble_eq_true rfl) dX7_wageAt_7 ⟨Nat.le_of_ble_eq_true rfl, Nat.le_of_ble_eq_true rfl⟩) (fun r4 σ3 H locs h G => ?_)
  (try dsimp only at h)
  refine lv_aload_n hC.1 hC.2.1 dX7_wageAt_10 rfl (lv_at hl 1 rfl) ?_
  refine ag_get hC hT G (k_pl hi1) (e_pl hi1) k_X3 i_X7_wageAt_X3 3 (by decide) (wm 1 rfl) rfl dX7_wageAt_11 ?_
  refine lv_imul hC.1 hC.2.1 dX7_wageAt_14 ?_
  refine lv_iconst (v := 4) hC.1 hC.2.1 dX7_wageAt_15 (by decide) ?_
  refine lv_idiv hC.1 hC.2.1 dX7_wageAt_16 (by decide) ?_
  refine lv_iadd hC.1 hC.2.1 dX7_wageAt_17 ?_
  exact ag_iret hC hr hlocks G h dX7_wageAt_18
theorem hdV_X7_wageAt : yX7_wageAt.cls = RX7 ∧ yX7_wageAt.cls ≠ "java/lang/invoke/MethodHandle" ∧ yX7_wageAt.cls ≠ "java/lang/invoke/VarHandle" ∧ (parseMethodDescriptor yX7_wageAt.desc).map (fun d => d.parameters.length) = some 2 := by decide +kernel
abbrev rm_X7_allWagesAt : Room := { frames := 3, cells := 0, slots := 0, locals := 67 }
theorem i_X7_allWagesAt_X7 : ∀ w ∈ wsX70, w ∈ wsX7_allWagesAt := fun _ h => List.mem_cons_of_mem _ (List.mem_append_left _ (List.mem_append_left _ (List.mem_append_left _ (List.mem_append_right _ h))))
theorem i_X7_allWagesAt_X6 : ∀ w ∈ wsX60, w ∈ wsX7_allWagesAt := fun _ h => List.mem_cons_of_mem _ (List.mem_append_left _ (List.mem_append_left _ (List.mem_append_right _ h)))
def u_X7_allWagesAt_4 (post : Int32 → MS → Prop) (i1 : Nat) : Nat → MS → Int32 → Int32 → Prop
  | 0, _, _, _ => False
  | n + 1, σ, v2, v3 => (((σ 0 6) ≤ v3 → post v2 σ) ∧ (¬ (σ 0 6) ≤ v3 → w_X7_has (fun r3 σ2 => ((r3 = 0 → u_X7_allWagesAt_4 post i1 n σ2 v2 (v3 + 1)) ∧ (¬ r3 = 0 → (vp_in v3 10 ∧ w_X7_wageAt (fun r7 σ6 => u_X7_allWagesAt_4 post i1 n σ6 (v2 + r7) (v3 + 1)) σ2 (Int32.toNatClampNeg v3) i1)))) σ (σ (73 + i1) 8) v3))
set_option maxHeartbeats 4000000 in
set_option maxRecDepth 100000 in
theorem l_X7_allWagesAt_4 {p : Program} {l : Launch} {e : Env} {s : State} {m : MethodId} {args : Array Value} {below : List Frame} {meth : Method} {c : Code} {D : va_G} {cy : Nat → ClassId} {lay : Nat → Nat} {post : Int32 → MS → Prop} (i1 : Nat) (hC : CallFix p m c cX7_allWagesAt 4 s args wsX7_allWagesAt RX7) (hr : meth.sig.returnType = some .int) (hlocks : meth.locks = false) (hT : agT D cy lay s) (hi1 : i1 < 14) : ∀ (n : Nat), ∀ (σ : MS) (v2 : Int32) (v3 : Int32), u_X7_allWagesAt_4 post i1 n σ v2 v3 → ∀ (H : Heap) (locs : List Loc) (ls : Array Slot), agG D cy lay σ (agA lay s.heap.size) s.heap H locs → lv_has ls 4 [(0, .ref (lay 0)), (1, .ref (lay (73 + i1))), (2, .int v2), (3, .int v3)] → W p l e rm_X7_allWagesAt s m args below meth c H locs 0 0 (MQ below (va_Qi post (agO D cy lay) (agA lay s.heap.size)) args s 0 0 (agA lay s.heap.size)) (F0 m 4 ls []) := by
  intro n
  induction n with
  | zero =>
    intro σ v2 v3 h
    exact h.elim
  | succ n ih =>
    intro σ v2 v3 h H locs ls G hl
    rw [u_X7_allWagesAt_4] at h
    refine lv_iload_n hC.1 hC.2.1 dX7_allWagesAt_4 rfl (lv_at hl 3 rfl) ?_
    refine lv_aload_n hC.1 hC.2.1 dX7_allWagesAt_5 rfl (lv_at hl 0 rfl) ?_
    refine ag_get hC hT G (by decide) e_ag k_X7 i_X7_allWagesAt_X7 6 (by decide) (wm 1 rfl) rfl dX7_allWagesAt_6 ?_
    refine lv_icmp_ge (tgt := 43) hC.1 hC.2.1 dX7_allWagesAt_9 (by decide) (fun c1 => ?_) (fun c1 => ?_)
    · replace h := h.1 c1
      refine lv_iload_n hC.1 hC.2.1 dX7_allWagesAt_43 rfl (lv_at hl 2 rfl) ?_
      exact ag_iret hC hr hlocks G h dX7_allWagesAt_44
    · replace h := h.2 c1
      refine lv_aload_n hC.1 hC.2.1 dX7_allWagesAt_12 rfl (lv_at hl 1 rfl) ?_
      refine ag_get hC hT G (k_wd hi1) (e_wd hi1) k_X6 i_X7_allWagesAt_X6 8 (by decide) (wm 2 rfl) rfl dX7_allWagesAt_13 ?_
      refine lv_iload_n hC.1 hC.2.1 dX7_allWagesAt_16 rfl (lv_at hl 3 rfl) ?_
      refine ag_i G (ag_runS (As := [.int (σ (73 + i1) 8), .int v3]) (rest := []) hC hT G (c_X7_has l D cy lay h _) (va_cwS 2 hC.2.2.2.2 gX7_allWagesAt_X7_has rfl rfl rfl hdS_X7_has ⟨Nat.le_of_ble_eq_true rfl, Nat.le_of_ble_eq_true rfl⟩) rfl hl.1 rfl (Nat.le_of_ble_eq_true rfl) dX7_allWagesAt_17 ⟨Nat.le_of_ble_eq_true rfl, Nat.le_of_ble_eq_true rfl⟩) (fun r3 σ2 H locs h G => ?_)
      (try dsimp only at h)
      refine lv_if_eq (tgt := 37) hC.1 hC.2.1 dX7_allWagesAt_20 (by decide) (fun c4 => ?_) (fun c4 => ?_)
      · replace h := h.1 c4
        refine lv_iinc (v := v3 + 1) (lv' := [(3, .int (v3 + 1)), (0, .ref (lay 0)), (1, .ref (lay (73 + i1))), (2, .int v2)]) hC.1 hC.2.1 dX7_allWagesAt_37 hl (k := 3) rfl rfl (by decide) rfl (fun ls hl => ?_)
        refine lv_goto (tgt := 4) hC.1 hC.2.1 dX7_allWagesAt_40 (by decide) ?_
        exact ih _ _ _ h _ _ _ G (lv_sub hl [1, 2, 3, 0] rfl)
      · replace h := h.2 c4
        refine lv_iload_n hC.1 hC.2.1 dX7_allWagesAt_23 rfl (lv_at hl 2 rfl) ?_
        refine lv_aload_n hC.1 hC.2.1 dX7_allWagesAt_24 rfl (lv_at hl 0 rfl) ?_
        refine lv_aload_n hC.1 hC.2.1 dX7_allWagesAt_25 rfl (lv_at hl 0 rfl) ?_
        refine ag_get hC hT G (by decide) e_ag k_X7 i_X7_allWagesAt_X7 0 (by decide) (wm 3 rfl) rfl dX7_allWagesAt_26 ?_
        refine lv_iload_n hC.1 hC.2.1 dX7_allWagesAt_29 rfl (lv_at hl 3 rfl) ?_
        obtain ⟨hn5, h⟩ := h
        refine ag_aald hC hT G (by decide) _ rfl e_pls hn5 dX7_allWagesAt_30 ?_
        refine lv_aload_n hC.1 hC.2.1 dX7_allWagesAt_31 rfl (lv_at hl 1 rfl) ?_
        refine ag_i G (ag_runV (As := [.ref (lay (29 + (Int32.toNatClampNeg v3))), .ref (lay (73 + i1))]) (rest := [.int v2]) hC hT G (c_X7_wageAt l D cy lay h (vlt hn5) hi1 _) (cwV 2 hC.2.2.2.2 gX7_allWagesAt_X7_wageAt rfl rfl rfl hdV_X7_wageAt ⟨Nat.le_of_ble_eq_true rfl, Nat.le_of_ble_eq_true rfl⟩) (ag_recv hT G (by decide) e_ag k_X7) rfl hl.1 rfl (Nat.le_of_ble_eq_true rfl) dX7_allWagesAt_32 ⟨Nat.le_of_ble_eq_true rfl, Nat.le_of_ble_eq_true rfl⟩) (fun r7 σ6 H locs h G => ?_)
        (try dsimp only at h)
        refine lv_iadd hC.1 hC.2.1 dX7_allWagesAt_35 ?_
        refine lv_istore_n (lv' := [(2, .int (v2 + r7)), (0, .ref (lay 0)), (1, .ref (lay (73 + i1))), (3, .int v3)]) hC.1 hC.2.1 dX7_allWagesAt_36 rfl hl (by decide) rfl (fun ls hl => ?_)
        refine lv_iinc (v := v3 + 1) (lv' := [(3, .int (v3 + 1)), (2, .int (v2 + r7)), (0, .ref (lay 0)), (1, .ref (lay (73 + i1)))]) hC.1 hC.2.1 dX7_allWagesAt_37 hl (k := 3) rfl rfl (by decide) rfl (fun ls hl => ?_)
        refine lv_goto (tgt := 4) hC.1 hC.2.1 dX7_allWagesAt_40 (by decide) ?_
        exact ih _ _ _ h _ _ _ G (lv_sub hl [2, 3, 1, 0] rfl)
def w_X7_allWagesAt (post : Int32 → MS → Prop) (σ : MS) (i1 : Nat) : Prop := (∃ k, u_X7_allWagesAt_4 post i1 k σ 0 0)
set_option maxHeartbeats 4000000 in
set_option maxRecDepth 100000 in
theorem c_X7_allWagesAt (l : Launch) (D : va_G) (cy : Nat → ClassId) (lay : Nat → Nat) {σ : MS} {post : Int32 → MS → Prop} {i1 : Nat} (h : w_X7_allWagesAt post σ i1) (hi1 : i1 < 14) (sz : Nat) : Met l yX7_allWagesAt wsX7_allWagesAt rm_X7_allWagesAt (va_Pc [.ref (lay 0), .ref (lay (73 + i1))] (agI D cy lay σ sz)) (va_Qi post (agO D cy lay) (agA lay sz)) 0 0 (agA lay sz) := by
  refine ag_ofW (cc := cX7_allWagesAt) (maxL := 4) (ret := some .int) (own := RX7) (Qc := fun sz => va_Qi post (agO D cy lay) (agA lay sz)) (by decide) rfl (Nat.le_of_ble_eq_true rfl) rfl ?_
  intro p e s m args below meth c ls hC hr hlocks hT G hl
  unfold w_X7_allWagesAt at h
  have hl : lv_has ls 4 [(0, .ref (lay 0)), (1, .ref (lay (73 + i1)))] := hl
  refine lv_iconst (v := 0) hC.1 hC.2.1 dX7_allWagesAt_0 (by decide) ?_
  refine lv_istore_n (lv' := [(2, .int 0), (0, .ref (lay 0)), (1, .ref (lay (73 + i1)))]) hC.1 hC.2.1 dX7_allWagesAt_1 rfl hl (by decide) rfl (fun ls hl => ?_)
  refine lv_iconst (v := 0) hC.1 hC.2.1 dX7_allWagesAt_2 (by decide) ?_
  refine lv_istore_n (lv' := [(3, .int 0), (2, .int 0), (0, .ref (lay 0)), (1, .ref (lay (73 + i1)))]) hC.1 hC.2.1 dX7_allWagesAt_3 rfl hl (by decide) rfl (fun ls hl => ?_)
  obtain ⟨n1, h⟩ := h
  exact l_X7_allWagesAt_4 i1 hC hr hlocks hT hi1 n1 _ _ _ h _ _ _ G (lv_sub hl [2, 3, 1, 0] rfl)
theorem hdV_X7_allWagesAt : yX7_allWagesAt.cls = RX7 ∧ yX7_allWagesAt.cls ≠ "java/lang/invoke/MethodHandle" ∧ yX7_allWagesAt.cls ≠ "java/lang/invoke/VarHandle" ∧ (parseMethodDescriptor yX7_allWagesAt.desc).map (fun d => d.parameters.length) = some 1 := by decide +kernel
abbrev rm_X7_stageAsFixed : Room := { frames := 0, cells := 0, slots := 0, locals := 0 }
theorem i_X7_stageAsFixed_X7 : ∀ w ∈ wsX70, w ∈ wsX7_stageAsFixed := fun _ h => List.mem_cons_of_mem _ (List.mem_append_left _ (List.mem_append_right _ h))
theorem i_X7_stageAsFixed_X6 : ∀ w ∈ wsX60, w ∈ wsX7_stageAsFixed := fun _ h => List.mem_cons_of_mem _ (List.mem_append_right _ h)
def u_X7_stageAsFixed_2 (post : MS → Prop) : Nat → MS → Int32 → Prop
  | 0, _, _ => False
  | n + 1, σ, v1 => (((σ 0 8) ≤ v1 → post σ) ∧ (¬ (σ 0 8) ≤ v1 → (vp_in v1 14 ∧ (((σ (73 + (Int32.toNatClampNeg v1)) 7) = 1 → (vp_in v1 14 ∧ (vp_in v1 14 ∧ u_X7_stageAsFixed_2 post n (up2 σ 7 (Int32.toNatClampNeg v1) (σ (73 + (Int32.toNatClampNeg v1)) 8)) (v1 + 1)))) ∧ (¬ (σ (73 + (Int32.toNatClampNeg v1)) 7) = 1 → (vp_in v1 14 ∧ u_X7_stageAsFixed_2 post n (up2 σ 7 (Int32.toNatClampNeg v1) 0) (v1 + 1)))))))
set_option maxHeartbeats 4000000 in
set_option maxRecDepth 100000 in
theorem l_X7_stageAsFixed_2 {p : Program} {l : Launch} {e : Env} {s : State} {m : MethodId} {args : Array Value} {below : List Frame} {meth : Method} {c : Code} {D : va_G} {cy : Nat → ClassId} {lay : Nat → Nat} {post : MS → Prop} (hC : CallFix p m c cX7_stageAsFixed 2 s args wsX7_stageAsFixed RX7) (hr : meth.sig.returnType = none) (hlocks : meth.locks = false) (hT : agT D cy lay s) : ∀ (n : Nat), ∀ (σ : MS) (v1 : Int32), u_X7_stageAsFixed_2 post n σ v1 → ∀ (H : Heap) (locs : List Loc) (ls : Array Slot), agG D cy lay σ (agA lay s.heap.size) s.heap H locs → lv_has ls 2 [(0, .ref (lay 0)), (1, .int v1)] → W p l e rm_X7_stageAsFixed s m args below meth c H locs 0 0 (MQ below (va_Qv post (agO D cy lay) (agA lay s.heap.size)) args s 0 0 (agA lay s.heap.size)) (F0 m 2 ls []) := by
  intro n
  induction n with
  | zero =>
    intro σ v1 h
    exact h.elim
  | succ n ih =>
    intro σ v1 h H locs ls G hl
    rw [u_X7_stageAsFixed_2] at h
    refine lv_iload_n hC.1 hC.2.1 dX7_stageAsFixed_2 rfl (lv_at hl 1 rfl) ?_
    refine lv_aload_n hC.1 hC.2.1 dX7_stageAsFixed_3 rfl (lv_at hl 0 rfl) ?_
    refine ag_get hC hT G (by decide) e_ag k_X7 i_X7_stageAsFixed_X7 8 (by decide) (wm 1 rfl) rfl dX7_stageAsFixed_4 ?_
    refine lv_icmp_ge (tgt := 48) hC.1 hC.2.1 dX7_stageAsFixed_7 (by decide) (fun c1 => ?_) (fun c1 => ?_)
    · replace h := h.1 c1
      exact ag_vret hC hr hlocks G h dX7_stageAsFixed_48
    · replace h := h.2 c1
      refine lv_aload_n hC.1 hC.2.1 dX7_stageAsFixed_10 rfl (lv_at hl 0 rfl) ?_
      refine ag_get hC hT G (by decide) e_ag k_X7 i_X7_stageAsFixed_X7 11 (by decide) (wm 2 rfl) rfl dX7_stageAsFixed_11 ?_
      refine lv_iload_n hC.1 hC.2.1 dX7_stageAsFixed_14 rfl (lv_at hl 1 rfl) ?_
      refine lv_aload_n hC.1 hC.2.1 dX7_stageAsFixed_15 rfl (lv_at hl 0 rfl) ?_
      refine ag_get hC hT G (by decide) e_ag k_X7 i_X7_stageAsFixed_X7 3 (by decide) (wm 3 rfl) rfl dX7_stageAsFixed_16 ?_
      refine lv_iload_n hC.1 hC.2.1 dX7_stageAsFixed_19 rfl (lv_at hl 1 rfl) ?_
      obtain ⟨hn2, h⟩ := h
      refine ag_aald hC hT G (by decide) _ rfl e_wds hn2 dX7_stageAsFixed_20 ?_
      refine ag_get hC hT G (k_wd (vlt hn2)) (e_wd (vlt hn2)) k_X6 i_X7_stageAsFixed_X6 7 (by decide) (wm 4 rfl) rfl dX7_stageAsFixed_21 ?_
      refine lv_iconst (v := 1) hC.1 hC.2.1 dX7_stageAsFixed_24 (by decide) ?_
      refine lv_icmp_ne (tgt := 40) hC.1 hC.2.1 dX7_stageAsFixed_25 (by decide) (fun c3 => ?_) (fun c3 => ?_)
      · replace h := h.2 c3
        refine lv_iconst (v := 0) hC.1 hC.2.1 dX7_stageAsFixed_40 (by decide) ?_
        obtain ⟨hn4, h⟩ := h
        refine ag_iast hC hT G (by decide) (fun _ => e_stg) hn4 dX7_stageAsFixed_41 (fun H locs G => ?_)
        refine lv_iinc (v := v1 + 1) (lv' := [(1, .int (v1 + 1)), (0, .ref (lay 0))]) hC.1 hC.2.1 dX7_stageAsFixed_42 hl (k := 1) rfl rfl (by decide) rfl (fun ls hl => ?_)
        refine lv_goto (tgt := 2) hC.1 hC.2.1 dX7_stageAsFixed_45 (by decide) ?_
        exact ih _ _ h _ _ _ G (lv_sub hl [1, 0] rfl)
      · replace h := h.1 c3
        refine lv_aload_n hC.1 hC.2.1 dX7_stageAsFixed_28 rfl (lv_at hl 0 rfl) ?_
        refine ag_get hC hT G (by decide) e_ag k_X7 i_X7_stageAsFixed_X7 3 (by decide) (wm 3 rfl) rfl dX7_stageAsFixed_29 ?_
        refine lv_iload_n hC.1 hC.2.1 dX7_stageAsFixed_32 rfl (lv_at hl 1 rfl) ?_
        obtain ⟨hn5, h⟩ := h
        refine ag_aald hC hT G (by decide) _ rfl e_wds hn5 dX7_stageAsFixed_33 ?_
        refine ag_get hC hT G (k_wd (vlt hn5)) (e_wd (vlt hn5)) k_X6 i_X7_stageAsFixed_X6 8 (by decide) (wm 5 rfl) rfl dX7_stageAsFixed_34 ?_
        refine lv_goto (tgt := 41) hC.1 hC.2.1 dX7_stageAsFixed_37 (by decide) ?_
        obtain ⟨hn6, h⟩ := h
        refine ag_iast hC hT G (by decide) (fun _ => e_stg) hn6 dX7_stageAsFixed_41 (fun H locs G => ?_)
        refine lv_iinc (v := v1 + 1) (lv' := [(1, .int (v1 + 1)), (0, .ref (lay 0))]) hC.1 hC.2.1 dX7_stageAsFixed_42 hl (k := 1) rfl rfl (by decide) rfl (fun ls hl => ?_)
        refine lv_goto (tgt := 2) hC.1 hC.2.1 dX7_stageAsFixed_45 (by decide) ?_
        exact ih _ _ h _ _ _ G (lv_sub hl [1, 0] rfl)
def w_X7_stageAsFixed (post : MS → Prop) (σ : MS) : Prop := (∃ k, u_X7_stageAsFixed_2 post k σ 0)
set_option maxHeartbeats 4000000 in
set_option maxRecDepth 100000 in
theorem c_X7_stageAsFixed (l : Launch) (D : va_G) (cy : Nat → ClassId) (lay : Nat → Nat) {σ : MS} {post : MS → Prop} (h : w_X7_stageAsFixed post σ) (sz : Nat) : Met l yX7_stageAsFixed wsX7_stageAsFixed rm_X7_stageAsFixed (va_Pc [.ref (lay 0)] (agI D cy lay σ sz)) (va_Qv post (agO D cy lay) (agA lay sz)) 0 0 (agA lay sz) := by
  refine ag_ofW (cc := cX7_stageAsFixed) (maxL := 2) (ret := none) (own := RX7) (Qc := fun sz => va_Qv post (agO D cy lay) (agA lay sz)) (by decide) rfl (Nat.le_of_ble_eq_true rfl) rfl ?_
  intro p e s m args below meth c ls hC hr hlocks hT G hl
  unfold w_X7_stageAsFixed at h
  have hl : lv_has ls 2 [(0, .ref (lay 0))] := hl
  refine lv_iconst (v := 0) hC.1 hC.2.1 dX7_stageAsFixed_0 (by decide) ?_
  refine lv_istore_n (lv' := [(1, .int 0), (0, .ref (lay 0))]) hC.1 hC.2.1 dX7_stageAsFixed_1 rfl hl (by decide) rfl (fun ls hl => ?_)
  obtain ⟨n1, h⟩ := h
  exact l_X7_stageAsFixed_2 hC hr hlocks hT n1 _ _ h _ _ _ G (lv_sub hl [1, 0] rfl)
theorem hdV_X7_stageAsFixed : yX7_stageAsFixed.cls = RX7 ∧ yX7_stageAsFixed.cls ≠ "java/lang/invoke/MethodHandle" ∧ yX7_stageAsFixed.cls ≠ "java/lang/invoke/VarHandle" ∧ (parseMethodDescriptor yX7_stageAsFixed.desc).map (fun d => d.parameters.length) = some 0 := by decide +kernel
abbrev rm_X7_leaveTime : Room := { frames := 1, cells := 0, slots := 0, locals := 22 }
theorem i_X7_leaveTime_X7 : ∀ w ∈ wsX70, w ∈ wsX7_leaveTime := fun _ h => List.mem_cons_of_mem _ (List.mem_append_left _ (List.mem_append_left _ (List.mem_append_right _ h)))
theorem i_X7_leaveTime_X6 : ∀ w ∈ wsX60, w ∈ wsX7_leaveTime := fun _ h => List.mem_cons_of_mem _ (List.mem_append_left _ (List.mem_append_right _ h))
def u_X7_leaveTime_56 (post : Int32 → MS → Prop) (a1 : Int32) (a2 : Int32) (σ : MS) (v4 : Nat) (t0 : Int32) : Prop := (vp_in t0 14 ∧ w_X4_between (fun r9 σ8 => ((r9 = (-1) → post 0 σ8) ∧ (¬ r9 = (-1) → (((σ8 (73 + (Int32.toNatClampNeg t0)) 3) < (((σ8 (73 + v4) 3) + (σ8 (73 + v4) 4)) + r9) → post 0 σ8) ∧ (¬ (σ8 (73 + (Int32.toNatClampNeg t0)) 3) < (((σ8 (73 + v4) 3) + (σ8 (73 + v4) 4)) + r9) → post 1 σ8))))) σ (σ (73 + v4) 2) (σ (73 + (Int32.toNatClampNeg t0)) 2))
set_option maxHeartbeats 4000000 in
set_option maxRecDepth 100000 in
theorem l_X7_leaveTime_56 {p : Program} {l : Launch} {e : Env} {s : State} {m : MethodId} {args : Array Value} {below : List Frame} {meth : Method} {c : Code} {D : va_G} {cy : Nat → ClassId} {lay : Nat → Nat} {post : Int32 → MS → Prop} (a1 : Int32) (a2 : Int32) (hC : CallFix p m c cX7_leaveTime 7 s args wsX7_leaveTime RX7) (hr : meth.sig.returnType = some .boolean) (hlocks : meth.locks = false) (hT : agT D cy lay s) : ∀ (σ : MS) (v4 : Nat) (t0 : Int32), u_X7_leaveTime_56 post a1 a2 σ v4 t0 → ∀ (hv4 : v4 < 14), ∀ (H : Heap) (locs : List Loc) (ls : Array Slot), agG D cy lay σ (agA lay s.heap.size) s.heap H locs → lv_has ls 7 [(0, .ref (lay 0)), (1, .int a1), (2, .int a2), (4, .ref (lay (73 + v4)))] → W p l e rm_X7_leaveTime s m args below meth c H locs 0 0 (MQ below (va_Qi post (agO D cy lay) (agA lay s.heap.size)) args s 0 0 (agA lay s.heap.size)) (F0 m 56 ls [.int t0, .ref (lay 4)]) := by
  intro σ v4 t0 h hv4 H locs ls G hl
  unfold u_X7_leaveTime_56 at h
  obtain ⟨hn7, h⟩ := h
  refine ag_aald hC hT G (by decide) _ rfl e_wds hn7 dX7_leaveTime_56 ?_
  refine lv_astore (lv' := [(5, .ref (lay (73 + (Int32.toNatClampNeg t0)))), (0, .ref (lay 0)), (1, .int a1), (2, .int a2), (4, .ref (lay (73 + v4)))]) hC.1 hC.2.1 dX7_leaveTime_57 hl (by decide) rfl (fun ls hl => ?_)
  refine lv_aload_n hC.1 hC.2.1 dX7_leaveTime_59 rfl (lv_at hl 1 rfl) ?_
  refine ag_get hC hT G (by decide) e_ag k_X7 i_X7_leaveTime_X7 4 (by decide) (wm 3 rfl) rfl dX7_leaveTime_60 ?_
  refine lv_aload hC.1 hC.2.1 dX7_leaveTime_63 (lv_at hl 4 rfl) ?_
  refine ag_get hC hT G (k_wd hv4) (e_wd hv4) k_X6 i_X7_leaveTime_X6 2 (by decide) (wm 4 rfl) rfl dX7_leaveTime_65 ?_
  refine lv_aload hC.1 hC.2.1 dX7_leaveTime_68 (lv_at hl 0 rfl) ?_
  refine ag_get hC hT G (k_wd (vlt hn7)) (e_wd (vlt hn7)) k_X6 i_X7_leaveTime_X6 2 (by decide) (wm 4 rfl) rfl dX7_leaveTime_70 ?_
  refine ag_i G (ag_runV (As := [.int (σ (73 + v4) 2), .int (σ (73 + (Int32.toNatClampNeg t0)) 2)]) (rest := []) hC hT G (c_X4_between l D cy lay h _) (cwV 2 hC.2.2.2.2 gX7_leaveTime_X4_between rfl rfl rfl hdV_X4_between ⟨Nat.le_of_ble_eq_true rfl, Nat.le_of_ble_eq_true rfl⟩) (ag_recv hT G (by decide) e_rd k_X4) rfl hl.1 rfl (Nat.le_of_ble_eq_true rfl) dX7_leaveTime_73 ⟨Nat.le_of_ble_eq_true rfl, Nat.le_of_ble_eq_true rfl⟩) (fun r9 σ8 H locs h G => ?_)
  (try dsimp only at h)
  refine lv_istore (lv' := [(6, .int r9), (5, .ref (lay (73 + (Int32.toNatClampNeg t0)))), (0, .ref (lay 0)), (1, .int a1), (2, .int a2), (4, .ref (lay (73 + v4)))]) hC.1 hC.2.1 dX7_leaveTime_76 hl (by decide) rfl (fun ls hl => ?_)
  refine lv_iload hC.1 hC.2.1 dX7_leaveTime_78 (lv_at hl 0 rfl) ?_
  refine lv_iconst (v := (-1)) hC.1 hC.2.1 dX7_leaveTime_80 (by decide) ?_
  refine lv_icmp_eq (tgt := 110) hC.1 hC.2.1 dX7_leaveTime_81 (by decide) (fun c10 => ?_) (fun c10 => ?_)
  · replace h := h.1 c10
    refine lv_iconst (v := 0) hC.1 hC.2.1 dX7_leaveTime_110 (by decide) ?_
    exact ag_zret hC hr hlocks G rfl h dX7_leaveTime_111
  · replace h := h.2 c10
    refine lv_aload hC.1 hC.2.1 dX7_leaveTime_84 (lv_at hl 5 rfl) ?_
    refine ag_get hC hT G (k_wd hv4) (e_wd hv4) k_X6 i_X7_leaveTime_X6 3 (by decide) (wm 2 rfl) rfl dX7_leaveTime_86 ?_
    refine lv_aload hC.1 hC.2.1 dX7_leaveTime_89 (lv_at hl 5 rfl) ?_
    refine ag_get hC hT G (k_wd hv4) (e_wd hv4) k_X6 i_X7_leaveTime_X6 4 (by decide) (wm 5 rfl) rfl dX7_leaveTime_91 ?_
    refine lv_iadd hC.1 hC.2.1 dX7_leaveTime_94 ?_
    refine lv_iload hC.1 hC.2.1 dX7_leaveTime_95 (lv_at hl 0 rfl) ?_
    refine lv_iadd hC.1 hC.2.1 dX7_leaveTime_97 ?_
    refine lv_aload hC.1 hC.2.1 dX7_leaveTime_98 (lv_at hl 1 rfl) ?_
    refine ag_get hC hT G (k_wd (vlt hn7)) (e_wd (vlt hn7)) k_X6 i_X7_leaveTime_X6 3 (by decide) (wm 2 rfl) rfl dX7_leaveTime_100 ?_
    refine lv_icmp_gt (tgt := 110) hC.1 hC.2.1 dX7_leaveTime_103 (by decide) (fun c11 => ?_) (fun c11 => ?_)
    · replace h := h.1 c11
      refine lv_iconst (v := 0) hC.1 hC.2.1 dX7_leaveTime_110 (by decide) ?_
      exact ag_zret hC hr hlocks G rfl h dX7_leaveTime_111
    · replace h := h.2 c11
      refine lv_iconst (v := 1) hC.1 hC.2.1 dX7_leaveTime_106 (by decide) ?_
      refine lv_goto (tgt := 111) hC.1 hC.2.1 dX7_leaveTime_107 (by decide) ?_
      exact ag_zret hC hr hlocks G rfl h dX7_leaveTime_111
def u_X7_leaveTime_40 (post : Int32 → MS → Prop) (a1 : Int32) (a2 : Int32) (σ : MS) (v3 : Int32) (t0 : Int32) : Prop := (vp_in t0 14 ∧ ((v3 = 0 → u_X7_leaveTime_56 post a1 a2 σ (Int32.toNatClampNeg t0) a2) ∧ (¬ v3 = 0 → u_X7_leaveTime_56 post a1 a2 σ (Int32.toNatClampNeg t0) a1)))
set_option maxHeartbeats 4000000 in
set_option maxRecDepth 100000 in
theorem l_X7_leaveTime_40 {p : Program} {l : Launch} {e : Env} {s : State} {m : MethodId} {args : Array Value} {below : List Frame} {meth : Method} {c : Code} {D : va_G} {cy : Nat → ClassId} {lay : Nat → Nat} {post : Int32 → MS → Prop} (a1 : Int32) (a2 : Int32) (hC : CallFix p m c cX7_leaveTime 7 s args wsX7_leaveTime RX7) (hr : meth.sig.returnType = some .boolean) (hlocks : meth.locks = false) (hT : agT D cy lay s) : ∀ (σ : MS) (v3 : Int32) (t0 : Int32), u_X7_leaveTime_40 post a1 a2 σ v3 t0 → ∀ (H : Heap) (locs : List Loc) (ls : Array Slot), agG D cy lay σ (agA lay s.heap.size) s.heap H locs → lv_has ls 7 [(0, .ref (lay 0)), (1, .int a1), (2, .int a2), (3, .int v3)] → W p l e rm_X7_leaveTime s m args below meth c H locs 0 0 (MQ below (va_Qi post (agO D cy lay) (agA lay s.heap.size)) args s 0 0 (agA lay s.heap.size)) (F0 m 40 ls [.int t0, .ref (lay 4)]) := by
  intro σ v3 t0 h H locs ls G hl
  unfold u_X7_leaveTime_40 at h
  obtain ⟨hn5, h⟩ := h
  refine ag_aald hC hT G (by decide) _ rfl e_wds hn5 dX7_leaveTime_40 ?_
  refine lv_astore (lv' := [(4, .ref (lay (73 + (Int32.toNatClampNeg t0)))), (0, .ref (lay 0)), (1, .int a1), (2, .int a2), (3, .int v3)]) hC.1 hC.2.1 dX7_leaveTime_41 hl (by decide) rfl (fun ls hl => ?_)
  refine lv_aload_n hC.1 hC.2.1 dX7_leaveTime_43 rfl (lv_at hl 1 rfl) ?_
  refine ag_get hC hT G (by decide) e_ag k_X7 i_X7_leaveTime_X7 3 (by decide) (wm 1 rfl) rfl dX7_leaveTime_44 ?_
  refine lv_iload_n hC.1 hC.2.1 dX7_leaveTime_47 rfl (lv_at hl 4 rfl) ?_
  refine lv_if_eq (tgt := 55) hC.1 hC.2.1 dX7_leaveTime_48 (by decide) (fun c6 => ?_) (fun c6 => ?_)
  · replace h := h.1 c6
    refine lv_iload_n hC.1 hC.2.1 dX7_leaveTime_55 rfl (lv_at hl 3 rfl) ?_
    exact l_X7_leaveTime_56 a1 a2 hC hr hlocks hT _ _ _ h (vlt hn5) _ _ _ G (lv_sub hl [1, 2, 3, 0] rfl)
  · replace h := h.2 c6
    refine lv_iload_n hC.1 hC.2.1 dX7_leaveTime_51 rfl (lv_at hl 2 rfl) ?_
    refine lv_goto (tgt := 56) hC.1 hC.2.1 dX7_leaveTime_52 (by decide) ?_
    exact l_X7_leaveTime_56 a1 a2 hC hr hlocks hT _ _ _ h (vlt hn5) _ _ _ G (lv_sub hl [1, 2, 3, 0] rfl)
def u_X7_leaveTime_26 (post : Int32 → MS → Prop) (a1 : Int32) (a2 : Int32) (σ : MS) (t0 : Int32) : Prop := ((t0 = 0 → u_X7_leaveTime_40 post a1 a2 σ t0 a1) ∧ (¬ t0 = 0 → u_X7_leaveTime_40 post a1 a2 σ t0 a2))
set_option maxHeartbeats 4000000 in
set_option maxRecDepth 100000 in
theorem l_X7_leaveTime_26 {p : Program} {l : Launch} {e : Env} {s : State} {m : MethodId} {args : Array Value} {below : List Frame} {meth : Method} {c : Code} {D : va_G} {cy : Nat → ClassId} {lay : Nat → Nat} {post : Int32 → MS → Prop} (a1 : Int32) (a2 : Int32) (hC : CallFix p m c cX7_leaveTime 7 s args wsX7_leaveTime RX7) (hr : meth.sig.returnType = some .boolean) (hlocks : meth.locks = false) (hT : agT D cy lay s) : ∀ (σ : MS) (t0 : Int32), u_X7_leaveTime_26 post a1 a2 σ t0 → ∀ (H : Heap) (locs : List Loc) (ls : Array Slot), agG D cy lay σ (agA lay s.heap.size) s.heap H locs → lv_has ls 7 [(0, .ref (lay 0)), (1, .int a1), (2, .int a2)] → W p l e rm_X7_leaveTime s m args below meth c H locs 0 0 (MQ below (va_Qi post (agO D cy lay) (agA lay s.heap.size)) args s 0 0 (agA lay s.heap.size)) (F0 m 26 ls [.int t0]) := by
  intro σ t0 h H locs ls G hl
  unfold u_X7_leaveTime_26 at h
  refine lv_istore_n (lv' := [(3, .int t0), (0, .ref (lay 0)), (1, .int a1), (2, .int a2)]) hC.1 hC.2.1 dX7_leaveTime_26 rfl hl (by decide) rfl (fun ls hl => ?_)
  refine lv_aload_n hC.1 hC.2.1 dX7_leaveTime_27 rfl (lv_at hl 1 rfl) ?_
  refine ag_get hC hT G (by decide) e_ag k_X7 i_X7_leaveTime_X7 3 (by decide) (wm 1 rfl) rfl dX7_leaveTime_28 ?_
  refine lv_iload_n hC.1 hC.2.1 dX7_leaveTime_31 rfl (lv_at hl 0 rfl) ?_
  refine lv_if_eq (tgt := 39) hC.1 hC.2.1 dX7_leaveTime_32 (by decide) (fun c4 => ?_) (fun c4 => ?_)
  · replace h := h.1 c4
    refine lv_iload_n hC.1 hC.2.1 dX7_leaveTime_39 rfl (lv_at hl 2 rfl) ?_
    exact l_X7_leaveTime_40 a1 a2 hC hr hlocks hT _ _ _ h _ _ _ G (lv_sub hl [1, 2, 3, 0] rfl)
  · replace h := h.2 c4
    refine lv_iload_n hC.1 hC.2.1 dX7_leaveTime_35 rfl (lv_at hl 3 rfl) ?_
    refine lv_goto (tgt := 40) hC.1 hC.2.1 dX7_leaveTime_36 (by decide) ?_
    exact l_X7_leaveTime_40 a1 a2 hC hr hlocks hT _ _ _ h _ _ _ G (lv_sub hl [1, 2, 3, 0] rfl)
def w_X7_leaveTime (post : Int32 → MS → Prop) (σ : MS) (a1 : Int32) (a2 : Int32) : Prop := (vp_in a2 14 ∧ (vp_in a1 14 ∧ (((σ (73 + (Int32.toNatClampNeg a1)) 3) ≤ (σ (73 + (Int32.toNatClampNeg a2)) 3) → u_X7_leaveTime_26 post a1 a2 σ 0) ∧ (¬ (σ (73 + (Int32.toNatClampNeg a1)) 3) ≤ (σ (73 + (Int32.toNatClampNeg a2)) 3) → u_X7_leaveTime_26 post a1 a2 σ 1))))
set_option maxHeartbeats 4000000 in
set_option maxRecDepth 100000 in
theorem c_X7_leaveTime (l : Launch) (D : va_G) (cy : Nat → ClassId) (lay : Nat → Nat) {σ : MS} {post : Int32 → MS → Prop} {a1 : Int32} {a2 : Int32} (h : w_X7_leaveTime post σ a1 a2) (sz : Nat) : Met l yX7_leaveTime wsX7_leaveTime rm_X7_leaveTime (va_Pc [.ref (lay 0), .int a1, .int a2] (agI D cy lay σ sz)) (va_Qi post (agO D cy lay) (agA lay sz)) 0 0 (agA lay sz) := by
  refine ag_ofW (cc := cX7_leaveTime) (maxL := 7) (ret := some .boolean) (own := RX7) (Qc := fun sz => va_Qi post (agO D cy lay) (agA lay sz)) (by decide) rfl (Nat.le_of_ble_eq_true rfl) rfl ?_
  intro p e s m args below meth c ls hC hr hlocks hT G hl
  unfold w_X7_leaveTime at h
  have hl : lv_has ls 7 [(0, .ref (lay 0)), (1, .int a1), (2, .int a2)] := hl
  refine lv_aload_n hC.1 hC.2.1 dX7_leaveTime_0 rfl (lv_at hl 0 rfl) ?_
  refine ag_get hC hT G (by decide) e_ag k_X7 i_X7_leaveTime_X7 3 (by decide) (wm 1 rfl) rfl dX7_leaveTime_1 ?_
  refine lv_iload_n hC.1 hC.2.1 dX7_leaveTime_4 rfl (lv_at hl 2 rfl) ?_
  obtain ⟨hn1, h⟩ := h
  refine ag_aald hC hT G (by decide) _ rfl e_wds hn1 dX7_leaveTime_5 ?_
  refine ag_get hC hT G (k_wd (vlt hn1)) (e_wd (vlt hn1)) k_X6 i_X7_leaveTime_X6 3 (by decide) (wm 2 rfl) rfl dX7_leaveTime_6 ?_
  refine lv_aload_n hC.1 hC.2.1 dX7_leaveTime_9 rfl (lv_at hl 0 rfl) ?_
  refine ag_get hC hT G (by decide) e_ag k_X7 i_X7_leaveTime_X7 3 (by decide) (wm 1 rfl) rfl dX7_leaveTime_10 ?_
  refine lv_iload_n hC.1 hC.2.1 dX7_leaveTime_13 rfl (lv_at hl 1 rfl) ?_
  obtain ⟨hn2, h⟩ := h
  refine ag_aald hC hT G (by decide) _ rfl e_wds hn2 dX7_leaveTime_14 ?_
  refine ag_get hC hT G (k_wd (vlt hn2)) (e_wd (vlt hn2)) k_X6 i_X7_leaveTime_X6 3 (by decide) (wm 2 rfl) rfl dX7_leaveTime_15 ?_
  refine lv_icmp_ge (tgt := 25) hC.1 hC.2.1 dX7_leaveTime_18 (by decide) (fun c3 => ?_) (fun c3 => ?_)
  · replace h := h.1 c3
    refine lv_iconst (v := 0) hC.1 hC.2.1 dX7_leaveTime_25 (by decide) ?_
    exact l_X7_leaveTime_26 a1 a2 hC hr hlocks hT _ _ h _ _ _ G (lv_sub hl [0, 1, 2] rfl)
  · replace h := h.2 c3
    refine lv_iconst (v := 1) hC.1 hC.2.1 dX7_leaveTime_21 (by decide) ?_
    refine lv_goto (tgt := 26) hC.1 hC.2.1 dX7_leaveTime_22 (by decide) ?_
    exact l_X7_leaveTime_26 a1 a2 hC hr hlocks hT _ _ h _ _ _ G (lv_sub hl [0, 1, 2] rfl)
theorem hdV_X7_leaveTime : yX7_leaveTime.cls = RX7 ∧ yX7_leaveTime.cls ≠ "java/lang/invoke/MethodHandle" ∧ yX7_leaveTime.cls ≠ "java/lang/invoke/VarHandle" ∧ (parseMethodDescriptor yX7_leaveTime.desc).map (fun d => d.parameters.length) = some 2 := by decide +kernel
