abbrev rm_X11_costOf : Room := { frames := 4, cells := 0, slots := 0, locals := 88 }
theorem i_X11_costOf_X11 : ∀ w ∈ wsX110, w ∈ wsX11_costOf := fun _ h => List.mem_cons_of_mem _ (List.mem_append_left _ (List.mem_append_left _ (List.mem_append_left _ (List.mem_append_right _ h))))
def u_X11_costOf_5 (Γ : RG) (post : Int32 → MS → Prop) (a1 : Int32) (i2 : Nat) : Nat → MS → Int32 → Int32 → Prop
  | 0, _, _, _ => False
  | n + 1, σ, v3, v4 => w_lp_Jx4a65c_size_8abf5 Γ (fun r2 σ1 => ((r2 ≤ v4 → post v3 σ1) ∧ (¬ r2 ≤ v4 → w_X11_isIn Γ (fun r5 σ4 => ((r5 = 0 → u_X11_costOf_5 Γ post a1 i2 n σ4 (v3 + 0) (v4 + 1)) ∧ (¬ r5 = 0 → w_X11_cost Γ (fun r8 σ7 => u_X11_costOf_5 Γ post a1 i2 n σ7 (v3 + r8) (v4 + 1)) σ4 v4 i2))) σ1 a1 v4))) σ
set_option maxHeartbeats 4000000 in
set_option maxRecDepth 100000 in
theorem l_X11_costOf_5 {p : Program} {l : Launch} {e : Env} {s : State} {m : MethodId} {args : Array Value} {below : List Frame} {meth : Method} {c : Code} {D : va_G} {cy : Nat → ClassId} {lay : Nat → Nat} {Γ : RG} {post : Int32 → MS → Prop} (a1 : Int32) (i2 : Nat) (hC : CallFix p m c cX11_costOf 5 s args wsX11_costOf RX11) (hr : meth.sig.returnType = some .int) (hlocks : meth.locks = false) (hT : rT D cy lay Γ s) (hi2 : i2 < 14 ∧ i2 < Γ.2.2.1) : ∀ (n : Nat), ∀ (σ : MS) (v3 : Int32) (v4 : Int32), u_X11_costOf_5 Γ post a1 i2 n σ v3 v4 → ∀ (H : Heap) (locs : List Loc) (ls : Array Slot), rG D cy lay Γ tn σ (rA cy lay Γ s.heap.size) s.heap H locs → lv_has ls 5 [(0, .ref (lay 0)), (1, .int a1), (2, .ref (lay (33 + i2))), (3, .int v3), (4, .int v4)] → W p l e rm_X11_costOf s m args below meth c H locs 0 0 (MQ below (va_Qi post (rO D cy lay Γ) (rA cy lay Γ s.heap.size)) args s 0 0 (rA cy lay Γ s.heap.size)) (F0 m 5 ls []) := by
  intro n
  induction n with
  | zero =>
    intro σ v3 v4 h
    exact h.elim
  | succ n ih =>
    intro σ v3 v4 h H locs ls G hl
    rw [u_X11_costOf_5] at h
    refine lv_iload hC.1 hC.2.1 dX11_costOf_5 (lv_at hl 4 rfl) ?_
    refine lv_aload_n hC.1 hC.2.1 dX11_costOf_7 rfl (lv_at hl 0 rfl) ?_
    refine rg_get hC hT G (by decide) r_mo k_X11 i_X11_costOf_X11 3 (by decide) (wm 1 rfl) rfl dX11_costOf_8 ?_
    refine rg_i G (rg_runV (As := []) (rest := [.int v4]) hC hT G (c_lp_Jx4a65c_size_8abf5 l D cy lay Γ h _) (cwV 0 hC.2.2.2.2 gX11_costOf_Jx4a65c_size_8abf5 rfl rfl rfl hdV_Jx4a65c_size_8abf5 ⟨Nat.le_of_ble_eq_true rfl, Nat.le_of_ble_eq_true rfl⟩) (rg_recv hT G (by decide) r_lp k_AL) rfl hl.1 rfl (Nat.le_of_ble_eq_true rfl) dX11_costOf_11 ⟨Nat.le_of_ble_eq_true rfl, Nat.le_of_ble_eq_true rfl⟩) (fun r2 σ1 H locs h G => ?_)
    (try dsimp only at h)
    refine lv_icmp_ge (tgt := 46) hC.1 hC.2.1 dX11_costOf_14 (by decide) (fun c3 => ?_) (fun c3 => ?_)
    · replace h := h.1 c3
      refine lv_iload_n hC.1 hC.2.1 dX11_costOf_46 rfl (lv_at hl 3 rfl) ?_
      exact rg_iret hC hr hlocks G h dX11_costOf_47
    · replace h := h.2 c3
      refine lv_iload_n hC.1 hC.2.1 dX11_costOf_17 rfl (lv_at hl 3 rfl) ?_
      refine lv_iload_n hC.1 hC.2.1 dX11_costOf_18 rfl (lv_at hl 1 rfl) ?_
      refine lv_iload hC.1 hC.2.1 dX11_costOf_19 (lv_at hl 4 rfl) ?_
      refine rg_i G (rg_runS (As := [.int a1, .int v4]) (rest := [.int v3]) hC hT G (c_X11_isIn l D cy lay Γ h _) (va_cwS 2 hC.2.2.2.2 gX11_costOf_X11_isIn rfl rfl rfl hdS_X11_isIn ⟨Nat.le_of_ble_eq_true rfl, Nat.le_of_ble_eq_true rfl⟩) rfl hl.1 rfl (Nat.le_of_ble_eq_true rfl) dX11_costOf_21 ⟨Nat.le_of_ble_eq_true rfl, Nat.le_of_ble_eq_true rfl⟩) (fun r5 σ4 H locs h G => ?_)
      (try dsimp only at h)
      refine lv_if_eq (tgt := 37) hC.1 hC.2.1 dX11_costOf_24 (by decide) (fun c6 => ?_) (fun c6 => ?_)
      · replace h := h.1 c6
        refine lv_iconst (v := 0) hC.1 hC.2.1 dX11_costOf_37 (by decide) ?_
        refine lv_iadd hC.1 hC.2.1 dX11_costOf_38 ?_
        refine lv_istore_n (lv' := [(3, .int (v3 + 0)), (0, .ref (lay 0)), (1, .int a1), (2, .ref (lay (33 + i2))), (4, .int v4)]) hC.1 hC.2.1 dX11_costOf_39 rfl hl (by decide) rfl (fun ls hl => ?_)
        refine lv_iinc (v := v4 + 1) (lv' := [(4, .int (v4 + 1)), (3, .int (v3 + 0)), (0, .ref (lay 0)), (1, .int a1), (2, .ref (lay (33 + i2)))]) hC.1 hC.2.1 dX11_costOf_40 hl (k := 4) rfl rfl (by decide) rfl (fun ls hl => ?_)
        refine lv_goto (tgt := 5) hC.1 hC.2.1 dX11_costOf_43 (by decide) ?_
        exact ih _ _ _ h _ _ _ G (lv_sub hl [2, 3, 4, 1, 0] rfl)
      · replace h := h.2 c6
        refine lv_aload_n hC.1 hC.2.1 dX11_costOf_27 rfl (lv_at hl 0 rfl) ?_
        refine lv_iload hC.1 hC.2.1 dX11_costOf_28 (lv_at hl 4 rfl) ?_
        refine lv_aload_n hC.1 hC.2.1 dX11_costOf_30 rfl (lv_at hl 2 rfl) ?_
        refine rg_i G (rg_runV (As := [.int v4, .ref (lay (33 + i2))]) (rest := [.int v3]) hC hT G (c_X11_cost l D cy lay Γ h hi2 _) (cwV 2 hC.2.2.2.2 gX11_costOf_X11_cost rfl rfl rfl hdV_X11_cost ⟨Nat.le_of_ble_eq_true rfl, Nat.le_of_ble_eq_true rfl⟩) (rg_recv hT G (by decide) r_mo k_X11) rfl hl.1 rfl (Nat.le_of_ble_eq_true rfl) dX11_costOf_31 ⟨Nat.le_of_ble_eq_true rfl, Nat.le_of_ble_eq_true rfl⟩) (fun r8 σ7 H locs h G => ?_)
        (try dsimp only at h)
        refine lv_goto (tgt := 38) hC.1 hC.2.1 dX11_costOf_34 (by decide) ?_
        refine lv_iadd hC.1 hC.2.1 dX11_costOf_38 ?_
        refine lv_istore_n (lv' := [(3, .int (v3 + r8)), (0, .ref (lay 0)), (1, .int a1), (2, .ref (lay (33 + i2))), (4, .int v4)]) hC.1 hC.2.1 dX11_costOf_39 rfl hl (by decide) rfl (fun ls hl => ?_)
        refine lv_iinc (v := v4 + 1) (lv' := [(4, .int (v4 + 1)), (3, .int (v3 + r8)), (0, .ref (lay 0)), (1, .int a1), (2, .ref (lay (33 + i2)))]) hC.1 hC.2.1 dX11_costOf_40 hl (k := 4) rfl rfl (by decide) rfl (fun ls hl => ?_)
        refine lv_goto (tgt := 5) hC.1 hC.2.1 dX11_costOf_43 (by decide) ?_
        exact ih _ _ _ h _ _ _ G (lv_sub hl [2, 3, 4, 1, 0] rfl)
def w_X11_costOf (Γ : RG) (post : Int32 → MS → Prop) (σ : MS) (a1 : Int32) (i2 : Nat) : Prop := (∃ k, u_X11_costOf_5 Γ post a1 i2 k σ 0 0)
set_option maxHeartbeats 4000000 in
set_option maxRecDepth 100000 in
theorem c_X11_costOf (l : Launch) (D : va_G) (cy : Nat → ClassId) (lay : Nat → Nat) (Γ : RG) {σ : MS} {post : Int32 → MS → Prop} {a1 : Int32} {i2 : Nat} (h : w_X11_costOf Γ post σ a1 i2) (hi2 : i2 < 14 ∧ i2 < Γ.2.2.1) (sz : Nat) : Met l yX11_costOf wsX11_costOf rm_X11_costOf (va_Pc [.ref (lay 0), .int a1, .ref (lay (33 + i2))] (rI D cy lay Γ σ sz)) (va_Qi post (rO D cy lay Γ) (rA cy lay Γ sz)) 0 0 (rA cy lay Γ sz) := by
  refine rg_ofW (cc := cX11_costOf) (maxL := 5) (ret := some .int) (own := RX11) (Qc := fun sz => va_Qi post (rO D cy lay Γ) (rA cy lay Γ sz)) (by decide) rfl (Nat.le_of_ble_eq_true rfl) rfl ?_
  intro p e s m args below meth c ls hC hr hlocks hT G hl
  unfold w_X11_costOf at h
  have hl : lv_has ls 5 [(0, .ref (lay 0)), (1, .int a1), (2, .ref (lay (33 + i2)))] := hl
  refine lv_iconst (v := 0) hC.1 hC.2.1 dX11_costOf_0 (by decide) ?_
  refine lv_istore_n (lv' := [(3, .int 0), (0, .ref (lay 0)), (1, .int a1), (2, .ref (lay (33 + i2)))]) hC.1 hC.2.1 dX11_costOf_1 rfl hl (by decide) rfl (fun ls hl => ?_)
  refine lv_iconst (v := 0) hC.1 hC.2.1 dX11_costOf_2 (by decide) ?_
  refine lv_istore (lv' := [(4, .int 0), (3, .int 0), (0, .ref (lay 0)), (1, .int a1), (2, .ref (lay (33 + i2)))]) hC.1 hC.2.1 dX11_costOf_3 hl (by decide) rfl (fun ls hl => ?_)
  obtain ⟨n1, h⟩ := h
  exact l_X11_costOf_5 a1 i2 hC hr hlocks hT hi2 n1 _ _ _ h _ _ _ G (lv_sub hl [2, 3, 4, 1, 0] rfl)
theorem hdV_X11_costOf : yX11_costOf.cls = RX11 ∧ yX11_costOf.cls ≠ "java/lang/invoke/MethodHandle" ∧ yX11_costOf.cls ≠ "java/lang/invoke/VarHandle" ∧ (parseMethodDescriptor yX11_costOf.desc).map (fun d => d.parameters.length) = some 2 := by decide +kernel
abbrev rm_X11_isFilling : Room := { frames := 10, cells := 0, slots := 0, locals := 260 }
theorem i_X11_isFilling_X11 : ∀ w ∈ wsX110, w ∈ wsX11_isFilling := fun _ h => List.mem_cons_of_mem _ (List.mem_append_left _ (List.mem_append_left _ (List.mem_append_left _ (List.mem_append_left _ (List.mem_append_right _ h)))))
theorem i_X11_isFilling_X10 : ∀ w ∈ wsX100, w ∈ wsX11_isFilling := fun _ h => List.mem_cons_of_mem _ (List.mem_append_left _ (List.mem_append_left _ (List.mem_append_left _ (List.mem_append_right _ h))))
def w_X11_isFilling (Γ : RG) (post : Int32 → MS → Prop) (σ : MS) (a1 : Int32) (i2 : Nat) : Prop := w_lb_Jx4a65c_get_915e3 Γ (fun j2 σ1 => ((j2 < Γ.2.1) ∧ w_in_J6_intValue_8abf5 Γ (fun r5 σ4 => w_r_J6_bitCount_0f7a4 Γ (fun r7 σ6 => w_X11_needed_ Γ (fun r9 σ8 => ((r7 = r9 → w_X11_isPeaceful Γ (fun r12 σ11 => ((r12 = 0 → post 0 σ11) ∧ (¬ r12 = 0 → w_X11_areKnown Γ (fun r15 σ14 => ((r15 = 0 → post 0 σ14) ∧ (¬ r15 = 0 → w_K0_X11_canPlay Γ (fun r18 σ17 => ((r18 = 0 → post 0 σ17) ∧ (¬ r18 = 0 → post 1 σ17))) σ14 a1 r5 0 0))) σ11 a1 (σ11 (33 + i2) 5)))) σ8 a1) ∧ (¬ r7 = r9 → post 0 σ8))) σ6 r5) σ4 a1) σ1 j2)) σ (σ (33 + i2) 0)
set_option maxHeartbeats 4000000 in
set_option maxRecDepth 100000 in
theorem c_X11_isFilling (l : Launch) (D : va_G) (cy : Nat → ClassId) (lay : Nat → Nat) (Γ : RG) {σ : MS} {post : Int32 → MS → Prop} {a1 : Int32} {i2 : Nat} (h : w_X11_isFilling Γ post σ a1 i2) (hi2 : i2 < 14 ∧ i2 < Γ.2.2.1) (sz : Nat) : Met l yX11_isFilling wsX11_isFilling rm_X11_isFilling (va_Pc [.ref (lay 0), .int a1, .ref (lay (33 + i2))] (rI D cy lay Γ σ sz)) (va_Qi post (rO D cy lay Γ) (rA cy lay Γ sz)) 0 0 (rA cy lay Γ sz) := by
  refine rg_ofW (cc := cX11_isFilling) (maxL := 4) (ret := some .boolean) (own := RX11) (Qc := fun sz => va_Qi post (rO D cy lay Γ) (rA cy lay Γ sz)) (by decide) rfl (Nat.le_of_ble_eq_true rfl) rfl ?_
  intro p e s m args below meth c ls hC hr hlocks hT G hl
  unfold w_X11_isFilling at h
  have hl : lv_has ls 4 [(0, .ref (lay 0)), (1, .int a1), (2, .ref (lay (33 + i2)))] := hl
  refine lv_aload_n hC.1 hC.2.1 dX11_isFilling_0 rfl (lv_at hl 0 rfl) ?_
  refine rg_get hC hT G (by decide) r_mo k_X11 i_X11_isFilling_X11 4 (by decide) (wm 1 rfl) rfl dX11_isFilling_1 ?_
  refine lv_aload_n hC.1 hC.2.1 dX11_isFilling_4 rfl (lv_at hl 2 rfl) ?_
  refine rg_getN hC hT G (rk_wd hi2) (r_wd hi2) k_X10 i_X11_isFilling_X10 0 (by decide) 10 rfl rfl dX11_isFilling_5 ?_
  refine rg_r (f := fun i => Γ.2.2.2.2.1 i) G (rg_runV (As := [.int (σ (33 + i2) 0)]) (rest := []) hC hT G (c_lb_Jx4a65c_get_915e3 l D cy lay Γ h _) (cwV 1 hC.2.2.2.2 gX11_isFilling_Jx4a65c_get_915e3 rfl rfl rfl hdV_Jx4a65c_get_915e3 ⟨Nat.le_of_ble_eq_true rfl, Nat.le_of_ble_eq_true rfl⟩) (rg_recv hT G (by decide) r_lb k_AL) rfl hl.1 rfl (Nat.le_of_ble_eq_true rfl) dX11_isFilling_8 ⟨Nat.le_of_ble_eq_true rfl, Nat.le_of_ble_eq_true rfl⟩) (fun j2 σ1 H locs h G => ?_)
  (try dsimp only at h)
  obtain ⟨hj3, h⟩ := h
  refine rg_cast hC hT k_IN (wm 2 rfl) (rg_recvI hT G hj3) dX11_isFilling_11 ?_
  refine rg_i G (rg_runV (As := []) (rest := []) hC hT G (c_in_J6_intValue_8abf5 l D cy lay Γ h hj3 _) (cwV 0 hC.2.2.2.2 gX11_isFilling_J6_intValue_8abf5 rfl rfl rfl hdV_J6_intValue_8abf5 ⟨Nat.le_of_ble_eq_true rfl, Nat.le_of_ble_eq_true rfl⟩) (rg_recvI hT G hj3) rfl hl.1 rfl (Nat.le_of_ble_eq_true rfl) dX11_isFilling_14 ⟨Nat.le_of_ble_eq_true rfl, Nat.le_of_ble_eq_true rfl⟩) (fun r5 σ4 H locs h G => ?_)
  (try dsimp only at h)
  refine lv_istore_n (lv' := [(3, .int r5), (0, .ref (lay 0)), (1, .int a1), (2, .ref (lay (33 + i2)))]) hC.1 hC.2.1 dX11_isFilling_17 rfl hl (by decide) rfl (fun ls hl => ?_)
  refine lv_iload_n hC.1 hC.2.1 dX11_isFilling_18 rfl (lv_at hl 2 rfl) ?_
  refine rg_i G (rg_runS (As := [.int a1]) (rest := []) hC hT G (c_r_J6_bitCount_0f7a4 l D cy lay Γ h _) (va_cwS 1 hC.2.2.2.2 gX11_isFilling_J6_bitCount_0f7a4 rfl rfl rfl hdS_J6_bitCount_0f7a4 ⟨Nat.le_of_ble_eq_true rfl, Nat.le_of_ble_eq_true rfl⟩) rfl hl.1 rfl (Nat.le_of_ble_eq_true rfl) dX11_isFilling_19 ⟨Nat.le_of_ble_eq_true rfl, Nat.le_of_ble_eq_true rfl⟩) (fun r7 σ6 H locs h G => ?_)
  (try dsimp only at h)
  refine lv_iload_n hC.1 hC.2.1 dX11_isFilling_22 rfl (lv_at hl 0 rfl) ?_
  refine rg_i G (rg_runS (As := [.int r5]) (rest := [.int r7]) hC hT G (c_X11_needed_ l D cy lay Γ h _) (va_cwS 1 hC.2.2.2.2 gX11_isFilling_X11_needed_ rfl rfl rfl hdS_X11_needed_ ⟨Nat.le_of_ble_eq_true rfl, Nat.le_of_ble_eq_true rfl⟩) rfl hl.1 rfl (Nat.le_of_ble_eq_true rfl) dX11_isFilling_23 ⟨Nat.le_of_ble_eq_true rfl, Nat.le_of_ble_eq_true rfl⟩) (fun r9 σ8 H locs h G => ?_)
  (try dsimp only at h)
  refine lv_icmp_ne (tgt := 64) hC.1 hC.2.1 dX11_isFilling_26 (by decide) (fun c10 => ?_) (fun c10 => ?_)
  · replace h := h.2 c10
    refine lv_iconst (v := 0) hC.1 hC.2.1 dX11_isFilling_64 (by decide) ?_
    exact rg_zret hC hr hlocks G rfl h dX11_isFilling_65
  · replace h := h.1 c10
    refine lv_aload_n hC.1 hC.2.1 dX11_isFilling_29 rfl (lv_at hl 1 rfl) ?_
    refine lv_iload_n hC.1 hC.2.1 dX11_isFilling_30 rfl (lv_at hl 2 rfl) ?_
    refine rg_i G (rg_runV (As := [.int a1]) (rest := []) hC hT G (c_X11_isPeaceful l D cy lay Γ h _) (cwV 1 hC.2.2.2.2 gX11_isFilling_X11_isPeaceful rfl rfl rfl hdV_X11_isPeaceful ⟨Nat.le_of_ble_eq_true rfl, Nat.le_of_ble_eq_true rfl⟩) (rg_recv hT G (by decide) r_mo k_X11) rfl hl.1 rfl (Nat.le_of_ble_eq_true rfl) dX11_isFilling_31 ⟨Nat.le_of_ble_eq_true rfl, Nat.le_of_ble_eq_true rfl⟩) (fun r12 σ11 H locs h G => ?_)
    (try dsimp only at h)
    refine lv_if_eq (tgt := 64) hC.1 hC.2.1 dX11_isFilling_34 (by decide) (fun c13 => ?_) (fun c13 => ?_)
    · replace h := h.1 c13
      refine lv_iconst (v := 0) hC.1 hC.2.1 dX11_isFilling_64 (by decide) ?_
      exact rg_zret hC hr hlocks G rfl h dX11_isFilling_65
    · replace h := h.2 c13
      refine lv_aload_n hC.1 hC.2.1 dX11_isFilling_37 rfl (lv_at hl 1 rfl) ?_
      refine lv_iload_n hC.1 hC.2.1 dX11_isFilling_38 rfl (lv_at hl 2 rfl) ?_
      refine lv_aload_n hC.1 hC.2.1 dX11_isFilling_39 rfl (lv_at hl 3 rfl) ?_
      refine rg_getN hC hT G (rk_wd hi2) (r_wd hi2) k_X10 i_X11_isFilling_X10 5 (by decide) 15 rfl rfl dX11_isFilling_40 ?_
      refine rg_i G (rg_runV (As := [.int a1, .int (σ11 (33 + i2) 5)]) (rest := []) hC hT G (c_X11_areKnown l D cy lay Γ h _) (cwV 2 hC.2.2.2.2 gX11_isFilling_X11_areKnown rfl rfl rfl hdV_X11_areKnown ⟨Nat.le_of_ble_eq_true rfl, Nat.le_of_ble_eq_true rfl⟩) (rg_recv hT G (by decide) r_mo k_X11) rfl hl.1 rfl (Nat.le_of_ble_eq_true rfl) dX11_isFilling_43 ⟨Nat.le_of_ble_eq_true rfl, Nat.le_of_ble_eq_true rfl⟩) (fun r15 σ14 H locs h G => ?_)
      (try dsimp only at h)
      refine lv_if_eq (tgt := 64) hC.1 hC.2.1 dX11_isFilling_46 (by decide) (fun c16 => ?_) (fun c16 => ?_)
      · replace h := h.1 c16
        refine lv_iconst (v := 0) hC.1 hC.2.1 dX11_isFilling_64 (by decide) ?_
        exact rg_zret hC hr hlocks G rfl h dX11_isFilling_65
      · replace h := h.2 c16
        refine lv_aload_n hC.1 hC.2.1 dX11_isFilling_49 rfl (lv_at hl 1 rfl) ?_
        refine lv_iload_n hC.1 hC.2.1 dX11_isFilling_50 rfl (lv_at hl 2 rfl) ?_
        refine lv_iload_n hC.1 hC.2.1 dX11_isFilling_51 rfl (lv_at hl 0 rfl) ?_
        refine lv_iconst (v := 0) hC.1 hC.2.1 dX11_isFilling_52 (by decide) ?_
        refine lv_iconst (v := 0) hC.1 hC.2.1 dX11_isFilling_53 (by decide) ?_
        refine rg_i G (rg_runV (As := [.int a1, .int r5, .int 0, .int 0]) (rest := []) hC hT G (c_K0_X11_canPlay l D cy lay Γ h _) (cwV 4 hC.2.2.2.2 gX11_isFilling_X11_canPlay rfl rfl rfl hdV_X11_canPlay ⟨Nat.le_of_ble_eq_true rfl, Nat.le_of_ble_eq_true rfl⟩) (rg_recv hT G (by decide) r_mo k_X11) rfl hl.1 rfl (Nat.le_of_ble_eq_true rfl) dX11_isFilling_54 ⟨Nat.le_of_ble_eq_true rfl, Nat.le_of_ble_eq_true rfl⟩) (fun r18 σ17 H locs h G => ?_)
        (try dsimp only at h)
        refine lv_if_eq (tgt := 64) hC.1 hC.2.1 dX11_isFilling_57 (by decide) (fun c19 => ?_) (fun c19 => ?_)
        · replace h := h.1 c19
          refine lv_iconst (v := 0) hC.1 hC.2.1 dX11_isFilling_64 (by decide) ?_
          exact rg_zret hC hr hlocks G rfl h dX11_isFilling_65
        · replace h := h.2 c19
          refine lv_iconst (v := 1) hC.1 hC.2.1 dX11_isFilling_60 (by decide) ?_
          refine lv_goto (tgt := 65) hC.1 hC.2.1 dX11_isFilling_61 (by decide) ?_
          exact rg_zret hC hr hlocks G rfl h dX11_isFilling_65
theorem hdV_X11_isFilling : yX11_isFilling.cls = RX11 ∧ yX11_isFilling.cls ≠ "java/lang/invoke/MethodHandle" ∧ yX11_isFilling.cls ≠ "java/lang/invoke/VarHandle" ∧ (parseMethodDescriptor yX11_isFilling.desc).map (fun d => d.parameters.length) = some 2 := by decide +kernel
abbrev rm_X11_isBetter : Room := { frames := 5, cells := 0, slots := 0, locals := 112 }
def w_X11_isBetter (Γ : RG) (post : Int32 → MS → Prop) (σ : MS) (a1 : Int32) (a2 : Int32) (a3 : Int32) (i4 : Nat) : Prop := w_r_J6_bitCount_0f7a4 Γ (fun r2 σ1 => w_r_J6_bitCount_0f7a4 Γ (fun r4 σ3 => ((0 < (r2 - r4) → post 1 σ3) ∧ (¬ 0 < (r2 - r4) → (((r2 - r4) = 0 → w_X11_costOf Γ (fun r8 σ7 => w_X11_costOf Γ (fun r10 σ9 => ((r10 ≤ r8 → post 0 σ9) ∧ (¬ r10 ≤ r8 → post 1 σ9))) σ7 a2 i4) σ3 a1 i4) ∧ (¬ (r2 - r4) = 0 → post 0 σ3))))) σ1 (a2 &&& a3)) σ (a1 &&& a3)
set_option maxHeartbeats 4000000 in
set_option maxRecDepth 100000 in
theorem c_X11_isBetter (l : Launch) (D : va_G) (cy : Nat → ClassId) (lay : Nat → Nat) (Γ : RG) {σ : MS} {post : Int32 → MS → Prop} {a1 : Int32} {a2 : Int32} {a3 : Int32} {i4 : Nat} (h : w_X11_isBetter Γ post σ a1 a2 a3 i4) (hi4 : i4 < 14 ∧ i4 < Γ.2.2.1) (sz : Nat) : Met l yX11_isBetter wsX11_isBetter rm_X11_isBetter (va_Pc [.ref (lay 0), .int a1, .int a2, .int a3, .ref (lay (33 + i4))] (rI D cy lay Γ σ sz)) (va_Qi post (rO D cy lay Γ) (rA cy lay Γ sz)) 0 0 (rA cy lay Γ sz) := by
  refine rg_ofW (cc := cX11_isBetter) (maxL := 6) (ret := some .boolean) (own := RX11) (Qc := fun sz => va_Qi post (rO D cy lay Γ) (rA cy lay Γ sz)) (by decide) rfl (Nat.le_of_ble_eq_true rfl) rfl ?_
  intro p e s m args below meth c ls hC hr hlocks hT G hl
  unfold w_X11_isBetter at h
  have hl : lv_has ls 6 [(0, .ref (lay 0)), (1, .int a1), (2, .int a2), (3, .int a3), (4, .ref (lay (33 + i4)))] := hl
  refine lv_iload_n hC.1 hC.2.1 dX11_isBetter_0 rfl (lv_at hl 1 rfl) ?_
  refine lv_iload_n hC.1 hC.2.1 dX11_isBetter_1 rfl (lv_at hl 3 rfl) ?_
  refine lv_iand hC.1 hC.2.1 dX11_isBetter_2 ?_
  refine rg_i G (rg_runS (As := [.int (a1 &&& a3)]) (rest := []) hC hT G (c_r_J6_bitCount_0f7a4 l D cy lay Γ h _) (va_cwS 1 hC.2.2.2.2 gX11_isBetter_J6_bitCount_0f7a4 rfl rfl rfl hdS_J6_bitCount_0f7a4 ⟨Nat.le_of_ble_eq_true rfl, Nat.le_of_ble_eq_true rfl⟩) rfl hl.1 rfl (Nat.le_of_ble_eq_true rfl) dX11_isBetter_3 ⟨Nat.le_of_ble_eq_true rfl, Nat.le_of_ble_eq_true rfl⟩) (fun r2 σ1 H locs h G => ?_)
  (try dsimp only at h)
  refine lv_iload_n hC.1 hC.2.1 dX11_isBetter_6 rfl (lv_at hl 2 rfl) ?_
  refine lv_iload_n hC.1 hC.2.1 dX11_isBetter_7 rfl (lv_at hl 3 rfl) ?_
  refine lv_iand hC.1 hC.2.1 dX11_isBetter_8 ?_
  refine rg_i G (rg_runS (As := [.int (a2 &&& a3)]) (rest := [.int r2]) hC hT G (c_r_J6_bitCount_0f7a4 l D cy lay Γ h _) (va_cwS 1 hC.2.2.2.2 gX11_isBetter_J6_bitCount_0f7a4 rfl rfl rfl hdS_J6_bitCount_0f7a4 ⟨Nat.le_of_ble_eq_true rfl, Nat.le_of_ble_eq_true rfl⟩) rfl hl.1 rfl (Nat.le_of_ble_eq_true rfl) dX11_isBetter_9 ⟨Nat.le_of_ble_eq_true rfl, Nat.le_of_ble_eq_true rfl⟩) (fun r4 σ3 H locs h G => ?_)
  (try dsimp only at h)
  refine lv_isub hC.1 hC.2.1 dX11_isBetter_12 ?_
  refine lv_istore (lv' := [(5, .int (r2 - r4)), (0, .ref (lay 0)), (1, .int a1), (2, .int a2), (3, .int a3), (4, .ref (lay (33 + i4)))]) hC.1 hC.2.1 dX11_isBetter_13 hl (by decide) rfl (fun ls hl => ?_)
  refine lv_iload hC.1 hC.2.1 dX11_isBetter_15 (lv_at hl 0 rfl) ?_
  refine lv_if_gt (tgt := 42) hC.1 hC.2.1 dX11_isBetter_17 (by decide) (fun c5 => ?_) (fun c5 => ?_)
  · replace h := h.1 c5
    refine lv_iconst (v := 1) hC.1 hC.2.1 dX11_isBetter_42 (by decide) ?_
    refine lv_goto (tgt := 47) hC.1 hC.2.1 dX11_isBetter_43 (by decide) ?_
    exact rg_zret hC hr hlocks G rfl h dX11_isBetter_47
  · replace h := h.2 c5
    refine lv_iload hC.1 hC.2.1 dX11_isBetter_20 (lv_at hl 0 rfl) ?_
    refine lv_if_ne (tgt := 46) hC.1 hC.2.1 dX11_isBetter_22 (by decide) (fun c6 => ?_) (fun c6 => ?_)
    · replace h := h.2 c6
      refine lv_iconst (v := 0) hC.1 hC.2.1 dX11_isBetter_46 (by decide) ?_
      exact rg_zret hC hr hlocks G rfl h dX11_isBetter_47
    · replace h := h.1 c6
      refine lv_aload_n hC.1 hC.2.1 dX11_isBetter_25 rfl (lv_at hl 1 rfl) ?_
      refine lv_iload_n hC.1 hC.2.1 dX11_isBetter_26 rfl (lv_at hl 2 rfl) ?_
      refine lv_aload hC.1 hC.2.1 dX11_isBetter_27 (lv_at hl 5 rfl) ?_
      refine rg_i G (rg_runV (As := [.int a1, .ref (lay (33 + i4))]) (rest := []) hC hT G (c_X11_costOf l D cy lay Γ h hi4 _) (cwV 2 hC.2.2.2.2 gX11_isBetter_X11_costOf rfl rfl rfl hdV_X11_costOf ⟨Nat.le_of_ble_eq_true rfl, Nat.le_of_ble_eq_true rfl⟩) (rg_recv hT G (by decide) r_mo k_X11) rfl hl.1 rfl (Nat.le_of_ble_eq_true rfl) dX11_isBetter_29 ⟨Nat.le_of_ble_eq_true rfl, Nat.le_of_ble_eq_true rfl⟩) (fun r8 σ7 H locs h G => ?_)
      (try dsimp only at h)
      refine lv_aload_n hC.1 hC.2.1 dX11_isBetter_32 rfl (lv_at hl 1 rfl) ?_
      refine lv_iload_n hC.1 hC.2.1 dX11_isBetter_33 rfl (lv_at hl 3 rfl) ?_
      refine lv_aload hC.1 hC.2.1 dX11_isBetter_34 (lv_at hl 5 rfl) ?_
      refine rg_i G (rg_runV (As := [.int a2, .ref (lay (33 + i4))]) (rest := [.int r8]) hC hT G (c_X11_costOf l D cy lay Γ h hi4 _) (cwV 2 hC.2.2.2.2 gX11_isBetter_X11_costOf rfl rfl rfl hdV_X11_costOf ⟨Nat.le_of_ble_eq_true rfl, Nat.le_of_ble_eq_true rfl⟩) (rg_recv hT G (by decide) r_mo k_X11) rfl hl.1 rfl (Nat.le_of_ble_eq_true rfl) dX11_isBetter_36 ⟨Nat.le_of_ble_eq_true rfl, Nat.le_of_ble_eq_true rfl⟩) (fun r10 σ9 H locs h G => ?_)
      (try dsimp only at h)
      refine lv_icmp_ge (tgt := 46) hC.1 hC.2.1 dX11_isBetter_39 (by decide) (fun c11 => ?_) (fun c11 => ?_)
      · replace h := h.1 c11
        refine lv_iconst (v := 0) hC.1 hC.2.1 dX11_isBetter_46 (by decide) ?_
        exact rg_zret hC hr hlocks G rfl h dX11_isBetter_47
      · replace h := h.2 c11
        refine lv_iconst (v := 1) hC.1 hC.2.1 dX11_isBetter_42 (by decide) ?_
        refine lv_goto (tgt := 47) hC.1 hC.2.1 dX11_isBetter_43 (by decide) ?_
        exact rg_zret hC hr hlocks G rfl h dX11_isBetter_47
theorem hdV_X11_isBetter : yX11_isBetter.cls = RX11 ∧ yX11_isBetter.cls ≠ "java/lang/invoke/MethodHandle" ∧ yX11_isBetter.cls ≠ "java/lang/invoke/VarHandle" ∧ (parseMethodDescriptor yX11_isBetter.desc).map (fun d => d.parameters.length) = some 4 := by decide +kernel
abbrev rm_X11_best : Room := { frames := 11, cells := 0, slots := 0, locals := 283 }
theorem i_X11_best_X11 : ∀ w ∈ wsX110, w ∈ wsX11_best := fun _ h => List.mem_cons_of_mem _ (List.mem_append_left _ (List.mem_append_left _ (List.mem_append_left _ (List.mem_append_left _ (List.mem_append_right _ h)))))
def u_X11_best_38 (Γ : RG) (post : Int32 → MS → Prop) (a1 : Int32) (a2 : Int32) (a3 : Int32) : Nat → MS → Nat → Int32 → Int32 → Int32 → Prop
  | 0, _, _, _, _, _ => False
  | n + 1, σ, v4, v5, v6, v7 => ((v7 ≤ 0 → post v6 σ) ∧ (¬ v7 ≤ 0 → w_X11_isFilling Γ (fun r8 σ7 => ((r8 = 0 → u_X11_best_38 Γ post a1 a2 a3 n σ7 v4 v5 v6 ((v7 - v5) &&& v5)) ∧ (¬ r8 = 0 → ((v6 = (-1) → u_X11_best_38 Γ post a1 a2 a3 n σ7 v4 v5 v7 ((v7 - v5) &&& v5)) ∧ (¬ v6 = (-1) → w_X11_isBetter Γ (fun r12 σ11 => ((r12 = 0 → u_X11_best_38 Γ post a1 a2 a3 n σ11 v4 v5 v6 ((v7 - v5) &&& v5)) ∧ (¬ r12 = 0 → u_X11_best_38 Γ post a1 a2 a3 n σ11 v4 v5 v7 ((v7 - v5) &&& v5)))) σ7 v7 v6 a3 v4))))) σ v7 v4))
set_option maxHeartbeats 4000000 in
set_option maxRecDepth 100000 in
theorem l_X11_best_38 {p : Program} {l : Launch} {e : Env} {s : State} {m : MethodId} {args : Array Value} {below : List Frame} {meth : Method} {c : Code} {D : va_G} {cy : Nat → ClassId} {lay : Nat → Nat} {Γ : RG} {post : Int32 → MS → Prop} (a1 : Int32) (a2 : Int32) (a3 : Int32) (hC : CallFix p m c cX11_best 9 s args wsX11_best RX11) (hr : meth.sig.returnType = some .int) (hlocks : meth.locks = false) (hT : rT D cy lay Γ s) : ∀ (n : Nat), ∀ (σ : MS) (v4 : Nat) (v5 : Int32) (v6 : Int32) (v7 : Int32), u_X11_best_38 Γ post a1 a2 a3 n σ v4 v5 v6 v7 → ∀ (hv4 : v4 < 14 ∧ v4 < Γ.2.2.1), ∀ (H : Heap) (locs : List Loc) (ls : Array Slot), rG D cy lay Γ tn σ (rA cy lay Γ s.heap.size) s.heap H locs → lv_has ls 9 [(0, .ref (lay 0)), (1, .int a1), (2, .int a2), (3, .int a3), (4, .ref (lay (33 + v4))), (5, .int v5), (6, .int v6), (7, .int v7)] → W p l e rm_X11_best s m args below meth c H locs 0 0 (MQ below (va_Qi post (rO D cy lay Γ) (rA cy lay Γ s.heap.size)) args s 0 0 (rA cy lay Γ s.heap.size)) (F0 m 38 ls []) := by
  intro n
  induction n with
  | zero =>
    intro σ v4 v5 v6 v7 h
    exact h.elim
  | succ n ih =>
    intro σ v4 v5 v6 v7 h hv4 H locs ls G hl
    rw [u_X11_best_38] at h
    refine lv_iload hC.1 hC.2.1 dX11_best_38 (lv_at hl 7 rfl) ?_
    refine lv_if_le (tgt := 95) hC.1 hC.2.1 dX11_best_40 (by decide) (fun c6 => ?_) (fun c6 => ?_)
    · replace h := h.1 c6
      refine lv_iload hC.1 hC.2.1 dX11_best_95 (lv_at hl 6 rfl) ?_
      exact rg_iret hC hr hlocks G h dX11_best_97
    · replace h := h.2 c6
      refine lv_iload hC.1 hC.2.1 dX11_best_43 (lv_at hl 7 rfl) ?_
      refine lv_iload hC.1 hC.2.1 dX11_best_45 (lv_at hl 5 rfl) ?_
      refine lv_isub hC.1 hC.2.1 dX11_best_47 ?_
      refine lv_iload hC.1 hC.2.1 dX11_best_48 (lv_at hl 5 rfl) ?_
      refine lv_iand hC.1 hC.2.1 dX11_best_50 ?_
      refine lv_istore (lv' := [(8, .int ((v7 - v5) &&& v5)), (0, .ref (lay 0)), (1, .int a1), (2, .int a2), (3, .int a3), (4, .ref (lay (33 + v4))), (5, .int v5), (6, .int v6), (7, .int v7)]) hC.1 hC.2.1 dX11_best_51 hl (by decide) rfl (fun ls hl => ?_)
      refine lv_aload_n hC.1 hC.2.1 dX11_best_53 rfl (lv_at hl 1 rfl) ?_
      refine lv_iload hC.1 hC.2.1 dX11_best_54 (lv_at hl 8 rfl) ?_
      refine lv_aload hC.1 hC.2.1 dX11_best_56 (lv_at hl 5 rfl) ?_
      refine rg_i G (rg_runV (As := [.int v7, .ref (lay (33 + v4))]) (rest := []) hC hT G (c_X11_isFilling l D cy lay Γ h hv4 _) (cwV 2 hC.2.2.2.2 gX11_best_X11_isFilling rfl rfl rfl hdV_X11_isFilling ⟨Nat.le_of_ble_eq_true rfl, Nat.le_of_ble_eq_true rfl⟩) (rg_recv hT G (by decide) r_mo k_X11) rfl hl.1 rfl (Nat.le_of_ble_eq_true rfl) dX11_best_58 ⟨Nat.le_of_ble_eq_true rfl, Nat.le_of_ble_eq_true rfl⟩) (fun r8 σ7 H locs h G => ?_)
      (try dsimp only at h)
      refine lv_if_eq (tgt := 88) hC.1 hC.2.1 dX11_best_61 (by decide) (fun c9 => ?_) (fun c9 => ?_)
      · replace h := h.1 c9
        refine lv_iload hC.1 hC.2.1 dX11_best_88 (lv_at hl 0 rfl) ?_
        refine lv_istore (lv' := [(7, .int ((v7 - v5) &&& v5)), (8, .int ((v7 - v5) &&& v5)), (0, .ref (lay 0)), (1, .int a1), (2, .int a2), (3, .int a3), (4, .ref (lay (33 + v4))), (5, .int v5), (6, .int v6)]) hC.1 hC.2.1 dX11_best_90 hl (by decide) rfl (fun ls hl => ?_)
        refine lv_goto (tgt := 38) hC.1 hC.2.1 dX11_best_92 (by decide) ?_
        exact ih _ _ _ _ _ h hv4 _ _ _ G (lv_sub hl [2, 3, 4, 5, 6, 7, 8, 0] rfl)
      · replace h := h.2 c9
        refine lv_iload hC.1 hC.2.1 dX11_best_64 (lv_at hl 7 rfl) ?_
        refine lv_iconst (v := (-1)) hC.1 hC.2.1 dX11_best_66 (by decide) ?_
        refine lv_icmp_eq (tgt := 84) hC.1 hC.2.1 dX11_best_67 (by decide) (fun c10 => ?_) (fun c10 => ?_)
        · replace h := h.1 c10
          refine lv_iload hC.1 hC.2.1 dX11_best_84 (lv_at hl 8 rfl) ?_
          refine lv_istore (lv' := [(6, .int v7), (8, .int ((v7 - v5) &&& v5)), (0, .ref (lay 0)), (1, .int a1), (2, .int a2), (3, .int a3), (4, .ref (lay (33 + v4))), (5, .int v5), (7, .int v7)]) hC.1 hC.2.1 dX11_best_86 hl (by decide) rfl (fun ls hl => ?_)
          refine lv_iload hC.1 hC.2.1 dX11_best_88 (lv_at hl 1 rfl) ?_
          refine lv_istore (lv' := [(7, .int ((v7 - v5) &&& v5)), (6, .int v7), (8, .int ((v7 - v5) &&& v5)), (0, .ref (lay 0)), (1, .int a1), (2, .int a2), (3, .int a3), (4, .ref (lay (33 + v4))), (5, .int v5)]) hC.1 hC.2.1 dX11_best_90 hl (by decide) rfl (fun ls hl => ?_)
          refine lv_goto (tgt := 38) hC.1 hC.2.1 dX11_best_92 (by decide) ?_
          exact ih _ _ _ _ _ h hv4 _ _ _ G (lv_sub hl [3, 4, 5, 6, 7, 8, 1, 0] rfl)
        · replace h := h.2 c10
          refine lv_aload_n hC.1 hC.2.1 dX11_best_70 rfl (lv_at hl 1 rfl) ?_
          refine lv_iload hC.1 hC.2.1 dX11_best_71 (lv_at hl 8 rfl) ?_
          refine lv_iload hC.1 hC.2.1 dX11_best_73 (lv_at hl 7 rfl) ?_
          refine lv_iload_n hC.1 hC.2.1 dX11_best_75 rfl (lv_at hl 4 rfl) ?_
          refine lv_aload hC.1 hC.2.1 dX11_best_76 (lv_at hl 5 rfl) ?_
          refine rg_i G (rg_runV (As := [.int v7, .int v6, .int a3, .ref (lay (33 + v4))]) (rest := []) hC hT G (c_X11_isBetter l D cy lay Γ h hv4 _) (cwV 4 hC.2.2.2.2 gX11_best_X11_isBetter rfl rfl rfl hdV_X11_isBetter ⟨Nat.le_of_ble_eq_true rfl, Nat.le_of_ble_eq_true rfl⟩) (rg_recv hT G (by decide) r_mo k_X11) rfl hl.1 rfl (Nat.le_of_ble_eq_true rfl) dX11_best_78 ⟨Nat.le_of_ble_eq_true rfl, Nat.le_of_ble_eq_true rfl⟩) (fun r12 σ11 H locs h G => ?_)
          (try dsimp only at h)
          refine lv_if_eq (tgt := 88) hC.1 hC.2.1 dX11_best_81 (by decide) (fun c13 => ?_) (fun c13 => ?_)
          · replace h := h.1 c13
            refine lv_iload hC.1 hC.2.1 dX11_best_88 (lv_at hl 0 rfl) ?_
            refine lv_istore (lv' := [(7, .int ((v7 - v5) &&& v5)), (8, .int ((v7 - v5) &&& v5)), (0, .ref (lay 0)), (1, .int a1), (2, .int a2), (3, .int a3), (4, .ref (lay (33 + v4))), (5, .int v5), (6, .int v6)]) hC.1 hC.2.1 dX11_best_90 hl (by decide) rfl (fun ls hl => ?_)
            refine lv_goto (tgt := 38) hC.1 hC.2.1 dX11_best_92 (by decide) ?_
            exact ih _ _ _ _ _ h hv4 _ _ _ G (lv_sub hl [2, 3, 4, 5, 6, 7, 8, 0] rfl)
          · replace h := h.2 c13
            refine lv_iload hC.1 hC.2.1 dX11_best_84 (lv_at hl 8 rfl) ?_
            refine lv_istore (lv' := [(6, .int v7), (8, .int ((v7 - v5) &&& v5)), (0, .ref (lay 0)), (1, .int a1), (2, .int a2), (3, .int a3), (4, .ref (lay (33 + v4))), (5, .int v5), (7, .int v7)]) hC.1 hC.2.1 dX11_best_86 hl (by decide) rfl (fun ls hl => ?_)
            refine lv_iload hC.1 hC.2.1 dX11_best_88 (lv_at hl 1 rfl) ?_
            refine lv_istore (lv' := [(7, .int ((v7 - v5) &&& v5)), (6, .int v7), (8, .int ((v7 - v5) &&& v5)), (0, .ref (lay 0)), (1, .int a1), (2, .int a2), (3, .int a3), (4, .ref (lay (33 + v4))), (5, .int v5)]) hC.1 hC.2.1 dX11_best_90 hl (by decide) rfl (fun ls hl => ?_)
            refine lv_goto (tgt := 38) hC.1 hC.2.1 dX11_best_92 (by decide) ?_
            exact ih _ _ _ _ _ h hv4 _ _ _ G (lv_sub hl [3, 4, 5, 6, 7, 8, 1, 0] rfl)
def w_X11_best (Γ : RG) (post : Int32 → MS → Prop) (σ : MS) (a1 : Int32) (a2 : Int32) (a3 : Int32) : Prop := w_lw_Jx4a65c_get_915e3 Γ (fun j2 σ1 => ((j2 < 14 ∧ j2 < Γ.2.2.1) ∧ w_X11_freeFor Γ (fun r5 σ4 => (∃ k, u_X11_best_38 Γ post a1 a2 a3 k σ4 j2 (r5 &&& (a2 ^^^ (-1))) (-1) ((r5 &&& (a2 ^^^ (-1))) &&& (-(r5 &&& (a2 ^^^ (-1))))))) σ1 a1)) σ a1
set_option maxHeartbeats 4000000 in
set_option maxRecDepth 100000 in
theorem c_X11_best (l : Launch) (D : va_G) (cy : Nat → ClassId) (lay : Nat → Nat) (Γ : RG) {σ : MS} {post : Int32 → MS → Prop} {a1 : Int32} {a2 : Int32} {a3 : Int32} (h : w_X11_best Γ post σ a1 a2 a3) (sz : Nat) : Met l yX11_best wsX11_best rm_X11_best (va_Pc [.ref (lay 0), .int a1, .int a2, .int a3] (rI D cy lay Γ σ sz)) (va_Qi post (rO D cy lay Γ) (rA cy lay Γ sz)) 0 0 (rA cy lay Γ sz) := by
  refine rg_ofW (cc := cX11_best) (maxL := 9) (ret := some .int) (own := RX11) (Qc := fun sz => va_Qi post (rO D cy lay Γ) (rA cy lay Γ sz)) (by decide) rfl (Nat.le_of_ble_eq_true rfl) rfl ?_
  intro p e s m args below meth c ls hC hr hlocks hT G hl
  unfold w_X11_best at h
  have hl : lv_has ls 9 [(0, .ref (lay 0)), (1, .int a1), (2, .int a2), (3, .int a3)] := hl
  refine lv_aload_n hC.1 hC.2.1 dX11_best_0 rfl (lv_at hl 0 rfl) ?_
  refine rg_get hC hT G (by decide) r_mo k_X11 i_X11_best_X11 5 (by decide) (wm 1 rfl) rfl dX11_best_1 ?_
  refine lv_iload_n hC.1 hC.2.1 dX11_best_4 rfl (lv_at hl 1 rfl) ?_
  refine rg_r (f := fun i => lay (33 + i)) G (rg_runV (As := [.int a1]) (rest := []) hC hT G (c_lw_Jx4a65c_get_915e3 l D cy lay Γ h _) (cwV 1 hC.2.2.2.2 gX11_best_Jx4a65c_get_915e3 rfl rfl rfl hdV_Jx4a65c_get_915e3 ⟨Nat.le_of_ble_eq_true rfl, Nat.le_of_ble_eq_true rfl⟩) (rg_recv hT G (by decide) r_lw k_AL) rfl hl.1 rfl (Nat.le_of_ble_eq_true rfl) dX11_best_5 ⟨Nat.le_of_ble_eq_true rfl, Nat.le_of_ble_eq_true rfl⟩) (fun j2 σ1 H locs h G => ?_)
  (try dsimp only at h)
  obtain ⟨hj3, h⟩ := h
  refine rg_cast hC hT k_X10 (wm 2 rfl) (rg_recv hT G (rk_wd hj3) (r_wd hj3) k_X10) dX11_best_8 ?_
  refine lv_astore (lv' := [(4, .ref (lay (33 + j2))), (0, .ref (lay 0)), (1, .int a1), (2, .int a2), (3, .int a3)]) hC.1 hC.2.1 dX11_best_11 hl (by decide) rfl (fun ls hl => ?_)
  refine lv_aload_n hC.1 hC.2.1 dX11_best_13 rfl (lv_at hl 1 rfl) ?_
  refine lv_iload_n hC.1 hC.2.1 dX11_best_14 rfl (lv_at hl 2 rfl) ?_
  refine rg_i G (rg_runV (As := [.int a1]) (rest := []) hC hT G (c_X11_freeFor l D cy lay Γ h _) (cwV 1 hC.2.2.2.2 gX11_best_X11_freeFor rfl rfl rfl hdV_X11_freeFor ⟨Nat.le_of_ble_eq_true rfl, Nat.le_of_ble_eq_true rfl⟩) (rg_recv hT G (by decide) r_mo k_X11) rfl hl.1 rfl (Nat.le_of_ble_eq_true rfl) dX11_best_15 ⟨Nat.le_of_ble_eq_true rfl, Nat.le_of_ble_eq_true rfl⟩) (fun r5 σ4 H locs h G => ?_)
  (try dsimp only at h)
  refine lv_iload_n hC.1 hC.2.1 dX11_best_18 rfl (lv_at hl 3 rfl) ?_
  refine lv_iconst (v := (-1)) hC.1 hC.2.1 dX11_best_19 (by decide) ?_
  refine lv_ixor hC.1 hC.2.1 dX11_best_20 ?_
  refine lv_iand hC.1 hC.2.1 dX11_best_21 ?_
  refine lv_istore (lv' := [(5, .int (r5 &&& (a2 ^^^ (-1)))), (4, .ref (lay (33 + j2))), (0, .ref (lay 0)), (1, .int a1), (2, .int a2), (3, .int a3)]) hC.1 hC.2.1 dX11_best_22 hl (by decide) rfl (fun ls hl => ?_)
  refine lv_iconst (v := (-1)) hC.1 hC.2.1 dX11_best_24 (by decide) ?_
  refine lv_istore (lv' := [(6, .int (-1)), (5, .int (r5 &&& (a2 ^^^ (-1)))), (4, .ref (lay (33 + j2))), (0, .ref (lay 0)), (1, .int a1), (2, .int a2), (3, .int a3)]) hC.1 hC.2.1 dX11_best_25 hl (by decide) rfl (fun ls hl => ?_)
  refine lv_iload hC.1 hC.2.1 dX11_best_27 (lv_at hl 1 rfl) ?_
  refine lv_iload hC.1 hC.2.1 dX11_best_29 (lv_at hl 1 rfl) ?_
  refine lv_ineg hC.1 hC.2.1 dX11_best_31 ?_
  refine lv_iand hC.1 hC.2.1 dX11_best_32 ?_
  refine lv_istore (lv' := [(7, .int ((r5 &&& (a2 ^^^ (-1))) &&& (-(r5 &&& (a2 ^^^ (-1)))))), (6, .int (-1)), (5, .int (r5 &&& (a2 ^^^ (-1)))), (4, .ref (lay (33 + j2))), (0, .ref (lay 0)), (1, .int a1), (2, .int a2), (3, .int a3)]) hC.1 hC.2.1 dX11_best_33 hl (by decide) rfl (fun ls hl => ?_)
  refine lv_iconst (v := 0) hC.1 hC.2.1 dX11_best_35 (by decide) ?_
  refine lv_istore (lv' := [(8, .int 0), (7, .int ((r5 &&& (a2 ^^^ (-1))) &&& (-(r5 &&& (a2 ^^^ (-1)))))), (6, .int (-1)), (5, .int (r5 &&& (a2 ^^^ (-1)))), (4, .ref (lay (33 + j2))), (0, .ref (lay 0)), (1, .int a1), (2, .int a2), (3, .int a3)]) hC.1 hC.2.1 dX11_best_36 hl (by decide) rfl (fun ls hl => ?_)
  obtain ⟨n1, h⟩ := h
  exact l_X11_best_38 a1 a2 a3 hC hr hlocks hT n1 _ _ _ _ _ h hj3 _ _ _ G (lv_sub hl [5, 6, 7, 8, 4, 3, 2, 1] rfl)
theorem hdV_X11_best : yX11_best.cls = RX11 ∧ yX11_best.cls ≠ "java/lang/invoke/MethodHandle" ∧ yX11_best.cls ≠ "java/lang/invoke/VarHandle" ∧ (parseMethodDescriptor yX11_best.desc).map (fun d => d.parameters.length) = some 3 := by decide +kernel
abbrev rm_X11_fillings : Room := { frames := 11, cells := 0, slots := 0, locals := 283 }
theorem i_X11_fillings_X11 : ∀ w ∈ wsX110, w ∈ wsX11_fillings := fun _ h => List.mem_cons_of_mem _ (List.mem_append_left _ (List.mem_append_left _ (List.mem_append_left _ (List.mem_append_left _ (List.mem_append_right _ h)))))
def u_X11_fillings_24 (Γ : RG) (post : Int32 → MS → Prop) (a1 : Int32) : Nat → MS → Nat → Int32 → Int32 → Int32 → Prop
  | 0, _, _, _, _, _ => False
  | n + 1, σ, v2, v3, v4, v5 => ((v3 < v5 → post v4 σ) ∧ (¬ v3 < v5 → (((v5 &&& (v3 ^^^ (-1))) = 0 → w_X11_isFilling Γ (fun r9 σ8 => ((r9 = 0 → u_X11_fillings_24 Γ post a1 n σ8 v2 v3 (v4 + 0) (v5 + 1)) ∧ (¬ r9 = 0 → u_X11_fillings_24 Γ post a1 n σ8 v2 v3 (v4 + 1) (v5 + 1)))) σ v5 v2) ∧ (¬ (v5 &&& (v3 ^^^ (-1))) = 0 → u_X11_fillings_24 Γ post a1 n σ v2 v3 (v4 + 0) (v5 + 1)))))
set_option maxHeartbeats 4000000 in
set_option maxRecDepth 100000 in
theorem l_X11_fillings_24 {p : Program} {l : Launch} {e : Env} {s : State} {m : MethodId} {args : Array Value} {below : List Frame} {meth : Method} {c : Code} {D : va_G} {cy : Nat → ClassId} {lay : Nat → Nat} {Γ : RG} {post : Int32 → MS → Prop} (a1 : Int32) (hC : CallFix p m c cX11_fillings 6 s args wsX11_fillings RX11) (hr : meth.sig.returnType = some .int) (hlocks : meth.locks = false) (hT : rT D cy lay Γ s) : ∀ (n : Nat), ∀ (σ : MS) (v2 : Nat) (v3 : Int32) (v4 : Int32) (v5 : Int32), u_X11_fillings_24 Γ post a1 n σ v2 v3 v4 v5 → ∀ (hv2 : v2 < 14 ∧ v2 < Γ.2.2.1), ∀ (H : Heap) (locs : List Loc) (ls : Array Slot), rG D cy lay Γ tn σ (rA cy lay Γ s.heap.size) s.heap H locs → lv_has ls 6 [(0, .ref (lay 0)), (1, .int a1), (2, .ref (lay (33 + v2))), (3, .int v3), (4, .int v4), (5, .int v5)] → W p l e rm_X11_fillings s m args below meth c H locs 0 0 (MQ below (va_Qi post (rO D cy lay Γ) (rA cy lay Γ s.heap.size)) args s 0 0 (rA cy lay Γ s.heap.size)) (F0 m 24 ls []) := by
  intro n
  induction n with
  | zero =>
    intro σ v2 v3 v4 v5 h
    exact h.elim
  | succ n ih =>
    intro σ v2 v3 v4 v5 h hv2 H locs ls G hl
    rw [u_X11_fillings_24] at h
    refine lv_iload hC.1 hC.2.1 dX11_fillings_24 (lv_at hl 5 rfl) ?_
    refine lv_iload_n hC.1 hC.2.1 dX11_fillings_26 rfl (lv_at hl 3 rfl) ?_
    refine lv_icmp_gt (tgt := 65) hC.1 hC.2.1 dX11_fillings_27 (by decide) (fun c6 => ?_) (fun c6 => ?_)
    · replace h := h.1 c6
      refine lv_iload hC.1 hC.2.1 dX11_fillings_65 (lv_at hl 4 rfl) ?_
      exact rg_iret hC hr hlocks G h dX11_fillings_67
    · replace h := h.2 c6
      refine lv_iload hC.1 hC.2.1 dX11_fillings_30 (lv_at hl 4 rfl) ?_
      refine lv_iload hC.1 hC.2.1 dX11_fillings_32 (lv_at hl 5 rfl) ?_
      refine lv_iload_n hC.1 hC.2.1 dX11_fillings_34 rfl (lv_at hl 3 rfl) ?_
      refine lv_iconst (v := (-1)) hC.1 hC.2.1 dX11_fillings_35 (by decide) ?_
      refine lv_ixor hC.1 hC.2.1 dX11_fillings_36 ?_
      refine lv_iand hC.1 hC.2.1 dX11_fillings_37 ?_
      refine lv_if_ne (tgt := 55) hC.1 hC.2.1 dX11_fillings_38 (by decide) (fun c7 => ?_) (fun c7 => ?_)
      · replace h := h.2 c7
        refine lv_iconst (v := 0) hC.1 hC.2.1 dX11_fillings_55 (by decide) ?_
        refine lv_iadd hC.1 hC.2.1 dX11_fillings_56 ?_
        refine lv_istore (lv' := [(4, .int (v4 + 0)), (0, .ref (lay 0)), (1, .int a1), (2, .ref (lay (33 + v2))), (3, .int v3), (5, .int v5)]) hC.1 hC.2.1 dX11_fillings_57 hl (by decide) rfl (fun ls hl => ?_)
        refine lv_iinc (v := v5 + 1) (lv' := [(5, .int (v5 + 1)), (4, .int (v4 + 0)), (0, .ref (lay 0)), (1, .int a1), (2, .ref (lay (33 + v2))), (3, .int v3)]) hC.1 hC.2.1 dX11_fillings_59 hl (k := 5) rfl rfl (by decide) rfl (fun ls hl => ?_)
        refine lv_goto (tgt := 24) hC.1 hC.2.1 dX11_fillings_62 (by decide) ?_
        exact ih _ _ _ _ _ h hv2 _ _ _ G (lv_sub hl [2, 3, 4, 5, 1, 0] rfl)
      · replace h := h.1 c7
        refine lv_aload_n hC.1 hC.2.1 dX11_fillings_41 rfl (lv_at hl 0 rfl) ?_
        refine lv_iload hC.1 hC.2.1 dX11_fillings_42 (lv_at hl 5 rfl) ?_
        refine lv_aload_n hC.1 hC.2.1 dX11_fillings_44 rfl (lv_at hl 2 rfl) ?_
        refine rg_i G (rg_runV (As := [.int v5, .ref (lay (33 + v2))]) (rest := [.int v4]) hC hT G (c_X11_isFilling l D cy lay Γ h hv2 _) (cwV 2 hC.2.2.2.2 gX11_fillings_X11_isFilling rfl rfl rfl hdV_X11_isFilling ⟨Nat.le_of_ble_eq_true rfl, Nat.le_of_ble_eq_true rfl⟩) (rg_recv hT G (by decide) r_mo k_X11) rfl hl.1 rfl (Nat.le_of_ble_eq_true rfl) dX11_fillings_45 ⟨Nat.le_of_ble_eq_true rfl, Nat.le_of_ble_eq_true rfl⟩) (fun r9 σ8 H locs h G => ?_)
        (try dsimp only at h)
        refine lv_if_eq (tgt := 55) hC.1 hC.2.1 dX11_fillings_48 (by decide) (fun c10 => ?_) (fun c10 => ?_)
        · replace h := h.1 c10
          refine lv_iconst (v := 0) hC.1 hC.2.1 dX11_fillings_55 (by decide) ?_
          refine lv_iadd hC.1 hC.2.1 dX11_fillings_56 ?_
          refine lv_istore (lv' := [(4, .int (v4 + 0)), (0, .ref (lay 0)), (1, .int a1), (2, .ref (lay (33 + v2))), (3, .int v3), (5, .int v5)]) hC.1 hC.2.1 dX11_fillings_57 hl (by decide) rfl (fun ls hl => ?_)
          refine lv_iinc (v := v5 + 1) (lv' := [(5, .int (v5 + 1)), (4, .int (v4 + 0)), (0, .ref (lay 0)), (1, .int a1), (2, .ref (lay (33 + v2))), (3, .int v3)]) hC.1 hC.2.1 dX11_fillings_59 hl (k := 5) rfl rfl (by decide) rfl (fun ls hl => ?_)
          refine lv_goto (tgt := 24) hC.1 hC.2.1 dX11_fillings_62 (by decide) ?_
          exact ih _ _ _ _ _ h hv2 _ _ _ G (lv_sub hl [2, 3, 4, 5, 1, 0] rfl)
        · replace h := h.2 c10
          refine lv_iconst (v := 1) hC.1 hC.2.1 dX11_fillings_51 (by decide) ?_
          refine lv_goto (tgt := 56) hC.1 hC.2.1 dX11_fillings_52 (by decide) ?_
          refine lv_iadd hC.1 hC.2.1 dX11_fillings_56 ?_
          refine lv_istore (lv' := [(4, .int (v4 + 1)), (0, .ref (lay 0)), (1, .int a1), (2, .ref (lay (33 + v2))), (3, .int v3), (5, .int v5)]) hC.1 hC.2.1 dX11_fillings_57 hl (by decide) rfl (fun ls hl => ?_)
          refine lv_iinc (v := v5 + 1) (lv' := [(5, .int (v5 + 1)), (4, .int (v4 + 1)), (0, .ref (lay 0)), (1, .int a1), (2, .ref (lay (33 + v2))), (3, .int v3)]) hC.1 hC.2.1 dX11_fillings_59 hl (k := 5) rfl rfl (by decide) rfl (fun ls hl => ?_)
          refine lv_goto (tgt := 24) hC.1 hC.2.1 dX11_fillings_62 (by decide) ?_
          exact ih _ _ _ _ _ h hv2 _ _ _ G (lv_sub hl [2, 3, 4, 5, 1, 0] rfl)
def w_X11_fillings (Γ : RG) (post : Int32 → MS → Prop) (σ : MS) (a1 : Int32) : Prop := w_lw_Jx4a65c_get_915e3 Γ (fun j2 σ1 => ((j2 < 14 ∧ j2 < Γ.2.2.1) ∧ w_X11_freeFor Γ (fun r5 σ4 => (∃ k, u_X11_fillings_24 Γ post a1 k σ4 j2 r5 0 1)) σ1 a1)) σ a1
set_option maxHeartbeats 4000000 in
set_option maxRecDepth 100000 in
theorem c_X11_fillings (l : Launch) (D : va_G) (cy : Nat → ClassId) (lay : Nat → Nat) (Γ : RG) {σ : MS} {post : Int32 → MS → Prop} {a1 : Int32} (h : w_X11_fillings Γ post σ a1) (sz : Nat) : Met l yX11_fillings wsX11_fillings rm_X11_fillings (va_Pc [.ref (lay 0), .int a1] (rI D cy lay Γ σ sz)) (va_Qi post (rO D cy lay Γ) (rA cy lay Γ sz)) 0 0 (rA cy lay Γ sz) := by
  refine rg_ofW (cc := cX11_fillings) (maxL := 6) (ret := some .int) (own := RX11) (Qc := fun sz => va_Qi post (rO D cy lay Γ) (rA cy lay Γ sz)) (by decide) rfl (Nat.le_of_ble_eq_true rfl) rfl ?_
  intro p e s m args below meth c ls hC hr hlocks hT G hl
  unfold w_X11_fillings at h
  have hl : lv_has ls 6 [(0, .ref (lay 0)), (1, .int a1)] := hl
  refine lv_aload_n hC.1 hC.2.1 dX11_fillings_0 rfl (lv_at hl 0 rfl) ?_
  refine rg_get hC hT G (by decide) r_mo k_X11 i_X11_fillings_X11 5 (by decide) (wm 1 rfl) rfl dX11_fillings_1 ?_
  refine lv_iload_n hC.1 hC.2.1 dX11_fillings_4 rfl (lv_at hl 1 rfl) ?_
  refine rg_r (f := fun i => lay (33 + i)) G (rg_runV (As := [.int a1]) (rest := []) hC hT G (c_lw_Jx4a65c_get_915e3 l D cy lay Γ h _) (cwV 1 hC.2.2.2.2 gX11_fillings_Jx4a65c_get_915e3 rfl rfl rfl hdV_Jx4a65c_get_915e3 ⟨Nat.le_of_ble_eq_true rfl, Nat.le_of_ble_eq_true rfl⟩) (rg_recv hT G (by decide) r_lw k_AL) rfl hl.1 rfl (Nat.le_of_ble_eq_true rfl) dX11_fillings_5 ⟨Nat.le_of_ble_eq_true rfl, Nat.le_of_ble_eq_true rfl⟩) (fun j2 σ1 H locs h G => ?_)
  (try dsimp only at h)
  obtain ⟨hj3, h⟩ := h
  refine rg_cast hC hT k_X10 (wm 2 rfl) (rg_recv hT G (rk_wd hj3) (r_wd hj3) k_X10) dX11_fillings_8 ?_
  refine lv_astore_n (lv' := [(2, .ref (lay (33 + j2))), (0, .ref (lay 0)), (1, .int a1)]) hC.1 hC.2.1 dX11_fillings_11 rfl hl (by decide) rfl (fun ls hl => ?_)
  refine lv_aload_n hC.1 hC.2.1 dX11_fillings_12 rfl (lv_at hl 1 rfl) ?_
  refine lv_iload_n hC.1 hC.2.1 dX11_fillings_13 rfl (lv_at hl 2 rfl) ?_
  refine rg_i G (rg_runV (As := [.int a1]) (rest := []) hC hT G (c_X11_freeFor l D cy lay Γ h _) (cwV 1 hC.2.2.2.2 gX11_fillings_X11_freeFor rfl rfl rfl hdV_X11_freeFor ⟨Nat.le_of_ble_eq_true rfl, Nat.le_of_ble_eq_true rfl⟩) (rg_recv hT G (by decide) r_mo k_X11) rfl hl.1 rfl (Nat.le_of_ble_eq_true rfl) dX11_fillings_14 ⟨Nat.le_of_ble_eq_true rfl, Nat.le_of_ble_eq_true rfl⟩) (fun r5 σ4 H locs h G => ?_)
  (try dsimp only at h)
  refine lv_istore_n (lv' := [(3, .int r5), (2, .ref (lay (33 + j2))), (0, .ref (lay 0)), (1, .int a1)]) hC.1 hC.2.1 dX11_fillings_17 rfl hl (by decide) rfl (fun ls hl => ?_)
  refine lv_iconst (v := 0) hC.1 hC.2.1 dX11_fillings_18 (by decide) ?_
  refine lv_istore (lv' := [(4, .int 0), (3, .int r5), (2, .ref (lay (33 + j2))), (0, .ref (lay 0)), (1, .int a1)]) hC.1 hC.2.1 dX11_fillings_19 hl (by decide) rfl (fun ls hl => ?_)
  refine lv_iconst (v := 1) hC.1 hC.2.1 dX11_fillings_21 (by decide) ?_
  refine lv_istore (lv' := [(5, .int 1), (4, .int 0), (3, .int r5), (2, .ref (lay (33 + j2))), (0, .ref (lay 0)), (1, .int a1)]) hC.1 hC.2.1 dX11_fillings_22 hl (by decide) rfl (fun ls hl => ?_)
  obtain ⟨n1, h⟩ := h
  exact l_X11_fillings_24 a1 hC hr hlocks hT n1 _ _ _ _ _ h hj3 _ _ _ G (lv_sub hl [4, 5, 3, 2, 1, 0] rfl)
theorem hdV_X11_fillings : yX11_fillings.cls = RX11 ∧ yX11_fillings.cls ≠ "java/lang/invoke/MethodHandle" ∧ yX11_fillings.cls ≠ "java/lang/invoke/VarHandle" ∧ (parseMethodDescriptor yX11_fillings.desc).map (fun d => d.parameters.length) = some 1 := by decide +kernel
abbrev rm_X11_why : Room := { frames := 12, cells := 0, slots := 0, locals := 311 }
theorem i_X11_why_X11 : ∀ w ∈ wsX110, w ∈ wsX11_why := fun _ h => List.mem_cons_of_mem _ (List.mem_append_left _ (List.mem_append_left _ (List.mem_append_left _ (List.mem_append_left _ (List.mem_append_right _ h)))))
theorem i_X11_why_X10 : ∀ w ∈ wsX100, w ∈ wsX11_why := fun _ h => List.mem_cons_of_mem _ (List.mem_append_left _ (List.mem_append_left _ (List.mem_append_left _ (List.mem_append_right _ h))))
def u_X11_why_70 (Γ : RG) (post : Int32 → MS → Prop) (a1 : Int32) : Nat → MS → Nat → Int32 → Int32 → Int32 → Int32 → Prop
  | 0, _, _, _, _, _, _ => False
  | n + 1, σ, v2, v3, v4, v5, v6 => ((v4 < v6 → post v5 σ) ∧ (¬ v4 < v6 → (((v6 &&& (v4 ^^^ (-1))) = 0 → w_r_J6_bitCount_0f7a4 Γ (fun r22 σ21 => w_X11_needed_ Γ (fun r24 σ23 => ((r22 = r24 → w_K0_X11_canPlay Γ (fun r27 σ26 => ((r27 = 0 → u_X11_why_70 Γ post a1 n σ26 v2 v3 v4 v5 (v6 + 1)) ∧ (¬ r27 = 0 → w_X11_areKnown Γ (fun r30 σ29 => ((r30 = 0 → u_X11_why_70 Γ post a1 n σ29 v2 v3 v4 4 (v6 + 1)) ∧ (¬ r30 = 0 → post 3 σ29))) σ26 v6 (σ26 (33 + v2) 5)))) σ23 v6 v3 0 0) ∧ (¬ r22 = r24 → u_X11_why_70 Γ post a1 n σ23 v2 v3 v4 v5 (v6 + 1)))) σ21 v3) σ v6) ∧ (¬ (v6 &&& (v4 ^^^ (-1))) = 0 → u_X11_why_70 Γ post a1 n σ v2 v3 v4 v5 (v6 + 1)))))
set_option maxHeartbeats 4000000 in
set_option maxRecDepth 100000 in
theorem l_X11_why_70 {p : Program} {l : Launch} {e : Env} {s : State} {m : MethodId} {args : Array Value} {below : List Frame} {meth : Method} {c : Code} {D : va_G} {cy : Nat → ClassId} {lay : Nat → Nat} {Γ : RG} {post : Int32 → MS → Prop} (a1 : Int32) (hC : CallFix p m c cX11_why 7 s args wsX11_why RX11) (hr : meth.sig.returnType = some .int) (hlocks : meth.locks = false) (hT : rT D cy lay Γ s) : ∀ (n : Nat), ∀ (σ : MS) (v2 : Nat) (v3 : Int32) (v4 : Int32) (v5 : Int32) (v6 : Int32), u_X11_why_70 Γ post a1 n σ v2 v3 v4 v5 v6 → ∀ (hv2 : v2 < 14 ∧ v2 < Γ.2.2.1), ∀ (H : Heap) (locs : List Loc) (ls : Array Slot), rG D cy lay Γ tn σ (rA cy lay Γ s.heap.size) s.heap H locs → lv_has ls 7 [(0, .ref (lay 0)), (1, .int a1), (2, .ref (lay (33 + v2))), (3, .int v3), (4, .int v4), (5, .int v5), (6, .int v6)] → W p l e rm_X11_why s m args below meth c H locs 0 0 (MQ below (va_Qi post (rO D cy lay Γ) (rA cy lay Γ s.heap.size)) args s 0 0 (rA cy lay Γ s.heap.size)) (F0 m 70 ls []) := by
  intro n
  induction n with
  | zero =>
    intro σ v2 v3 v4 v5 v6 h
    exact h.elim
  | succ n ih =>
    intro σ v2 v3 v4 v5 v6 h hv2 H locs ls G hl
    rw [u_X11_why_70] at h
    refine lv_iload hC.1 hC.2.1 dX11_why_70 (lv_at hl 6 rfl) ?_
    refine lv_iload hC.1 hC.2.1 dX11_why_72 (lv_at hl 4 rfl) ?_
    refine lv_icmp_gt (tgt := 138) hC.1 hC.2.1 dX11_why_74 (by decide) (fun c19 => ?_) (fun c19 => ?_)
    · replace h := h.1 c19
      refine lv_iload hC.1 hC.2.1 dX11_why_138 (lv_at hl 5 rfl) ?_
      exact rg_iret hC hr hlocks G h dX11_why_140
    · replace h := h.2 c19
      refine lv_iload hC.1 hC.2.1 dX11_why_77 (lv_at hl 6 rfl) ?_
      refine lv_iload hC.1 hC.2.1 dX11_why_79 (lv_at hl 4 rfl) ?_
      refine lv_iconst (v := (-1)) hC.1 hC.2.1 dX11_why_81 (by decide) ?_
      refine lv_ixor hC.1 hC.2.1 dX11_why_82 ?_
      refine lv_iand hC.1 hC.2.1 dX11_why_83 ?_
      refine lv_if_ne (tgt := 132) hC.1 hC.2.1 dX11_why_84 (by decide) (fun c20 => ?_) (fun c20 => ?_)
      · replace h := h.2 c20
        refine lv_iinc (v := v6 + 1) (lv' := [(6, .int (v6 + 1)), (0, .ref (lay 0)), (1, .int a1), (2, .ref (lay (33 + v2))), (3, .int v3), (4, .int v4), (5, .int v5)]) hC.1 hC.2.1 dX11_why_132 hl (k := 6) rfl rfl (by decide) rfl (fun ls hl => ?_)
        refine lv_goto (tgt := 70) hC.1 hC.2.1 dX11_why_135 (by decide) ?_
        exact ih _ _ _ _ _ _ h hv2 _ _ _ G (lv_sub hl [1, 2, 3, 4, 5, 6, 0] rfl)
      · replace h := h.1 c20
        refine lv_iload hC.1 hC.2.1 dX11_why_87 (lv_at hl 6 rfl) ?_
        refine rg_i G (rg_runS (As := [.int v6]) (rest := []) hC hT G (c_r_J6_bitCount_0f7a4 l D cy lay Γ h _) (va_cwS 1 hC.2.2.2.2 gX11_why_J6_bitCount_0f7a4 rfl rfl rfl hdS_J6_bitCount_0f7a4 ⟨Nat.le_of_ble_eq_true rfl, Nat.le_of_ble_eq_true rfl⟩) rfl hl.1 rfl (Nat.le_of_ble_eq_true rfl) dX11_why_89 ⟨Nat.le_of_ble_eq_true rfl, Nat.le_of_ble_eq_true rfl⟩) (fun r22 σ21 H locs h G => ?_)
        (try dsimp only at h)
        refine lv_iload_n hC.1 hC.2.1 dX11_why_92 rfl (lv_at hl 3 rfl) ?_
        refine rg_i G (rg_runS (As := [.int v3]) (rest := [.int r22]) hC hT G (c_X11_needed_ l D cy lay Γ h _) (va_cwS 1 hC.2.2.2.2 gX11_why_X11_needed_ rfl rfl rfl hdS_X11_needed_ ⟨Nat.le_of_ble_eq_true rfl, Nat.le_of_ble_eq_true rfl⟩) rfl hl.1 rfl (Nat.le_of_ble_eq_true rfl) dX11_why_93 ⟨Nat.le_of_ble_eq_true rfl, Nat.le_of_ble_eq_true rfl⟩) (fun r24 σ23 H locs h G => ?_)
        (try dsimp only at h)
        refine lv_icmp_ne (tgt := 132) hC.1 hC.2.1 dX11_why_96 (by decide) (fun c25 => ?_) (fun c25 => ?_)
        · replace h := h.2 c25
          refine lv_iinc (v := v6 + 1) (lv' := [(6, .int (v6 + 1)), (0, .ref (lay 0)), (1, .int a1), (2, .ref (lay (33 + v2))), (3, .int v3), (4, .int v4), (5, .int v5)]) hC.1 hC.2.1 dX11_why_132 hl (k := 6) rfl rfl (by decide) rfl (fun ls hl => ?_)
          refine lv_goto (tgt := 70) hC.1 hC.2.1 dX11_why_135 (by decide) ?_
          exact ih _ _ _ _ _ _ h hv2 _ _ _ G (lv_sub hl [1, 2, 3, 4, 5, 6, 0] rfl)
        · replace h := h.1 c25
          refine lv_aload_n hC.1 hC.2.1 dX11_why_99 rfl (lv_at hl 0 rfl) ?_
          refine lv_iload hC.1 hC.2.1 dX11_why_100 (lv_at hl 6 rfl) ?_
          refine lv_iload_n hC.1 hC.2.1 dX11_why_102 rfl (lv_at hl 3 rfl) ?_
          refine lv_iconst (v := 0) hC.1 hC.2.1 dX11_why_103 (by decide) ?_
          refine lv_iconst (v := 0) hC.1 hC.2.1 dX11_why_104 (by decide) ?_
          refine rg_i G (rg_runV (As := [.int v6, .int v3, .int 0, .int 0]) (rest := []) hC hT G (c_K0_X11_canPlay l D cy lay Γ h _) (cwV 4 hC.2.2.2.2 gX11_why_X11_canPlay rfl rfl rfl hdV_X11_canPlay ⟨Nat.le_of_ble_eq_true rfl, Nat.le_of_ble_eq_true rfl⟩) (rg_recv hT G (by decide) r_mo k_X11) rfl hl.1 rfl (Nat.le_of_ble_eq_true rfl) dX11_why_105 ⟨Nat.le_of_ble_eq_true rfl, Nat.le_of_ble_eq_true rfl⟩) (fun r27 σ26 H locs h G => ?_)
          (try dsimp only at h)
          refine lv_if_ne (tgt := 114) hC.1 hC.2.1 dX11_why_108 (by decide) (fun c28 => ?_) (fun c28 => ?_)
          · replace h := h.2 c28
            refine lv_aload_n hC.1 hC.2.1 dX11_why_114 rfl (lv_at hl 0 rfl) ?_
            refine lv_iload hC.1 hC.2.1 dX11_why_115 (lv_at hl 6 rfl) ?_
            refine lv_aload_n hC.1 hC.2.1 dX11_why_117 rfl (lv_at hl 2 rfl) ?_
            refine rg_getN hC hT G (rk_wd hv2) (r_wd hv2) k_X10 i_X11_why_X10 5 (by decide) 15 rfl rfl dX11_why_118 ?_
            refine rg_i G (rg_runV (As := [.int v6, .int (σ26 (33 + v2) 5)]) (rest := []) hC hT G (c_X11_areKnown l D cy lay Γ h _) (cwV 2 hC.2.2.2.2 gX11_why_X11_areKnown rfl rfl rfl hdV_X11_areKnown ⟨Nat.le_of_ble_eq_true rfl, Nat.le_of_ble_eq_true rfl⟩) (rg_recv hT G (by decide) r_mo k_X11) rfl hl.1 rfl (Nat.le_of_ble_eq_true rfl) dX11_why_121 ⟨Nat.le_of_ble_eq_true rfl, Nat.le_of_ble_eq_true rfl⟩) (fun r30 σ29 H locs h G => ?_)
            (try dsimp only at h)
            refine lv_if_eq (tgt := 129) hC.1 hC.2.1 dX11_why_124 (by decide) (fun c31 => ?_) (fun c31 => ?_)
            · replace h := h.1 c31
              refine lv_iconst (v := 4) hC.1 hC.2.1 dX11_why_129 (by decide) ?_
              refine lv_istore (lv' := [(5, .int 4), (0, .ref (lay 0)), (1, .int a1), (2, .ref (lay (33 + v2))), (3, .int v3), (4, .int v4), (6, .int v6)]) hC.1 hC.2.1 dX11_why_130 hl (by decide) rfl (fun ls hl => ?_)
              refine lv_iinc (v := v6 + 1) (lv' := [(6, .int (v6 + 1)), (5, .int 4), (0, .ref (lay 0)), (1, .int a1), (2, .ref (lay (33 + v2))), (3, .int v3), (4, .int v4)]) hC.1 hC.2.1 dX11_why_132 hl (k := 6) rfl rfl (by decide) rfl (fun ls hl => ?_)
              refine lv_goto (tgt := 70) hC.1 hC.2.1 dX11_why_135 (by decide) ?_
              exact ih _ _ _ _ _ _ h hv2 _ _ _ G (lv_sub hl [2, 3, 4, 5, 6, 1, 0] rfl)
            · replace h := h.2 c31
              refine lv_iconst (v := 3) hC.1 hC.2.1 dX11_why_127 (by decide) ?_
              exact rg_iret hC hr hlocks G h dX11_why_128
          · replace h := h.1 c28
            refine lv_goto (tgt := 132) hC.1 hC.2.1 dX11_why_111 (by decide) ?_
            refine lv_iinc (v := v6 + 1) (lv' := [(6, .int (v6 + 1)), (0, .ref (lay 0)), (1, .int a1), (2, .ref (lay (33 + v2))), (3, .int v3), (4, .int v4), (5, .int v5)]) hC.1 hC.2.1 dX11_why_132 hl (k := 6) rfl rfl (by decide) rfl (fun ls hl => ?_)
            refine lv_goto (tgt := 70) hC.1 hC.2.1 dX11_why_135 (by decide) ?_
            exact ih _ _ _ _ _ _ h hv2 _ _ _ G (lv_sub hl [1, 2, 3, 4, 5, 6, 0] rfl)
def w_X11_why (Γ : RG) (post : Int32 → MS → Prop) (σ : MS) (a1 : Int32) : Prop := w_lw_Jx4a65c_get_915e3 Γ (fun j2 σ1 => ((j2 < 14 ∧ j2 < Γ.2.2.1) ∧ w_lb_Jx4a65c_get_915e3 Γ (fun j5 σ4 => ((j5 < Γ.2.1) ∧ w_in_J6_intValue_8abf5 Γ (fun r8 σ7 => w_X11_freeFor Γ (fun r10 σ9 => w_r_J6_bitCount_0f7a4 Γ (fun r12 σ11 => w_X11_needed_ Γ (fun r14 σ13 => ((r14 ≤ r12 → w_X11_best Γ (fun r17 σ16 => ((r17 = (-1) → (∃ k, u_X11_why_70 Γ post a1 k σ16 j2 r8 r10 2 1)) ∧ (¬ r17 = (-1) → post 0 σ16))) σ13 a1 0 0) ∧ (¬ r14 ≤ r12 → post 1 σ13))) σ11 r8) σ9 r10) σ7 a1) σ4 j5)) σ1 (σ1 (33 + j2) 0))) σ a1
set_option maxHeartbeats 4000000 in
set_option maxRecDepth 100000 in
theorem c_X11_why (l : Launch) (D : va_G) (cy : Nat → ClassId) (lay : Nat → Nat) (Γ : RG) {σ : MS} {post : Int32 → MS → Prop} {a1 : Int32} (h : w_X11_why Γ post σ a1) (sz : Nat) : Met l yX11_why wsX11_why rm_X11_why (va_Pc [.ref (lay 0), .int a1] (rI D cy lay Γ σ sz)) (va_Qi post (rO D cy lay Γ) (rA cy lay Γ sz)) 0 0 (rA cy lay Γ sz) := by
  refine rg_ofW (cc := cX11_why) (maxL := 7) (ret := some .int) (own := RX11) (Qc := fun sz => va_Qi post (rO D cy lay Γ) (rA cy lay Γ sz)) (by decide) rfl (Nat.le_of_ble_eq_true rfl) rfl ?_
  intro p e s m args below meth c ls hC hr hlocks hT G hl
  unfold w_X11_why at h
  have hl : lv_has ls 7 [(0, .ref (lay 0)), (1, .int a1)] := hl
  refine lv_aload_n hC.1 hC.2.1 dX11_why_0 rfl (lv_at hl 0 rfl) ?_
  refine rg_get hC hT G (by decide) r_mo k_X11 i_X11_why_X11 5 (by decide) (wm 1 rfl) rfl dX11_why_1 ?_
  refine lv_iload_n hC.1 hC.2.1 dX11_why_4 rfl (lv_at hl 1 rfl) ?_
  refine rg_r (f := fun i => lay (33 + i)) G (rg_runV (As := [.int a1]) (rest := []) hC hT G (c_lw_Jx4a65c_get_915e3 l D cy lay Γ h _) (cwV 1 hC.2.2.2.2 gX11_why_Jx4a65c_get_915e3 rfl rfl rfl hdV_Jx4a65c_get_915e3 ⟨Nat.le_of_ble_eq_true rfl, Nat.le_of_ble_eq_true rfl⟩) (rg_recv hT G (by decide) r_lw k_AL) rfl hl.1 rfl (Nat.le_of_ble_eq_true rfl) dX11_why_5 ⟨Nat.le_of_ble_eq_true rfl, Nat.le_of_ble_eq_true rfl⟩) (fun j2 σ1 H locs h G => ?_)
  (try dsimp only at h)
  obtain ⟨hj3, h⟩ := h
  refine rg_cast hC hT k_X10 (wm 2 rfl) (rg_recv hT G (rk_wd hj3) (r_wd hj3) k_X10) dX11_why_8 ?_
  refine lv_astore_n (lv' := [(2, .ref (lay (33 + j2))), (0, .ref (lay 0)), (1, .int a1)]) hC.1 hC.2.1 dX11_why_11 rfl hl (by decide) rfl (fun ls hl => ?_)
  refine lv_aload_n hC.1 hC.2.1 dX11_why_12 rfl (lv_at hl 1 rfl) ?_
  refine rg_get hC hT G (by decide) r_mo k_X11 i_X11_why_X11 4 (by decide) (wm 3 rfl) rfl dX11_why_13 ?_
  refine lv_aload_n hC.1 hC.2.1 dX11_why_16 rfl (lv_at hl 0 rfl) ?_
  refine rg_getN hC hT G (rk_wd hj3) (r_wd hj3) k_X10 i_X11_why_X10 0 (by decide) 10 rfl rfl dX11_why_17 ?_
  refine rg_r (f := fun i => Γ.2.2.2.2.1 i) G (rg_runV (As := [.int (σ1 (33 + j2) 0)]) (rest := []) hC hT G (c_lb_Jx4a65c_get_915e3 l D cy lay Γ h _) (cwV 1 hC.2.2.2.2 gX11_why_Jx4a65c_get_915e3 rfl rfl rfl hdV_Jx4a65c_get_915e3 ⟨Nat.le_of_ble_eq_true rfl, Nat.le_of_ble_eq_true rfl⟩) (rg_recv hT G (by decide) r_lb k_AL) rfl hl.1 rfl (Nat.le_of_ble_eq_true rfl) dX11_why_20 ⟨Nat.le_of_ble_eq_true rfl, Nat.le_of_ble_eq_true rfl⟩) (fun j5 σ4 H locs h G => ?_)
  (try dsimp only at h)
  obtain ⟨hj6, h⟩ := h
  refine rg_cast hC hT k_IN (wm 4 rfl) (rg_recvI hT G hj6) dX11_why_23 ?_
  refine rg_i G (rg_runV (As := []) (rest := []) hC hT G (c_in_J6_intValue_8abf5 l D cy lay Γ h hj6 _) (cwV 0 hC.2.2.2.2 gX11_why_J6_intValue_8abf5 rfl rfl rfl hdV_J6_intValue_8abf5 ⟨Nat.le_of_ble_eq_true rfl, Nat.le_of_ble_eq_true rfl⟩) (rg_recvI hT G hj6) rfl hl.1 rfl (Nat.le_of_ble_eq_true rfl) dX11_why_26 ⟨Nat.le_of_ble_eq_true rfl, Nat.le_of_ble_eq_true rfl⟩) (fun r8 σ7 H locs h G => ?_)
  (try dsimp only at h)
  refine lv_istore_n (lv' := [(3, .int r8), (2, .ref (lay (33 + j2))), (0, .ref (lay 0)), (1, .int a1)]) hC.1 hC.2.1 dX11_why_29 rfl hl (by decide) rfl (fun ls hl => ?_)
  refine lv_aload_n hC.1 hC.2.1 dX11_why_30 rfl (lv_at hl 2 rfl) ?_
  refine lv_iload_n hC.1 hC.2.1 dX11_why_31 rfl (lv_at hl 3 rfl) ?_
  refine rg_i G (rg_runV (As := [.int a1]) (rest := []) hC hT G (c_X11_freeFor l D cy lay Γ h _) (cwV 1 hC.2.2.2.2 gX11_why_X11_freeFor rfl rfl rfl hdV_X11_freeFor ⟨Nat.le_of_ble_eq_true rfl, Nat.le_of_ble_eq_true rfl⟩) (rg_recv hT G (by decide) r_mo k_X11) rfl hl.1 rfl (Nat.le_of_ble_eq_true rfl) dX11_why_32 ⟨Nat.le_of_ble_eq_true rfl, Nat.le_of_ble_eq_true rfl⟩) (fun r10 σ9 H locs h G => ?_)
  (try dsimp only at h)
  refine lv_istore (lv' := [(4, .int r10), (3, .int r8), (2, .ref (lay (33 + j2))), (0, .ref (lay 0)), (1, .int a1)]) hC.1 hC.2.1 dX11_why_35 hl (by decide) rfl (fun ls hl => ?_)
  refine lv_iload hC.1 hC.2.1 dX11_why_37 (lv_at hl 0 rfl) ?_
  refine rg_i G (rg_runS (As := [.int r10]) (rest := []) hC hT G (c_r_J6_bitCount_0f7a4 l D cy lay Γ h _) (va_cwS 1 hC.2.2.2.2 gX11_why_J6_bitCount_0f7a4 rfl rfl rfl hdS_J6_bitCount_0f7a4 ⟨Nat.le_of_ble_eq_true rfl, Nat.le_of_ble_eq_true rfl⟩) rfl hl.1 rfl (Nat.le_of_ble_eq_true rfl) dX11_why_39 ⟨Nat.le_of_ble_eq_true rfl, Nat.le_of_ble_eq_true rfl⟩) (fun r12 σ11 H locs h G => ?_)
  (try dsimp only at h)
  refine lv_iload_n hC.1 hC.2.1 dX11_why_42 rfl (lv_at hl 1 rfl) ?_
  refine rg_i G (rg_runS (As := [.int r8]) (rest := [.int r12]) hC hT G (c_X11_needed_ l D cy lay Γ h _) (va_cwS 1 hC.2.2.2.2 gX11_why_X11_needed_ rfl rfl rfl hdS_X11_needed_ ⟨Nat.le_of_ble_eq_true rfl, Nat.le_of_ble_eq_true rfl⟩) rfl hl.1 rfl (Nat.le_of_ble_eq_true rfl) dX11_why_43 ⟨Nat.le_of_ble_eq_true rfl, Nat.le_of_ble_eq_true rfl⟩) (fun r14 σ13 H locs h G => ?_)
  (try dsimp only at h)
  refine lv_icmp_ge (tgt := 51) hC.1 hC.2.1 dX11_why_46 (by decide) (fun c15 => ?_) (fun c15 => ?_)
  · replace h := h.1 c15
    refine lv_aload_n hC.1 hC.2.1 dX11_why_51 rfl (lv_at hl 3 rfl) ?_
    refine lv_iload_n hC.1 hC.2.1 dX11_why_52 rfl (lv_at hl 4 rfl) ?_
    refine lv_iconst (v := 0) hC.1 hC.2.1 dX11_why_53 (by decide) ?_
    refine lv_iconst (v := 0) hC.1 hC.2.1 dX11_why_54 (by decide) ?_
    refine rg_i G (rg_runV (As := [.int a1, .int 0, .int 0]) (rest := []) hC hT G (c_X11_best l D cy lay Γ h _) (cwV 3 hC.2.2.2.2 gX11_why_X11_best rfl rfl rfl hdV_X11_best ⟨Nat.le_of_ble_eq_true rfl, Nat.le_of_ble_eq_true rfl⟩) (rg_recv hT G (by decide) r_mo k_X11) rfl hl.1 rfl (Nat.le_of_ble_eq_true rfl) dX11_why_55 ⟨Nat.le_of_ble_eq_true rfl, Nat.le_of_ble_eq_true rfl⟩) (fun r17 σ16 H locs h G => ?_)
    (try dsimp only at h)
    refine lv_iconst (v := (-1)) hC.1 hC.2.1 dX11_why_58 (by decide) ?_
    refine lv_icmp_eq (tgt := 64) hC.1 hC.2.1 dX11_why_59 (by decide) (fun c18 => ?_) (fun c18 => ?_)
    · replace h := h.1 c18
      refine lv_iconst (v := 2) hC.1 hC.2.1 dX11_why_64 (by decide) ?_
      refine lv_istore (lv' := [(5, .int 2), (4, .int r10), (3, .int r8), (2, .ref (lay (33 + j2))), (0, .ref (lay 0)), (1, .int a1)]) hC.1 hC.2.1 dX11_why_65 hl (by decide) rfl (fun ls hl => ?_)
      refine lv_iconst (v := 1) hC.1 hC.2.1 dX11_why_67 (by decide) ?_
      refine lv_istore (lv' := [(6, .int 1), (5, .int 2), (4, .int r10), (3, .int r8), (2, .ref (lay (33 + j2))), (0, .ref (lay 0)), (1, .int a1)]) hC.1 hC.2.1 dX11_why_68 hl (by decide) rfl (fun ls hl => ?_)
      obtain ⟨n1, h⟩ := h
      exact l_X11_why_70 a1 hC hr hlocks hT n1 _ _ _ _ _ _ h hj3 _ _ _ G (lv_sub hl [5, 6, 4, 3, 2, 1, 0] rfl)
    · replace h := h.2 c18
      refine lv_iconst (v := 0) hC.1 hC.2.1 dX11_why_62 (by decide) ?_
      exact rg_iret hC hr hlocks G h dX11_why_63
  · replace h := h.2 c15
    refine lv_iconst (v := 1) hC.1 hC.2.1 dX11_why_49 (by decide) ?_
    exact rg_iret hC hr hlocks G h dX11_why_50
theorem hdV_X11_why : yX11_why.cls = RX11 ∧ yX11_why.cls ≠ "java/lang/invoke/MethodHandle" ∧ yX11_why.cls ≠ "java/lang/invoke/VarHandle" ∧ (parseMethodDescriptor yX11_why.desc).map (fun d => d.parameters.length) = some 1 := by decide +kernel
abbrev rm_X11_fixNow : Room := { frames := 5, cells := 0, slots := 0, locals := 112 }
theorem i_X11_fixNow_X11 : ∀ w ∈ wsX110, w ∈ wsX11_fixNow := fun _ h => List.mem_cons_of_mem _ (List.mem_append_left _ (List.mem_append_left _ (List.mem_append_left _ (List.mem_append_right _ h))))
theorem i_X11_fixNow_X10 : ∀ w ∈ wsX100, w ∈ wsX11_fixNow := fun _ h => List.mem_cons_of_mem _ (List.mem_append_left _ (List.mem_append_left _ (List.mem_append_right _ h)))
def w_X11_fixNow (Γ : RG) (post : MS → Prop) (σ : MS) (a1 : Int32) (a2 : Int32) : Prop := w_lw_Jx4a65c_get_915e3 Γ (fun j2 σ1 => ((j2 < 14 ∧ j2 < Γ.2.2.1) ∧ w_X11_costOf Γ (fun r5 σ4 => w_X11_priceOf Γ (fun r7 σ6 => (∀ y8 : Int32, y8 = ((up2 (up2 σ6 (33 + j2) 9 r7) (33 + j2) 11 (((up2 σ6 (33 + j2) 9 r7) (33 + j2) 9) / 5)) 0 2) + ((up2 (up2 σ6 (33 + j2) 9 r7) (33 + j2) 11 (((up2 σ6 (33 + j2) 9 r7) (33 + j2) 9) / 5)) (33 + j2) 11) → post (up2 (up2 (up2 σ6 (33 + j2) 9 r7) (33 + j2) 11 (((up2 σ6 (33 + j2) 9 r7) (33 + j2) 9) / 5)) 0 2 y8))) σ4 r5) (up2 (up2 σ1 (33 + j2) 7 1) (33 + j2) 8 a2) a2 j2)) σ a1
set_option maxHeartbeats 4000000 in
set_option maxRecDepth 100000 in
theorem c_X11_fixNow (l : Launch) (D : va_G) (cy : Nat → ClassId) (lay : Nat → Nat) (Γ : RG) {σ : MS} {post : MS → Prop} {a1 : Int32} {a2 : Int32} (h : w_X11_fixNow Γ post σ a1 a2) (sz : Nat) : Met l yX11_fixNow wsX11_fixNow rm_X11_fixNow (va_Pc [.ref (lay 0), .int a1, .int a2] (rI D cy lay Γ σ sz)) (va_Qv post (rO D cy lay Γ) (rA cy lay Γ sz)) 0 0 (rA cy lay Γ sz) := by
  refine rg_ofW (cc := cX11_fixNow) (maxL := 4) (ret := none) (own := RX11) (Qc := fun sz => va_Qv post (rO D cy lay Γ) (rA cy lay Γ sz)) (by decide) rfl (Nat.le_of_ble_eq_true rfl) rfl ?_
  intro p e s m args below meth c ls hC hr hlocks hT G hl
  unfold w_X11_fixNow at h
  have hl : lv_has ls 4 [(0, .ref (lay 0)), (1, .int a1), (2, .int a2)] := hl
  refine lv_aload_n hC.1 hC.2.1 dX11_fixNow_0 rfl (lv_at hl 0 rfl) ?_
  refine rg_get hC hT G (by decide) r_mo k_X11 i_X11_fixNow_X11 5 (by decide) (wm 1 rfl) rfl dX11_fixNow_1 ?_
  refine lv_iload_n hC.1 hC.2.1 dX11_fixNow_4 rfl (lv_at hl 1 rfl) ?_
  refine rg_r (f := fun i => lay (33 + i)) G (rg_runV (As := [.int a1]) (rest := []) hC hT G (c_lw_Jx4a65c_get_915e3 l D cy lay Γ h _) (cwV 1 hC.2.2.2.2 gX11_fixNow_Jx4a65c_get_915e3 rfl rfl rfl hdV_Jx4a65c_get_915e3 ⟨Nat.le_of_ble_eq_true rfl, Nat.le_of_ble_eq_true rfl⟩) (rg_recv hT G (by decide) r_lw k_AL) rfl hl.1 rfl (Nat.le_of_ble_eq_true rfl) dX11_fixNow_5 ⟨Nat.le_of_ble_eq_true rfl, Nat.le_of_ble_eq_true rfl⟩) (fun j2 σ1 H locs h G => ?_)
  (try dsimp only at h)
  obtain ⟨hj3, h⟩ := h
  refine rg_cast hC hT k_X10 (wm 2 rfl) (rg_recv hT G (rk_wd hj3) (r_wd hj3) k_X10) dX11_fixNow_8 ?_
  refine lv_astore_n (lv' := [(3, .ref (lay (33 + j2))), (0, .ref (lay 0)), (1, .int a1), (2, .int a2)]) hC.1 hC.2.1 dX11_fixNow_11 rfl hl (by decide) rfl (fun ls hl => ?_)
  refine lv_aload_n hC.1 hC.2.1 dX11_fixNow_12 rfl (lv_at hl 0 rfl) ?_
  refine lv_iconst (v := 1) hC.1 hC.2.1 dX11_fixNow_13 (by decide) ?_
  refine rg_putN hC hT G (rk_wd hj3) (r_wd hj3) k_X10 i_X11_fixNow_X10 7 (by decide) 17 rfl rfl rfl (by simp) (r_wd hj3) (by rw [up2_eq]; rfl) dX11_fixNow_14 (fun H locs G => ?_)
  refine lv_aload_n hC.1 hC.2.1 dX11_fixNow_17 rfl (lv_at hl 0 rfl) ?_
  refine lv_iload_n hC.1 hC.2.1 dX11_fixNow_18 rfl (lv_at hl 3 rfl) ?_
  refine rg_putN hC hT G (rk_wd hj3) (r_wd hj3) k_X10 i_X11_fixNow_X10 8 (by decide) 18 rfl rfl rfl (by simp) (r_wd hj3) (by rw [up2_eq]; rfl) dX11_fixNow_19 (fun H locs G => ?_)
  refine lv_aload_n hC.1 hC.2.1 dX11_fixNow_22 rfl (lv_at hl 0 rfl) ?_
  refine lv_aload_n hC.1 hC.2.1 dX11_fixNow_23 rfl (lv_at hl 1 rfl) ?_
  refine lv_iload_n hC.1 hC.2.1 dX11_fixNow_24 rfl (lv_at hl 3 rfl) ?_
  refine lv_aload_n hC.1 hC.2.1 dX11_fixNow_25 rfl (lv_at hl 0 rfl) ?_
  refine rg_i G (rg_runV (As := [.int a2, .ref (lay (33 + j2))]) (rest := [.ref (lay (33 + j2))]) hC hT G (c_X11_costOf l D cy lay Γ h hj3 _) (cwV 2 hC.2.2.2.2 gX11_fixNow_X11_costOf rfl rfl rfl hdV_X11_costOf ⟨Nat.le_of_ble_eq_true rfl, Nat.le_of_ble_eq_true rfl⟩) (rg_recv hT G (by decide) r_mo k_X11) rfl hl.1 rfl (Nat.le_of_ble_eq_true rfl) dX11_fixNow_26 ⟨Nat.le_of_ble_eq_true rfl, Nat.le_of_ble_eq_true rfl⟩) (fun r5 σ4 H locs h G => ?_)
  (try dsimp only at h)
  refine rg_i G (rg_runS (As := [.int r5]) (rest := [.ref (lay (33 + j2))]) hC hT G (c_X11_priceOf l D cy lay Γ h _) (va_cwS 1 hC.2.2.2.2 gX11_fixNow_X11_priceOf rfl rfl rfl hdS_X11_priceOf ⟨Nat.le_of_ble_eq_true rfl, Nat.le_of_ble_eq_true rfl⟩) rfl hl.1 rfl (Nat.le_of_ble_eq_true rfl) dX11_fixNow_29 ⟨Nat.le_of_ble_eq_true rfl, Nat.le_of_ble_eq_true rfl⟩) (fun r7 σ6 H locs h G => ?_)
  (try dsimp only at h)
  refine rg_putN hC hT G (rk_wd hj3) (r_wd hj3) k_X10 i_X11_fixNow_X10 9 (by decide) 19 rfl rfl rfl (by simp) (r_wd hj3) (by rw [up2_eq]; rfl) dX11_fixNow_32 (fun H locs G => ?_)
  refine lv_aload_n hC.1 hC.2.1 dX11_fixNow_35 rfl (lv_at hl 0 rfl) ?_
  refine lv_aload_n hC.1 hC.2.1 dX11_fixNow_36 rfl (lv_at hl 0 rfl) ?_
  refine rg_getN hC hT G (rk_wd hj3) (r_wd hj3) k_X10 i_X11_fixNow_X10 9 (by decide) 19 rfl rfl dX11_fixNow_37 ?_
  refine lv_iconst (v := 5) hC.1 hC.2.1 dX11_fixNow_40 (by decide) ?_
  refine lv_idiv hC.1 hC.2.1 dX11_fixNow_41 (by decide) ?_
  refine rg_putN hC hT G (rk_wd hj3) (r_wd hj3) k_X10 i_X11_fixNow_X10 11 (by decide) 21 rfl rfl rfl (by simp) (r_wd hj3) (by rw [up2_eq]; rfl) dX11_fixNow_42 (fun H locs G => ?_)
  refine lv_aload_n hC.1 hC.2.1 dX11_fixNow_45 rfl (lv_at hl 1 rfl) ?_
  refine lv_dup hC.1 hC.2.1 dX11_fixNow_46 rfl ?_
  refine rg_get hC hT G (by decide) r_mo k_X11 i_X11_fixNow_X11 2 (by decide) (wm 3 rfl) rfl dX11_fixNow_47 ?_
  refine lv_aload_n hC.1 hC.2.1 dX11_fixNow_50 rfl (lv_at hl 0 rfl) ?_
  refine rg_getN hC hT G (rk_wd hj3) (r_wd hj3) k_X10 i_X11_fixNow_X10 11 (by decide) 21 rfl rfl dX11_fixNow_51 ?_
  refine lv_iadd hC.1 hC.2.1 dX11_fixNow_54 ?_
  refine lv_topi (fun y8 ey8 => ?_)
  replace h := h y8 ey8
  refine rg_put hC hT G (by decide) r_mo k_X11 i_X11_fixNow_X11 2 (by decide) (wm 3 rfl) rfl rfl (by simp) r_mo (by rw [up2_eq]; rfl) dX11_fixNow_55 (fun H locs G => ?_)
  exact rg_vret hC hr hlocks G h dX11_fixNow_58
theorem hdV_X11_fixNow : yX11_fixNow.cls = RX11 ∧ yX11_fixNow.cls ≠ "java/lang/invoke/MethodHandle" ∧ yX11_fixNow.cls ≠ "java/lang/invoke/VarHandle" ∧ (parseMethodDescriptor yX11_fixNow.desc).map (fun d => d.parameters.length) = some 2 := by decide +kernel
abbrev rm_X11_owed : Room := { frames := 0, cells := 0, slots := 0, locals := 0 }
theorem i_X11_owed_X10 : ∀ w ∈ wsX100, w ∈ wsX11_owed := fun _ h => List.mem_cons_of_mem _ (List.mem_append_left _ (List.mem_append_right _ h))
theorem i_X11_owed_X11 : ∀ w ∈ wsX110, w ∈ wsX11_owed := fun _ h => List.mem_cons_of_mem _ (List.mem_append_right _ h)
def w_X11_owed (Γ : RG) (post : Int32 → MS → Prop) (σ : MS) (i1 : Nat) : Prop := ((((σ (33 + i1) 1) - (σ 0 1)) < 30 → ((((σ (33 + i1) 1) - (σ 0 1)) < 14 → ((((σ (33 + i1) 1) - (σ 0 1)) < 7 → post (((σ (33 + i1) 9) * 100) / 100) σ) ∧ (¬ ((σ (33 + i1) 1) - (σ 0 1)) < 7 → post (((σ (33 + i1) 9) * 70) / 100) σ))) ∧ (¬ ((σ (33 + i1) 1) - (σ 0 1)) < 14 → post (((σ (33 + i1) 9) * 40) / 100) σ))) ∧ (¬ ((σ (33 + i1) 1) - (σ 0 1)) < 30 → post (((σ (33 + i1) 9) * 20) / 100) σ))
set_option maxHeartbeats 4000000 in
set_option maxRecDepth 100000 in
theorem c_X11_owed (l : Launch) (D : va_G) (cy : Nat → ClassId) (lay : Nat → Nat) (Γ : RG) {σ : MS} {post : Int32 → MS → Prop} {i1 : Nat} (h : w_X11_owed Γ post σ i1) (hi1 : i1 < 14 ∧ i1 < Γ.2.2.1) (sz : Nat) : Met l yX11_owed wsX11_owed rm_X11_owed (va_Pc [.ref (lay 0), .ref (lay (33 + i1))] (rI D cy lay Γ σ sz)) (va_Qi post (rO D cy lay Γ) (rA cy lay Γ sz)) 0 0 (rA cy lay Γ sz) := by
  refine rg_ofW (cc := cX11_owed) (maxL := 4) (ret := some .int) (own := RX11) (Qc := fun sz => va_Qi post (rO D cy lay Γ) (rA cy lay Γ sz)) (by decide) rfl (Nat.le_of_ble_eq_true rfl) rfl ?_
  intro p e s m args below meth c ls hC hr hlocks hT G hl
  unfold w_X11_owed at h
  have hl : lv_has ls 4 [(0, .ref (lay 0)), (1, .ref (lay (33 + i1)))] := hl
  refine lv_aload_n hC.1 hC.2.1 dX11_owed_0 rfl (lv_at hl 1 rfl) ?_
  refine rg_getN hC hT G (rk_wd hi1) (r_wd hi1) k_X10 i_X11_owed_X10 1 (by decide) 11 rfl rfl dX11_owed_1 ?_
  refine lv_aload_n hC.1 hC.2.1 dX11_owed_4 rfl (lv_at hl 0 rfl) ?_
  refine rg_get hC hT G (by decide) r_mo k_X11 i_X11_owed_X11 1 (by decide) (wm 1 rfl) rfl dX11_owed_5 ?_
  refine lv_isub hC.1 hC.2.1 dX11_owed_8 ?_
  refine lv_istore_n (lv' := [(2, .int ((σ (33 + i1) 1) - (σ 0 1))), (0, .ref (lay 0)), (1, .ref (lay (33 + i1)))]) hC.1 hC.2.1 dX11_owed_9 rfl hl (by decide) rfl (fun ls hl => ?_)
  refine lv_iload_n hC.1 hC.2.1 dX11_owed_10 rfl (lv_at hl 0 rfl) ?_
  refine lv_bipush (v := 30) hC.1 hC.2.1 dX11_owed_11 (by decide) ?_
  refine lv_icmp_lt (tgt := 21) hC.1 hC.2.1 dX11_owed_13 (by decide) (fun c1 => ?_) (fun c1 => ?_)
  · replace h := h.1 c1
    refine lv_iload_n hC.1 hC.2.1 dX11_owed_21 rfl (lv_at hl 0 rfl) ?_
    refine lv_bipush (v := 14) hC.1 hC.2.1 dX11_owed_22 (by decide) ?_
    refine lv_icmp_lt (tgt := 32) hC.1 hC.2.1 dX11_owed_24 (by decide) (fun c2 => ?_) (fun c2 => ?_)
    · replace h := h.1 c2
      refine lv_iload_n hC.1 hC.2.1 dX11_owed_32 rfl (lv_at hl 0 rfl) ?_
      refine lv_bipush (v := 7) hC.1 hC.2.1 dX11_owed_33 (by decide) ?_
      refine lv_icmp_lt (tgt := 43) hC.1 hC.2.1 dX11_owed_35 (by decide) (fun c3 => ?_) (fun c3 => ?_)
      · replace h := h.1 c3
        refine lv_bipush (v := 100) hC.1 hC.2.1 dX11_owed_43 (by decide) ?_
        refine lv_istore_n (lv' := [(3, .int 100), (2, .int ((σ (33 + i1) 1) - (σ 0 1))), (0, .ref (lay 0)), (1, .ref (lay (33 + i1)))]) hC.1 hC.2.1 dX11_owed_45 rfl hl (by decide) rfl (fun ls hl => ?_)
        refine lv_aload_n hC.1 hC.2.1 dX11_owed_46 rfl (lv_at hl 3 rfl) ?_
        refine rg_getN hC hT G (rk_wd hi1) (r_wd hi1) k_X10 i_X11_owed_X10 9 (by decide) 19 rfl rfl dX11_owed_47 ?_
        refine lv_iload_n hC.1 hC.2.1 dX11_owed_50 rfl (lv_at hl 0 rfl) ?_
        refine lv_imul hC.1 hC.2.1 dX11_owed_51 ?_
        refine lv_bipush (v := 100) hC.1 hC.2.1 dX11_owed_52 (by decide) ?_
        refine lv_idiv hC.1 hC.2.1 dX11_owed_54 (by decide) ?_
        exact rg_iret hC hr hlocks G h dX11_owed_55
      · replace h := h.2 c3
        refine lv_bipush (v := 70) hC.1 hC.2.1 dX11_owed_38 (by decide) ?_
        refine lv_goto (tgt := 45) hC.1 hC.2.1 dX11_owed_40 (by decide) ?_
        refine lv_istore_n (lv' := [(3, .int 70), (2, .int ((σ (33 + i1) 1) - (σ 0 1))), (0, .ref (lay 0)), (1, .ref (lay (33 + i1)))]) hC.1 hC.2.1 dX11_owed_45 rfl hl (by decide) rfl (fun ls hl => ?_)
        refine lv_aload_n hC.1 hC.2.1 dX11_owed_46 rfl (lv_at hl 3 rfl) ?_
        refine rg_getN hC hT G (rk_wd hi1) (r_wd hi1) k_X10 i_X11_owed_X10 9 (by decide) 19 rfl rfl dX11_owed_47 ?_
        refine lv_iload_n hC.1 hC.2.1 dX11_owed_50 rfl (lv_at hl 0 rfl) ?_
        refine lv_imul hC.1 hC.2.1 dX11_owed_51 ?_
        refine lv_bipush (v := 100) hC.1 hC.2.1 dX11_owed_52 (by decide) ?_
        refine lv_idiv hC.1 hC.2.1 dX11_owed_54 (by decide) ?_
        exact rg_iret hC hr hlocks G h dX11_owed_55
    · replace h := h.2 c2
      refine lv_bipush (v := 40) hC.1 hC.2.1 dX11_owed_27 (by decide) ?_
      refine lv_goto (tgt := 45) hC.1 hC.2.1 dX11_owed_29 (by decide) ?_
      refine lv_istore_n (lv' := [(3, .int 40), (2, .int ((σ (33 + i1) 1) - (σ 0 1))), (0, .ref (lay 0)), (1, .ref (lay (33 + i1)))]) hC.1 hC.2.1 dX11_owed_45 rfl hl (by decide) rfl (fun ls hl => ?_)
      refine lv_aload_n hC.1 hC.2.1 dX11_owed_46 rfl (lv_at hl 3 rfl) ?_
      refine rg_getN hC hT G (rk_wd hi1) (r_wd hi1) k_X10 i_X11_owed_X10 9 (by decide) 19 rfl rfl dX11_owed_47 ?_
      refine lv_iload_n hC.1 hC.2.1 dX11_owed_50 rfl (lv_at hl 0 rfl) ?_
      refine lv_imul hC.1 hC.2.1 dX11_owed_51 ?_
      refine lv_bipush (v := 100) hC.1 hC.2.1 dX11_owed_52 (by decide) ?_
      refine lv_idiv hC.1 hC.2.1 dX11_owed_54 (by decide) ?_
      exact rg_iret hC hr hlocks G h dX11_owed_55
  · replace h := h.2 c1
    refine lv_bipush (v := 20) hC.1 hC.2.1 dX11_owed_16 (by decide) ?_
    refine lv_goto (tgt := 45) hC.1 hC.2.1 dX11_owed_18 (by decide) ?_
    refine lv_istore_n (lv' := [(3, .int 20), (2, .int ((σ (33 + i1) 1) - (σ 0 1))), (0, .ref (lay 0)), (1, .ref (lay (33 + i1)))]) hC.1 hC.2.1 dX11_owed_45 rfl hl (by decide) rfl (fun ls hl => ?_)
    refine lv_aload_n hC.1 hC.2.1 dX11_owed_46 rfl (lv_at hl 3 rfl) ?_
    refine rg_getN hC hT G (rk_wd hi1) (r_wd hi1) k_X10 i_X11_owed_X10 9 (by decide) 19 rfl rfl dX11_owed_47 ?_
    refine lv_iload_n hC.1 hC.2.1 dX11_owed_50 rfl (lv_at hl 0 rfl) ?_
    refine lv_imul hC.1 hC.2.1 dX11_owed_51 ?_
    refine lv_bipush (v := 100) hC.1 hC.2.1 dX11_owed_52 (by decide) ?_
    refine lv_idiv hC.1 hC.2.1 dX11_owed_54 (by decide) ?_
    exact rg_iret hC hr hlocks G h dX11_owed_55
theorem hdV_X11_owed : yX11_owed.cls = RX11 ∧ yX11_owed.cls ≠ "java/lang/invoke/MethodHandle" ∧ yX11_owed.cls ≠ "java/lang/invoke/VarHandle" ∧ (parseMethodDescriptor yX11_owed.desc).map (fun d => d.parameters.length) = some 1 := by decide +kernel
abbrev rm_X11_cancel : Room := { frames := 3, cells := 0, slots := 0, locals := 64 }
theorem i_X11_cancel_X11 : ∀ w ∈ wsX110, w ∈ wsX11_cancel := fun _ h => List.mem_cons_of_mem _ (List.mem_append_left _ (List.mem_append_left _ (List.mem_append_right _ h)))
theorem i_X11_cancel_X10 : ∀ w ∈ wsX100, w ∈ wsX11_cancel := fun _ h => List.mem_cons_of_mem _ (List.mem_append_left _ (List.mem_append_right _ h))
def u_X11_cancel_62 (Γ : RG) (post : Int32 → MS → Prop) (a1 : Int32) (σ : MS) (v2 : Nat) (t0 : Int32) : Prop := (∀ y9 : Int32, y9 = ((up2 σ (33 + v2) 11 ((σ (33 + v2) 11) + (if 0 < (t0 - (σ (33 + v2) 11)) then (t0 - (σ (33 + v2) 11)) else 0))) 0 2) + (if 0 < (t0 - (σ (33 + v2) 11)) then (t0 - (σ (33 + v2) 11)) else 0) → post t0 (up2 (up2 (up2 σ (33 + v2) 11 ((σ (33 + v2) 11) + (if 0 < (t0 - (σ (33 + v2) 11)) then (t0 - (σ (33 + v2) 11)) else 0))) 0 2 y9) (33 + v2) 7 3))
set_option maxHeartbeats 4000000 in
set_option maxRecDepth 100000 in
theorem l_X11_cancel_62 {p : Program} {l : Launch} {e : Env} {s : State} {m : MethodId} {args : Array Value} {below : List Frame} {meth : Method} {c : Code} {D : va_G} {cy : Nat → ClassId} {lay : Nat → Nat} {Γ : RG} {post : Int32 → MS → Prop} (a1 : Int32) (hC : CallFix p m c cX11_cancel 5 s args wsX11_cancel RX11) (hr : meth.sig.returnType = some .int) (hlocks : meth.locks = false) (hT : rT D cy lay Γ s) : ∀ (σ : MS) (v2 : Nat) (t0 : Int32), u_X11_cancel_62 Γ post a1 σ v2 t0 → ∀ (hv2 : v2 < 14 ∧ v2 < Γ.2.2.1), ∀ (H : Heap) (locs : List Loc) (ls : Array Slot), rG D cy lay Γ tn σ (rA cy lay Γ s.heap.size) s.heap H locs → lv_has ls 5 [(0, .ref (lay 0)), (1, .int a1), (2, .ref (lay (33 + v2)))] → W p l e rm_X11_cancel s m args below meth c H locs 0 0 (MQ below (va_Qi post (rO D cy lay Γ) (rA cy lay Γ s.heap.size)) args s 0 0 (rA cy lay Γ s.heap.size)) (F0 m 62 ls [.int t0]) := by
  intro σ v2 t0 h hv2 H locs ls G hl
  unfold u_X11_cancel_62 at h
  refine lv_istore_n (lv' := [(3, .int t0), (0, .ref (lay 0)), (1, .int a1), (2, .ref (lay (33 + v2)))]) hC.1 hC.2.1 dX11_cancel_62 rfl hl (by decide) rfl (fun ls hl => ?_)
  refine lv_iconst (v := 0) hC.1 hC.2.1 dX11_cancel_63 (by decide) ?_
  refine lv_iload_n hC.1 hC.2.1 dX11_cancel_64 rfl (lv_at hl 0 rfl) ?_
  refine lv_aload_n hC.1 hC.2.1 dX11_cancel_65 rfl (lv_at hl 3 rfl) ?_
  refine rg_getN hC hT G (rk_wd hv2) (r_wd hv2) k_X10 i_X11_cancel_X10 11 (by decide) 21 rfl rfl dX11_cancel_66 ?_
  refine lv_isub hC.1 hC.2.1 dX11_cancel_69 ?_
  refine va_mmax hC.1 hC.2.1 (hC.2.2.1.trans hl.1.symm) hC.2.2.2.1 (hC.2.2.2.2 _ (wm 4 rfl)) (hC.2.2.2.2 _ (wm 5 rfl)) (hC.2.2.2.2 _ (wm 6 rfl)) (hC.2.2.2.2 _ (wm 7 rfl)) (Nat.le_of_ble_eq_true rfl) (Nat.le_of_ble_eq_true rfl) (Nat.le_of_ble_eq_true rfl) (Nat.le_of_ble_eq_true rfl) dX11_cancel_70 ?_
  refine lv_istore (lv' := [(4, .int (if 0 < (t0 - (σ (33 + v2) 11)) then (t0 - (σ (33 + v2) 11)) else 0)), (3, .int t0), (0, .ref (lay 0)), (1, .int a1), (2, .ref (lay (33 + v2)))]) hC.1 hC.2.1 dX11_cancel_73 hl (by decide) rfl (fun ls hl => ?_)
  refine lv_aload_n hC.1 hC.2.1 dX11_cancel_75 rfl (lv_at hl 4 rfl) ?_
  refine lv_dup hC.1 hC.2.1 dX11_cancel_76 rfl ?_
  refine rg_getN hC hT G (rk_wd hv2) (r_wd hv2) k_X10 i_X11_cancel_X10 11 (by decide) 21 rfl rfl dX11_cancel_77 ?_
  refine lv_iload hC.1 hC.2.1 dX11_cancel_80 (lv_at hl 0 rfl) ?_
  refine lv_iadd hC.1 hC.2.1 dX11_cancel_82 ?_
  refine rg_putN hC hT G (rk_wd hv2) (r_wd hv2) k_X10 i_X11_cancel_X10 11 (by decide) 21 rfl rfl rfl (by simp) (r_wd hv2) (by rw [up2_eq]; rfl) dX11_cancel_83 (fun H locs G => ?_)
  refine lv_aload_n hC.1 hC.2.1 dX11_cancel_86 rfl (lv_at hl 2 rfl) ?_
  refine lv_dup hC.1 hC.2.1 dX11_cancel_87 rfl ?_
  refine rg_get hC hT G (by decide) r_mo k_X11 i_X11_cancel_X11 2 (by decide) (wm 8 rfl) rfl dX11_cancel_88 ?_
  refine lv_iload hC.1 hC.2.1 dX11_cancel_91 (lv_at hl 0 rfl) ?_
  refine lv_iadd hC.1 hC.2.1 dX11_cancel_93 ?_
  refine lv_topi (fun y9 ey9 => ?_)
  replace h := h y9 ey9
  refine rg_put hC hT G (by decide) r_mo k_X11 i_X11_cancel_X11 2 (by decide) (wm 8 rfl) rfl rfl (by simp) r_mo (by rw [up2_eq]; rfl) dX11_cancel_94 (fun H locs G => ?_)
  refine lv_aload_n hC.1 hC.2.1 dX11_cancel_97 rfl (lv_at hl 4 rfl) ?_
  refine lv_iconst (v := 3) hC.1 hC.2.1 dX11_cancel_98 (by decide) ?_
  refine rg_putN hC hT G (rk_wd hv2) (r_wd hv2) k_X10 i_X11_cancel_X10 7 (by decide) 17 rfl rfl rfl (by simp) (r_wd hv2) (by rw [up2_eq]; rfl) dX11_cancel_99 (fun H locs G => ?_)
  refine lv_iload_n hC.1 hC.2.1 dX11_cancel_102 rfl (lv_at hl 1 rfl) ?_
  exact rg_iret hC hr hlocks G h dX11_cancel_103
def w_X11_cancel (Γ : RG) (post : Int32 → MS → Prop) (σ : MS) (a1 : Int32) : Prop := w_X11_isWedding Γ (fun r2 σ1 => ((r2 = 0 → w_X11_refuse Γ (fun r15 σ14 => post r15 σ14) σ1 1) ∧ (¬ r2 = 0 → w_lw_Jx4a65c_get_915e3 Γ (fun j5 σ4 => ((j5 < 14 ∧ j5 < Γ.2.2.1) ∧ (((σ4 (33 + j5) 7) ≤ 1 → (((σ4 (33 + j5) 7) = 1 → w_X11_owed Γ (fun r11 σ10 => u_X11_cancel_62 Γ post a1 σ10 j5 r11) σ4 j5) ∧ (¬ (σ4 (33 + j5) 7) = 1 → u_X11_cancel_62 Γ post a1 σ4 j5 0))) ∧ (¬ (σ4 (33 + j5) 7) ≤ 1 → w_X11_refuse Γ (fun r13 σ12 => post r13 σ12) σ4 2)))) σ1 a1))) (up2 σ 0 0 0) a1
set_option maxHeartbeats 4000000 in
set_option maxRecDepth 100000 in
theorem c_X11_cancel (l : Launch) (D : va_G) (cy : Nat → ClassId) (lay : Nat → Nat) (Γ : RG) {σ : MS} {post : Int32 → MS → Prop} {a1 : Int32} (h : w_X11_cancel Γ post σ a1) (sz : Nat) : Met l yX11_cancel wsX11_cancel rm_X11_cancel (va_Pc [.ref (lay 0), .int a1] (rI D cy lay Γ σ sz)) (va_Qi post (rO D cy lay Γ) (rA cy lay Γ sz)) 0 0 (rA cy lay Γ sz) := by
  refine rg_ofW (cc := cX11_cancel) (maxL := 5) (ret := some .int) (own := RX11) (Qc := fun sz => va_Qi post (rO D cy lay Γ) (rA cy lay Γ sz)) (by decide) rfl (Nat.le_of_ble_eq_true rfl) rfl ?_
  intro p e s m args below meth c ls hC hr hlocks hT G hl
  unfold w_X11_cancel at h
  have hl : lv_has ls 5 [(0, .ref (lay 0)), (1, .int a1)] := hl
  refine lv_aload_n hC.1 hC.2.1 dX11_cancel_0 rfl (lv_at hl 0 rfl) ?_
  refine lv_iconst (v := 0) hC.1 hC.2.1 dX11_cancel_1 (by decide) ?_
  refine rg_put hC hT G (by decide) r_mo k_X11 i_X11_cancel_X11 0 (by decide) (wm 1 rfl) rfl rfl (by simp) r_mo (by rw [up2_eq]; rfl) dX11_cancel_2 (fun H locs G => ?_)
  refine lv_aload_n hC.1 hC.2.1 dX11_cancel_5 rfl (lv_at hl 0 rfl) ?_
  refine lv_iload_n hC.1 hC.2.1 dX11_cancel_6 rfl (lv_at hl 1 rfl) ?_
  refine rg_i G (rg_runV (As := [.int a1]) (rest := []) hC hT G (c_X11_isWedding l D cy lay Γ h _) (cwV 1 hC.2.2.2.2 gX11_cancel_X11_isWedding rfl rfl rfl hdV_X11_isWedding ⟨Nat.le_of_ble_eq_true rfl, Nat.le_of_ble_eq_true rfl⟩) (rg_recv hT G (by decide) r_mo k_X11) rfl hl.1 rfl (Nat.le_of_ble_eq_true rfl) dX11_cancel_7 ⟨Nat.le_of_ble_eq_true rfl, Nat.le_of_ble_eq_true rfl⟩) (fun r2 σ1 H locs h G => ?_)
  (try dsimp only at h)
  refine lv_if_ne (tgt := 19) hC.1 hC.2.1 dX11_cancel_10 (by decide) (fun c3 => ?_) (fun c3 => ?_)
  · replace h := h.2 c3
    refine lv_aload_n hC.1 hC.2.1 dX11_cancel_19 rfl (lv_at hl 0 rfl) ?_
    refine rg_get hC hT G (by decide) r_mo k_X11 i_X11_cancel_X11 5 (by decide) (wm 2 rfl) rfl dX11_cancel_20 ?_
    refine lv_iload_n hC.1 hC.2.1 dX11_cancel_23 rfl (lv_at hl 1 rfl) ?_
    refine rg_r (f := fun i => lay (33 + i)) G (rg_runV (As := [.int a1]) (rest := []) hC hT G (c_lw_Jx4a65c_get_915e3 l D cy lay Γ h _) (cwV 1 hC.2.2.2.2 gX11_cancel_Jx4a65c_get_915e3 rfl rfl rfl hdV_Jx4a65c_get_915e3 ⟨Nat.le_of_ble_eq_true rfl, Nat.le_of_ble_eq_true rfl⟩) (rg_recv hT G (by decide) r_lw k_AL) rfl hl.1 rfl (Nat.le_of_ble_eq_true rfl) dX11_cancel_24 ⟨Nat.le_of_ble_eq_true rfl, Nat.le_of_ble_eq_true rfl⟩) (fun j5 σ4 H locs h G => ?_)
    (try dsimp only at h)
    obtain ⟨hj6, h⟩ := h
    refine rg_cast hC hT k_X10 (wm 3 rfl) (rg_recv hT G (rk_wd hj6) (r_wd hj6) k_X10) dX11_cancel_27 ?_
    refine lv_astore_n (lv' := [(2, .ref (lay (33 + j5))), (0, .ref (lay 0)), (1, .int a1)]) hC.1 hC.2.1 dX11_cancel_30 rfl hl (by decide) rfl (fun ls hl => ?_)
    refine lv_aload_n hC.1 hC.2.1 dX11_cancel_31 rfl (lv_at hl 0 rfl) ?_
    refine rg_getN hC hT G (rk_wd hj6) (r_wd hj6) k_X10 i_X11_cancel_X10 7 (by decide) 17 rfl rfl dX11_cancel_32 ?_
    refine lv_iconst (v := 1) hC.1 hC.2.1 dX11_cancel_35 (by decide) ?_
    refine lv_icmp_le (tgt := 45) hC.1 hC.2.1 dX11_cancel_36 (by decide) (fun c7 => ?_) (fun c7 => ?_)
    · replace h := h.1 c7
      refine lv_aload_n hC.1 hC.2.1 dX11_cancel_45 rfl (lv_at hl 0 rfl) ?_
      refine rg_getN hC hT G (rk_wd hj6) (r_wd hj6) k_X10 i_X11_cancel_X10 7 (by decide) 17 rfl rfl dX11_cancel_46 ?_
      refine lv_iconst (v := 1) hC.1 hC.2.1 dX11_cancel_49 (by decide) ?_
      refine lv_icmp_ne (tgt := 61) hC.1 hC.2.1 dX11_cancel_50 (by decide) (fun c8 => ?_) (fun c8 => ?_)
      · replace h := h.2 c8
        refine lv_iconst (v := 0) hC.1 hC.2.1 dX11_cancel_61 (by decide) ?_
        exact l_X11_cancel_62 a1 hC hr hlocks hT _ _ _ h hj6 _ _ _ G (lv_sub hl [1, 2, 0] rfl)
      · replace h := h.1 c8
        refine lv_aload_n hC.1 hC.2.1 dX11_cancel_53 rfl (lv_at hl 1 rfl) ?_
        refine lv_aload_n hC.1 hC.2.1 dX11_cancel_54 rfl (lv_at hl 0 rfl) ?_
        refine rg_i G (rg_runV (As := [.ref (lay (33 + j5))]) (rest := []) hC hT G (c_X11_owed l D cy lay Γ h hj6 _) (cwV 1 hC.2.2.2.2 gX11_cancel_X11_owed rfl rfl rfl hdV_X11_owed ⟨Nat.le_of_ble_eq_true rfl, Nat.le_of_ble_eq_true rfl⟩) (rg_recv hT G (by decide) r_mo k_X11) rfl hl.1 rfl (Nat.le_of_ble_eq_true rfl) dX11_cancel_55 ⟨Nat.le_of_ble_eq_true rfl, Nat.le_of_ble_eq_true rfl⟩) (fun r11 σ10 H locs h G => ?_)
        (try dsimp only at h)
        refine lv_goto (tgt := 62) hC.1 hC.2.1 dX11_cancel_58 (by decide) ?_
        exact l_X11_cancel_62 a1 hC hr hlocks hT _ _ _ h hj6 _ _ _ G (lv_sub hl [1, 2, 0] rfl)
    · replace h := h.2 c7
      refine lv_aload_n hC.1 hC.2.1 dX11_cancel_39 rfl (lv_at hl 1 rfl) ?_
      refine lv_iconst (v := 2) hC.1 hC.2.1 dX11_cancel_40 (by decide) ?_
      refine rg_i G (rg_runV (As := [.int 2]) (rest := []) hC hT G (c_X11_refuse l D cy lay Γ h _) (cwV 1 hC.2.2.2.2 gX11_cancel_X11_refuse rfl rfl rfl hdV_X11_refuse ⟨Nat.le_of_ble_eq_true rfl, Nat.le_of_ble_eq_true rfl⟩) (rg_recv hT G (by decide) r_mo k_X11) rfl hl.1 rfl (Nat.le_of_ble_eq_true rfl) dX11_cancel_41 ⟨Nat.le_of_ble_eq_true rfl, Nat.le_of_ble_eq_true rfl⟩) (fun r13 σ12 H locs h G => ?_)
      (try dsimp only at h)
      exact rg_iret hC hr hlocks G h dX11_cancel_44
  · replace h := h.1 c3
    refine lv_aload_n hC.1 hC.2.1 dX11_cancel_13 rfl (lv_at hl 0 rfl) ?_
    refine lv_iconst (v := 1) hC.1 hC.2.1 dX11_cancel_14 (by decide) ?_
    refine rg_i G (rg_runV (As := [.int 1]) (rest := []) hC hT G (c_X11_refuse l D cy lay Γ h _) (cwV 1 hC.2.2.2.2 gX11_cancel_X11_refuse rfl rfl rfl hdV_X11_refuse ⟨Nat.le_of_ble_eq_true rfl, Nat.le_of_ble_eq_true rfl⟩) (rg_recv hT G (by decide) r_mo k_X11) rfl hl.1 rfl (Nat.le_of_ble_eq_true rfl) dX11_cancel_15 ⟨Nat.le_of_ble_eq_true rfl, Nat.le_of_ble_eq_true rfl⟩) (fun r15 σ14 H locs h G => ?_)
    (try dsimp only at h)
    exact rg_iret hC hr hlocks G h dX11_cancel_18
theorem hdV_X11_cancel : yX11_cancel.cls = RX11 ∧ yX11_cancel.cls ≠ "java/lang/invoke/MethodHandle" ∧ yX11_cancel.cls ≠ "java/lang/invoke/VarHandle" ∧ (parseMethodDescriptor yX11_cancel.desc).map (fun d => d.parameters.length) = some 1 := by decide +kernel
abbrev rm_X11_illNow : Room := { frames := 12, cells := 0, slots := 0, locals := 311 }
theorem i_X11_illNow_X11 : ∀ w ∈ wsX110, w ∈ wsX11_illNow := fun _ h => List.mem_cons_of_mem _ (List.mem_append_left _ (List.mem_append_left _ (List.mem_append_left _ (List.mem_append_left _ (List.mem_append_right _ h)))))
theorem i_X11_illNow_X9 : ∀ w ∈ wsX90, w ∈ wsX11_illNow := fun _ h => List.mem_cons_of_mem _ (List.mem_append_left _ (List.mem_append_left _ (List.mem_append_left _ (List.mem_append_right _ h))))
theorem i_X11_illNow_X10 : ∀ w ∈ wsX100, w ∈ wsX11_illNow := fun _ h => List.mem_cons_of_mem _ (List.mem_append_left _ (List.mem_append_left _ (List.mem_append_right _ h)))
def u_X11_illNow_22 (Γ : RG) (post : Int32 → MS → Prop) (a1 : Int32) (a2 : Int32) : Nat → MS → Int32 → Int32 → Prop
  | 0, _, _, _ => False
  | n + 1, σ, v3, v4 => w_lw_Jx4a65c_size_8abf5 Γ (fun r6 σ5 => ((r6 ≤ v4 → post v3 σ5) ∧ (¬ r6 ≤ v4 → w_lw_Jx4a65c_get_915e3 Γ (fun j9 σ8 => ((j9 < 14 ∧ j9 < Γ.2.2.1) ∧ (((σ8 (33 + j9) 7) = 1 → (((σ8 (33 + j9) 1) = a2 → w_X11_isIn Γ (fun r14 σ13 => ((r14 = 0 → u_X11_illNow_22 Γ post a1 a2 n σ13 v3 (v4 + 1)) ∧ (¬ r14 = 0 → w_X11_best Γ (fun r17 σ16 => ((r17 = (-1) → (∀ y19 : Int32, y19 = (up2 (up2 σ16 (33 + j9) 7 3) 0 2 (((up2 σ16 (33 + j9) 7 3) 0 2) - (((up2 σ16 (33 + j9) 7 3) (33 + j9) 11) + (((up2 σ16 (33 + j9) 7 3) (33 + j9) 9) / 10)))) (33 + j9) 9 → u_X11_illNow_22 Γ post a1 a2 n (up2 (up2 (up2 σ16 (33 + j9) 7 3) 0 2 (((up2 σ16 (33 + j9) 7 3) 0 2) - (((up2 σ16 (33 + j9) 7 3) (33 + j9) 11) + (((up2 σ16 (33 + j9) 7 3) (33 + j9) 9) / 10)))) (33 + j9) 11 (-(y19 / 10))) (v3 + 1) (v4 + 1))) ∧ (¬ r17 = (-1) → u_X11_illNow_22 Γ post a1 a2 n (up2 σ16 (33 + j9) 8 r17) v3 (v4 + 1)))) σ13 v4 0 (σ13 (33 + j9) 8)))) σ8 (σ8 (33 + j9) 8) a1) ∧ (¬ (σ8 (33 + j9) 1) = a2 → u_X11_illNow_22 Γ post a1 a2 n σ8 v3 (v4 + 1)))) ∧ (¬ (σ8 (33 + j9) 7) = 1 → u_X11_illNow_22 Γ post a1 a2 n σ8 v3 (v4 + 1))))) σ5 v4))) σ
set_option maxHeartbeats 4000000 in
set_option maxRecDepth 100000 in
theorem l_X11_illNow_22 {p : Program} {l : Launch} {e : Env} {s : State} {m : MethodId} {args : Array Value} {below : List Frame} {meth : Method} {c : Code} {D : va_G} {cy : Nat → ClassId} {lay : Nat → Nat} {Γ : RG} {post : Int32 → MS → Prop} (a1 : Int32) (a2 : Int32) (hC : CallFix p m c cX11_illNow 7 s args wsX11_illNow RX11) (hr : meth.sig.returnType = some .int) (hlocks : meth.locks = false) (hT : rT D cy lay Γ s) : ∀ (n : Nat), ∀ (σ : MS) (v3 : Int32) (v4 : Int32), u_X11_illNow_22 Γ post a1 a2 n σ v3 v4 → ∀ (H : Heap) (locs : List Loc) (ls : Array Slot), rG D cy lay Γ tn σ (rA cy lay Γ s.heap.size) s.heap H locs → lv_has ls 7 [(0, .ref (lay 0)), (1, .int a1), (2, .int a2), (3, .int v3), (4, .int v4)] → W p l e rm_X11_illNow s m args below meth c H locs 0 0 (MQ below (va_Qi post (rO D cy lay Γ) (rA cy lay Γ s.heap.size)) args s 0 0 (rA cy lay Γ s.heap.size)) (F0 m 22 ls []) := by
  intro n
  induction n with
  | zero =>
    intro σ v3 v4 h
    exact h.elim
  | succ n ih =>
    intro σ v3 v4 h H locs ls G hl
    rw [u_X11_illNow_22] at h
    refine lv_iload hC.1 hC.2.1 dX11_illNow_22 (lv_at hl 4 rfl) ?_
    refine lv_aload_n hC.1 hC.2.1 dX11_illNow_24 rfl (lv_at hl 0 rfl) ?_
    refine rg_get hC hT G (by decide) r_mo k_X11 i_X11_illNow_X11 5 (by decide) (wm 3 rfl) rfl dX11_illNow_25 ?_
    refine rg_i G (rg_runV (As := []) (rest := [.int v4]) hC hT G (c_lw_Jx4a65c_size_8abf5 l D cy lay Γ h _) (cwV 0 hC.2.2.2.2 gX11_illNow_Jx4a65c_size_8abf5 rfl rfl rfl hdV_Jx4a65c_size_8abf5 ⟨Nat.le_of_ble_eq_true rfl, Nat.le_of_ble_eq_true rfl⟩) (rg_recv hT G (by decide) r_lw k_AL) rfl hl.1 rfl (Nat.le_of_ble_eq_true rfl) dX11_illNow_28 ⟨Nat.le_of_ble_eq_true rfl, Nat.le_of_ble_eq_true rfl⟩) (fun r6 σ5 H locs h G => ?_)
    (try dsimp only at h)
    refine lv_icmp_ge (tgt := 163) hC.1 hC.2.1 dX11_illNow_31 (by decide) (fun c7 => ?_) (fun c7 => ?_)
    · replace h := h.1 c7
      refine lv_iload_n hC.1 hC.2.1 dX11_illNow_163 rfl (lv_at hl 3 rfl) ?_
      exact rg_iret hC hr hlocks G h dX11_illNow_164
    · replace h := h.2 c7
      refine lv_aload_n hC.1 hC.2.1 dX11_illNow_34 rfl (lv_at hl 0 rfl) ?_
      refine rg_get hC hT G (by decide) r_mo k_X11 i_X11_illNow_X11 5 (by decide) (wm 3 rfl) rfl dX11_illNow_35 ?_
      refine lv_iload hC.1 hC.2.1 dX11_illNow_38 (lv_at hl 4 rfl) ?_
      refine rg_r (f := fun i => lay (33 + i)) G (rg_runV (As := [.int v4]) (rest := []) hC hT G (c_lw_Jx4a65c_get_915e3 l D cy lay Γ h _) (cwV 1 hC.2.2.2.2 gX11_illNow_Jx4a65c_get_915e3 rfl rfl rfl hdV_Jx4a65c_get_915e3 ⟨Nat.le_of_ble_eq_true rfl, Nat.le_of_ble_eq_true rfl⟩) (rg_recv hT G (by decide) r_lw k_AL) rfl hl.1 rfl (Nat.le_of_ble_eq_true rfl) dX11_illNow_40 ⟨Nat.le_of_ble_eq_true rfl, Nat.le_of_ble_eq_true rfl⟩) (fun j9 σ8 H locs h G => ?_)
      (try dsimp only at h)
      obtain ⟨hj10, h⟩ := h
      refine rg_cast hC hT k_X10 (wm 4 rfl) (rg_recv hT G (rk_wd hj10) (r_wd hj10) k_X10) dX11_illNow_43 ?_
      refine lv_astore (lv' := [(5, .ref (lay (33 + j9))), (0, .ref (lay 0)), (1, .int a1), (2, .int a2), (3, .int v3), (4, .int v4)]) hC.1 hC.2.1 dX11_illNow_46 hl (by decide) rfl (fun ls hl => ?_)
      refine lv_aload hC.1 hC.2.1 dX11_illNow_48 (lv_at hl 0 rfl) ?_
      refine rg_getN hC hT G (rk_wd hj10) (r_wd hj10) k_X10 i_X11_illNow_X10 7 (by decide) 17 rfl rfl dX11_illNow_50 ?_
      refine lv_iconst (v := 1) hC.1 hC.2.1 dX11_illNow_53 (by decide) ?_
      refine lv_icmp_ne (tgt := 157) hC.1 hC.2.1 dX11_illNow_54 (by decide) (fun c11 => ?_) (fun c11 => ?_)
      · replace h := h.2 c11
        refine lv_iinc (v := v4 + 1) (lv' := [(4, .int (v4 + 1)), (5, .ref (lay (33 + j9))), (0, .ref (lay 0)), (1, .int a1), (2, .int a2), (3, .int v3)]) hC.1 hC.2.1 dX11_illNow_157 hl (k := 5) rfl rfl (by decide) rfl (fun ls hl => ?_)
        refine lv_goto (tgt := 22) hC.1 hC.2.1 dX11_illNow_160 (by decide) ?_
        exact ih _ _ _ h _ _ _ G (lv_sub hl [2, 3, 4, 5, 0] rfl)
      · replace h := h.1 c11
        refine lv_aload hC.1 hC.2.1 dX11_illNow_57 (lv_at hl 0 rfl) ?_
        refine rg_getN hC hT G (rk_wd hj10) (r_wd hj10) k_X10 i_X11_illNow_X10 1 (by decide) 11 rfl rfl dX11_illNow_59 ?_
        refine lv_iload_n hC.1 hC.2.1 dX11_illNow_62 rfl (lv_at hl 3 rfl) ?_
        refine lv_icmp_ne (tgt := 157) hC.1 hC.2.1 dX11_illNow_63 (by decide) (fun c12 => ?_) (fun c12 => ?_)
        · replace h := h.2 c12
          refine lv_iinc (v := v4 + 1) (lv' := [(4, .int (v4 + 1)), (5, .ref (lay (33 + j9))), (0, .ref (lay 0)), (1, .int a1), (2, .int a2), (3, .int v3)]) hC.1 hC.2.1 dX11_illNow_157 hl (k := 5) rfl rfl (by decide) rfl (fun ls hl => ?_)
          refine lv_goto (tgt := 22) hC.1 hC.2.1 dX11_illNow_160 (by decide) ?_
          exact ih _ _ _ h _ _ _ G (lv_sub hl [2, 3, 4, 5, 0] rfl)
        · replace h := h.1 c12
          refine lv_aload hC.1 hC.2.1 dX11_illNow_66 (lv_at hl 0 rfl) ?_
          refine rg_getN hC hT G (rk_wd hj10) (r_wd hj10) k_X10 i_X11_illNow_X10 8 (by decide) 18 rfl rfl dX11_illNow_68 ?_
          refine lv_iload_n hC.1 hC.2.1 dX11_illNow_71 rfl (lv_at hl 2 rfl) ?_
          refine rg_i G (rg_runS (As := [.int (σ8 (33 + j9) 8), .int a1]) (rest := []) hC hT G (c_X11_isIn l D cy lay Γ h _) (va_cwS 2 hC.2.2.2.2 gX11_illNow_X11_isIn rfl rfl rfl hdS_X11_isIn ⟨Nat.le_of_ble_eq_true rfl, Nat.le_of_ble_eq_true rfl⟩) rfl hl.1 rfl (Nat.le_of_ble_eq_true rfl) dX11_illNow_72 ⟨Nat.le_of_ble_eq_true rfl, Nat.le_of_ble_eq_true rfl⟩) (fun r14 σ13 H locs h G => ?_)
          (try dsimp only at h)
          refine lv_if_ne (tgt := 81) hC.1 hC.2.1 dX11_illNow_75 (by decide) (fun c15 => ?_) (fun c15 => ?_)
          · replace h := h.2 c15
            refine lv_aload_n hC.1 hC.2.1 dX11_illNow_81 rfl (lv_at hl 1 rfl) ?_
            refine lv_iload hC.1 hC.2.1 dX11_illNow_82 (lv_at hl 5 rfl) ?_
            refine lv_iconst (v := 0) hC.1 hC.2.1 dX11_illNow_84 (by decide) ?_
            refine lv_aload hC.1 hC.2.1 dX11_illNow_85 (lv_at hl 0 rfl) ?_
            refine rg_getN hC hT G (rk_wd hj10) (r_wd hj10) k_X10 i_X11_illNow_X10 8 (by decide) 18 rfl rfl dX11_illNow_87 ?_
            refine rg_i G (rg_runV (As := [.int v4, .int 0, .int (σ13 (33 + j9) 8)]) (rest := []) hC hT G (c_X11_best l D cy lay Γ h _) (cwV 3 hC.2.2.2.2 gX11_illNow_X11_best rfl rfl rfl hdV_X11_best ⟨Nat.le_of_ble_eq_true rfl, Nat.le_of_ble_eq_true rfl⟩) (rg_recv hT G (by decide) r_mo k_X11) rfl hl.1 rfl (Nat.le_of_ble_eq_true rfl) dX11_illNow_90 ⟨Nat.le_of_ble_eq_true rfl, Nat.le_of_ble_eq_true rfl⟩) (fun r17 σ16 H locs h G => ?_)
            (try dsimp only at h)
            refine lv_istore (lv' := [(6, .int r17), (5, .ref (lay (33 + j9))), (0, .ref (lay 0)), (1, .int a1), (2, .int a2), (3, .int v3), (4, .int v4)]) hC.1 hC.2.1 dX11_illNow_93 hl (by decide) rfl (fun ls hl => ?_)
            refine lv_iload hC.1 hC.2.1 dX11_illNow_95 (lv_at hl 0 rfl) ?_
            refine lv_iconst (v := (-1)) hC.1 hC.2.1 dX11_illNow_97 (by decide) ?_
            refine lv_icmp_eq (tgt := 111) hC.1 hC.2.1 dX11_illNow_98 (by decide) (fun c18 => ?_) (fun c18 => ?_)
            · replace h := h.1 c18
              refine lv_aload hC.1 hC.2.1 dX11_illNow_111 (lv_at hl 1 rfl) ?_
              refine lv_iconst (v := 3) hC.1 hC.2.1 dX11_illNow_113 (by decide) ?_
              refine rg_putN hC hT G (rk_wd hj10) (r_wd hj10) k_X10 i_X11_illNow_X10 7 (by decide) 17 rfl rfl rfl (by simp) (r_wd hj10) (by rw [up2_eq]; rfl) dX11_illNow_114 (fun H locs G => ?_)
              refine lv_aload_n hC.1 hC.2.1 dX11_illNow_117 rfl (lv_at hl 2 rfl) ?_
              refine lv_dup hC.1 hC.2.1 dX11_illNow_118 rfl ?_
              refine rg_get hC hT G (by decide) r_mo k_X11 i_X11_illNow_X11 2 (by decide) (wm 5 rfl) rfl dX11_illNow_119 ?_
              refine lv_aload hC.1 hC.2.1 dX11_illNow_122 (lv_at hl 1 rfl) ?_
              refine rg_getN hC hT G (rk_wd hj10) (r_wd hj10) k_X10 i_X11_illNow_X10 11 (by decide) 21 rfl rfl dX11_illNow_124 ?_
              refine lv_aload hC.1 hC.2.1 dX11_illNow_127 (lv_at hl 1 rfl) ?_
              refine rg_getN hC hT G (rk_wd hj10) (r_wd hj10) k_X10 i_X11_illNow_X10 9 (by decide) 19 rfl rfl dX11_illNow_129 ?_
              refine lv_bipush (v := 10) hC.1 hC.2.1 dX11_illNow_132 (by decide) ?_
              refine lv_idiv hC.1 hC.2.1 dX11_illNow_134 (by decide) ?_
              refine lv_iadd hC.1 hC.2.1 dX11_illNow_135 ?_
              refine lv_isub hC.1 hC.2.1 dX11_illNow_136 ?_
              refine rg_put hC hT G (by decide) r_mo k_X11 i_X11_illNow_X11 2 (by decide) (wm 5 rfl) rfl rfl (by simp) r_mo (by rw [up2_eq]; rfl) dX11_illNow_137 (fun H locs G => ?_)
              refine lv_aload hC.1 hC.2.1 dX11_illNow_140 (lv_at hl 1 rfl) ?_
              refine lv_aload hC.1 hC.2.1 dX11_illNow_142 (lv_at hl 1 rfl) ?_
              refine rg_getN hC hT G (rk_wd hj10) (r_wd hj10) k_X10 i_X11_illNow_X10 9 (by decide) 19 rfl rfl dX11_illNow_144 ?_
              refine lv_topi (fun y19 ey19 => ?_)
              replace h := h y19 ey19
              refine lv_bipush (v := 10) hC.1 hC.2.1 dX11_illNow_147 (by decide) ?_
              refine lv_idiv hC.1 hC.2.1 dX11_illNow_149 (by decide) ?_
              refine lv_ineg hC.1 hC.2.1 dX11_illNow_150 ?_
              refine rg_putN hC hT G (rk_wd hj10) (r_wd hj10) k_X10 i_X11_illNow_X10 11 (by decide) 21 rfl rfl rfl (by simp) (r_wd hj10) (by rw [up2_eq]; rfl) dX11_illNow_151 (fun H locs G => ?_)
              refine lv_iinc (v := v3 + 1) (lv' := [(3, .int (v3 + 1)), (6, .int r17), (5, .ref (lay (33 + j9))), (0, .ref (lay 0)), (1, .int a1), (2, .int a2), (4, .int v4)]) hC.1 hC.2.1 dX11_illNow_154 hl (k := 5) rfl rfl (by decide) rfl (fun ls hl => ?_)
              refine lv_iinc (v := v4 + 1) (lv' := [(4, .int (v4 + 1)), (3, .int (v3 + 1)), (6, .int r17), (5, .ref (lay (33 + j9))), (0, .ref (lay 0)), (1, .int a1), (2, .int a2)]) hC.1 hC.2.1 dX11_illNow_157 hl (k := 6) rfl rfl (by decide) rfl (fun ls hl => ?_)
              refine lv_goto (tgt := 22) hC.1 hC.2.1 dX11_illNow_160 (by decide) ?_
              exact ih _ _ _ h _ _ _ G (lv_sub hl [4, 5, 6, 1, 0] rfl)
            · replace h := h.2 c18
              refine lv_aload hC.1 hC.2.1 dX11_illNow_101 (lv_at hl 1 rfl) ?_
              refine lv_iload hC.1 hC.2.1 dX11_illNow_103 (lv_at hl 0 rfl) ?_
              refine rg_putN hC hT G (rk_wd hj10) (r_wd hj10) k_X10 i_X11_illNow_X10 8 (by decide) 18 rfl rfl rfl (by simp) (r_wd hj10) (by rw [up2_eq]; rfl) dX11_illNow_105 (fun H locs G => ?_)
              refine lv_goto (tgt := 157) hC.1 hC.2.1 dX11_illNow_108 (by decide) ?_
              refine lv_iinc (v := v4 + 1) (lv' := [(4, .int (v4 + 1)), (6, .int r17), (5, .ref (lay (33 + j9))), (0, .ref (lay 0)), (1, .int a1), (2, .int a2), (3, .int v3)]) hC.1 hC.2.1 dX11_illNow_157 hl (k := 6) rfl rfl (by decide) rfl (fun ls hl => ?_)
              refine lv_goto (tgt := 22) hC.1 hC.2.1 dX11_illNow_160 (by decide) ?_
              exact ih _ _ _ h _ _ _ G (lv_sub hl [3, 4, 5, 6, 0] rfl)
          · replace h := h.1 c15
            refine lv_goto (tgt := 157) hC.1 hC.2.1 dX11_illNow_78 (by decide) ?_
            refine lv_iinc (v := v4 + 1) (lv' := [(4, .int (v4 + 1)), (5, .ref (lay (33 + j9))), (0, .ref (lay 0)), (1, .int a1), (2, .int a2), (3, .int v3)]) hC.1 hC.2.1 dX11_illNow_157 hl (k := 5) rfl rfl (by decide) rfl (fun ls hl => ?_)
            refine lv_goto (tgt := 22) hC.1 hC.2.1 dX11_illNow_160 (by decide) ?_
            exact ih _ _ _ h _ _ _ G (lv_sub hl [2, 3, 4, 5, 0] rfl)
def w_X11_illNow (Γ : RG) (post : Int32 → MS → Prop) (σ : MS) (a1 : Int32) (a2 : Int32) : Prop := w_lp_Jx4a65c_get_915e3 Γ (fun j2 σ1 => ((j2 < 10 ∧ j2 < Γ.1) ∧ (vp_in a2 366 ∧ (∃ k, u_X11_illNow_22 Γ post a1 a2 k (up2 σ1 (23 + j2) (Int32.toNatClampNeg a2) (vp_nar .boolean 1)) 0 0)))) σ a1
set_option maxHeartbeats 4000000 in
set_option maxRecDepth 100000 in
theorem c_X11_illNow (l : Launch) (D : va_G) (cy : Nat → ClassId) (lay : Nat → Nat) (Γ : RG) {σ : MS} {post : Int32 → MS → Prop} {a1 : Int32} {a2 : Int32} (h : w_X11_illNow Γ post σ a1 a2) (sz : Nat) : Met l yX11_illNow wsX11_illNow rm_X11_illNow (va_Pc [.ref (lay 0), .int a1, .int a2] (rI D cy lay Γ σ sz)) (va_Qi post (rO D cy lay Γ) (rA cy lay Γ sz)) 0 0 (rA cy lay Γ sz) := by
  refine rg_ofW (cc := cX11_illNow) (maxL := 7) (ret := some .int) (own := RX11) (Qc := fun sz => va_Qi post (rO D cy lay Γ) (rA cy lay Γ sz)) (by decide) rfl (Nat.le_of_ble_eq_true rfl) rfl ?_
  intro p e s m args below meth c ls hC hr hlocks hT G hl
  unfold w_X11_illNow at h
  have hl : lv_has ls 7 [(0, .ref (lay 0)), (1, .int a1), (2, .int a2)] := hl
  refine lv_aload_n hC.1 hC.2.1 dX11_illNow_0 rfl (lv_at hl 0 rfl) ?_
  refine rg_get hC hT G (by decide) r_mo k_X11 i_X11_illNow_X11 3 (by decide) (wm 1 rfl) rfl dX11_illNow_1 ?_
  refine lv_iload_n hC.1 hC.2.1 dX11_illNow_4 rfl (lv_at hl 1 rfl) ?_
  refine rg_r (f := fun i => lay (13 + i)) G (rg_runV (As := [.int a1]) (rest := []) hC hT G (c_lp_Jx4a65c_get_915e3 l D cy lay Γ h _) (cwV 1 hC.2.2.2.2 gX11_illNow_Jx4a65c_get_915e3 rfl rfl rfl hdV_Jx4a65c_get_915e3 ⟨Nat.le_of_ble_eq_true rfl, Nat.le_of_ble_eq_true rfl⟩) (rg_recv hT G (by decide) r_lp k_AL) rfl hl.1 rfl (Nat.le_of_ble_eq_true rfl) dX11_illNow_5 ⟨Nat.le_of_ble_eq_true rfl, Nat.le_of_ble_eq_true rfl⟩) (fun j2 σ1 H locs h G => ?_)
  (try dsimp only at h)
  obtain ⟨hj3, h⟩ := h
  refine rg_cast hC hT k_X9 (wm 2 rfl) (rg_recv hT G (rk_pl hj3) (r_pl hj3) k_X9) dX11_illNow_8 ?_
  refine rg_getN hC hT G (rk_pl hj3) (r_pl hj3) k_X9 i_X11_illNow_X9 6 (by decide) 8 rfl rfl dX11_illNow_11 ?_
  refine lv_iload_n hC.1 hC.2.1 dX11_illNow_14 rfl (lv_at hl 2 rfl) ?_
  refine lv_iconst (v := 1) hC.1 hC.2.1 dX11_illNow_15 (by decide) ?_
  obtain ⟨hn4, h⟩ := h
  refine rg_zast hC hT G (rk_of hj3) (fun _ => (r_of hj3)) hn4 dX11_illNow_16 (fun H locs G => ?_)
  refine lv_iconst (v := 0) hC.1 hC.2.1 dX11_illNow_17 (by decide) ?_
  refine lv_istore_n (lv' := [(3, .int 0), (0, .ref (lay 0)), (1, .int a1), (2, .int a2)]) hC.1 hC.2.1 dX11_illNow_18 rfl hl (by decide) rfl (fun ls hl => ?_)
  refine lv_iconst (v := 0) hC.1 hC.2.1 dX11_illNow_19 (by decide) ?_
  refine lv_istore (lv' := [(4, .int 0), (3, .int 0), (0, .ref (lay 0)), (1, .int a1), (2, .int a2)]) hC.1 hC.2.1 dX11_illNow_20 hl (by decide) rfl (fun ls hl => ?_)
  obtain ⟨n1, h⟩ := h
  exact l_X11_illNow_22 a1 a2 hC hr hlocks hT n1 _ _ _ h _ _ _ G (lv_sub hl [2, 3, 4, 1, 0] rfl)
theorem hdV_X11_illNow : yX11_illNow.cls = RX11 ∧ yX11_illNow.cls ≠ "java/lang/invoke/MethodHandle" ∧ yX11_illNow.cls ≠ "java/lang/invoke/VarHandle" ∧ (parseMethodDescriptor yX11_illNow.desc).map (fun d => d.parameters.length) = some 2 := by decide +kernel
abbrev rm_X11_ill : Room := { frames := 13, cells := 0, slots := 0, locals := 337 }
theorem i_X11_ill_X11 : ∀ w ∈ wsX110, w ∈ wsX11_ill := fun _ h => List.mem_cons_of_mem _ (List.mem_append_left _ (List.mem_append_left _ (List.mem_append_left _ (List.mem_append_left _ (List.mem_append_right _ h)))))
def w_X11_ill (Γ : RG) (post : Int32 → MS → Prop) (σ : MS) (a1 : Int32) (a2 : Int32) : Prop := w_X11_isPlayer Γ (fun r2 σ1 => ((r2 = 0 → w_X11_refuse Γ (fun r12 σ11 => post r12 σ11) σ1 1) ∧ (¬ r2 = 0 → w_X11_isDay Γ (fun r5 σ4 => ((r5 = 0 → w_X11_refuse Γ (fun r8 σ7 => post r8 σ7) σ4 2) ∧ (¬ r5 = 0 → w_X11_illNow Γ (fun r10 σ9 => post r10 σ9) σ4 a1 a2))) σ1 a2))) (up2 σ 0 0 0) a1
set_option maxHeartbeats 4000000 in
set_option maxRecDepth 100000 in
theorem c_X11_ill (l : Launch) (D : va_G) (cy : Nat → ClassId) (lay : Nat → Nat) (Γ : RG) {σ : MS} {post : Int32 → MS → Prop} {a1 : Int32} {a2 : Int32} (h : w_X11_ill Γ post σ a1 a2) (sz : Nat) : Met l yX11_ill wsX11_ill rm_X11_ill (va_Pc [.ref (lay 0), .int a1, .int a2] (rI D cy lay Γ σ sz)) (va_Qi post (rO D cy lay Γ) (rA cy lay Γ sz)) 0 0 (rA cy lay Γ sz) := by
  refine rg_ofW (cc := cX11_ill) (maxL := 3) (ret := some .int) (own := RX11) (Qc := fun sz => va_Qi post (rO D cy lay Γ) (rA cy lay Γ sz)) (by decide) rfl (Nat.le_of_ble_eq_true rfl) rfl ?_
  intro p e s m args below meth c ls hC hr hlocks hT G hl
  unfold w_X11_ill at h
  have hl : lv_has ls 3 [(0, .ref (lay 0)), (1, .int a1), (2, .int a2)] := hl
  refine lv_aload_n hC.1 hC.2.1 dX11_ill_0 rfl (lv_at hl 0 rfl) ?_
  refine lv_iconst (v := 0) hC.1 hC.2.1 dX11_ill_1 (by decide) ?_
  refine rg_put hC hT G (by decide) r_mo k_X11 i_X11_ill_X11 0 (by decide) (wm 1 rfl) rfl rfl (by simp) r_mo (by rw [up2_eq]; rfl) dX11_ill_2 (fun H locs G => ?_)
  refine lv_aload_n hC.1 hC.2.1 dX11_ill_5 rfl (lv_at hl 0 rfl) ?_
  refine lv_iload_n hC.1 hC.2.1 dX11_ill_6 rfl (lv_at hl 1 rfl) ?_
  refine rg_i G (rg_runV (As := [.int a1]) (rest := []) hC hT G (c_X11_isPlayer l D cy lay Γ h _) (cwV 1 hC.2.2.2.2 gX11_ill_X11_isPlayer rfl rfl rfl hdV_X11_isPlayer ⟨Nat.le_of_ble_eq_true rfl, Nat.le_of_ble_eq_true rfl⟩) (rg_recv hT G (by decide) r_mo k_X11) rfl hl.1 rfl (Nat.le_of_ble_eq_true rfl) dX11_ill_7 ⟨Nat.le_of_ble_eq_true rfl, Nat.le_of_ble_eq_true rfl⟩) (fun r2 σ1 H locs h G => ?_)
  (try dsimp only at h)
  refine lv_if_ne (tgt := 19) hC.1 hC.2.1 dX11_ill_10 (by decide) (fun c3 => ?_) (fun c3 => ?_)
  · replace h := h.2 c3
    refine lv_aload_n hC.1 hC.2.1 dX11_ill_19 rfl (lv_at hl 0 rfl) ?_
    refine lv_iload_n hC.1 hC.2.1 dX11_ill_20 rfl (lv_at hl 2 rfl) ?_
    refine rg_i G (rg_runV (As := [.int a2]) (rest := []) hC hT G (c_X11_isDay l D cy lay Γ h _) (cwV 1 hC.2.2.2.2 gX11_ill_X11_isDay rfl rfl rfl hdV_X11_isDay ⟨Nat.le_of_ble_eq_true rfl, Nat.le_of_ble_eq_true rfl⟩) (rg_recv hT G (by decide) r_mo k_X11) rfl hl.1 rfl (Nat.le_of_ble_eq_true rfl) dX11_ill_21 ⟨Nat.le_of_ble_eq_true rfl, Nat.le_of_ble_eq_true rfl⟩) (fun r5 σ4 H locs h G => ?_)
    (try dsimp only at h)
    refine lv_if_eq (tgt := 36) hC.1 hC.2.1 dX11_ill_24 (by decide) (fun c6 => ?_) (fun c6 => ?_)
    · replace h := h.1 c6
      refine lv_aload_n hC.1 hC.2.1 dX11_ill_36 rfl (lv_at hl 0 rfl) ?_
      refine lv_iconst (v := 2) hC.1 hC.2.1 dX11_ill_37 (by decide) ?_
      refine rg_i G (rg_runV (As := [.int 2]) (rest := []) hC hT G (c_X11_refuse l D cy lay Γ h _) (cwV 1 hC.2.2.2.2 gX11_ill_X11_refuse rfl rfl rfl hdV_X11_refuse ⟨Nat.le_of_ble_eq_true rfl, Nat.le_of_ble_eq_true rfl⟩) (rg_recv hT G (by decide) r_mo k_X11) rfl hl.1 rfl (Nat.le_of_ble_eq_true rfl) dX11_ill_38 ⟨Nat.le_of_ble_eq_true rfl, Nat.le_of_ble_eq_true rfl⟩) (fun r8 σ7 H locs h G => ?_)
      (try dsimp only at h)
      exact rg_iret hC hr hlocks G h dX11_ill_41
    · replace h := h.2 c6
      refine lv_aload_n hC.1 hC.2.1 dX11_ill_27 rfl (lv_at hl 0 rfl) ?_
      refine lv_iload_n hC.1 hC.2.1 dX11_ill_28 rfl (lv_at hl 1 rfl) ?_
      refine lv_iload_n hC.1 hC.2.1 dX11_ill_29 rfl (lv_at hl 2 rfl) ?_
      refine rg_i G (rg_runV (As := [.int a1, .int a2]) (rest := []) hC hT G (c_X11_illNow l D cy lay Γ h _) (cwV 2 hC.2.2.2.2 gX11_ill_X11_illNow rfl rfl rfl hdV_X11_illNow ⟨Nat.le_of_ble_eq_true rfl, Nat.le_of_ble_eq_true rfl⟩) (rg_recv hT G (by decide) r_mo k_X11) rfl hl.1 rfl (Nat.le_of_ble_eq_true rfl) dX11_ill_30 ⟨Nat.le_of_ble_eq_true rfl, Nat.le_of_ble_eq_true rfl⟩) (fun r10 σ9 H locs h G => ?_)
      (try dsimp only at h)
      refine lv_goto (tgt := 41) hC.1 hC.2.1 dX11_ill_33 (by decide) ?_
      exact rg_iret hC hr hlocks G h dX11_ill_41
  · replace h := h.1 c3
    refine lv_aload_n hC.1 hC.2.1 dX11_ill_13 rfl (lv_at hl 0 rfl) ?_
    refine lv_iconst (v := 1) hC.1 hC.2.1 dX11_ill_14 (by decide) ?_
    refine rg_i G (rg_runV (As := [.int 1]) (rest := []) hC hT G (c_X11_refuse l D cy lay Γ h _) (cwV 1 hC.2.2.2.2 gX11_ill_X11_refuse rfl rfl rfl hdV_X11_refuse ⟨Nat.le_of_ble_eq_true rfl, Nat.le_of_ble_eq_true rfl⟩) (rg_recv hT G (by decide) r_mo k_X11) rfl hl.1 rfl (Nat.le_of_ble_eq_true rfl) dX11_ill_15 ⟨Nat.le_of_ble_eq_true rfl, Nat.le_of_ble_eq_true rfl⟩) (fun r12 σ11 H locs h G => ?_)
    (try dsimp only at h)
    exact rg_iret hC hr hlocks G h dX11_ill_18
theorem hdV_X11_ill : yX11_ill.cls = RX11 ∧ yX11_ill.cls ≠ "java/lang/invoke/MethodHandle" ∧ yX11_ill.cls ≠ "java/lang/invoke/VarHandle" ∧ (parseMethodDescriptor yX11_ill.desc).map (fun d => d.parameters.length) = some 2 := by decide +kernel
