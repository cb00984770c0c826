abbrev rm_J3_checkIndex_8e157 : Room := { frames := 0, cells := 0, slots := 0, locals := 0 }
def u_J3_checkIndex_8e157_9 (Γ : RG) (post : Int32 → MS → Prop) (a0 : Int32) (a1 : Int32) (σ : MS) : Prop := False
set_option maxHeartbeats 4000000 in
set_option maxRecDepth 100000 in
theorem l_J3_checkIndex_8e157_9 {p : Program} {l : Launch} {e : Env} {s : State} {m : MethodId} {args : Array Value} {below : List Frame} {meth : Method} {c : Code} {D : va_G} {cy : Nat → ClassId} {lay : Nat → Nat} {Γ : RG} {post : Int32 → MS → Prop} (a0 : Int32) (a1 : Int32) (hC : CallFix p m c cJ3_checkIndex_8e157 3 s args wsJ3_checkIndex_8e157 RJ3) (hr : meth.sig.returnType = some .int) (hlocks : meth.locks = false) (hT : rT D cy lay Γ s) : ∀ (σ : MS), u_J3_checkIndex_8e157_9 Γ post a0 a1 σ → ∀ (H : Heap) (locs : List Loc) (ls : Array Slot), rG D cy lay Γ tn σ (rA cy lay Γ s.heap.size) s.heap H locs → lv_has ls 3 [(0, .int a0), (1, .int a1), (2, .null)] → W p l e rm_J3_checkIndex_8e157 s m args below meth c H locs 0 0 (MQ below (va_Qi post (rO D cy lay Γ) (rA cy lay Γ s.heap.size)) args s 0 0 (rA cy lay Γ s.heap.size)) (F0 m 9 ls []) := by
  intro σ h H locs ls G hl
  unfold u_J3_checkIndex_8e157_9 at h
  exact h.elim
def w_J3_checkIndex_8e157 (Γ : RG) (post : Int32 → MS → Prop) (σ : MS) (a0 : Int32) (a1 : Int32) : Prop := ((a0 < 0 → u_J3_checkIndex_8e157_9 Γ post a0 a1 σ) ∧ (¬ a0 < 0 → ((a0 < a1 → post a0 σ) ∧ (¬ a0 < a1 → u_J3_checkIndex_8e157_9 Γ post a0 a1 σ))))
set_option maxHeartbeats 4000000 in
set_option maxRecDepth 100000 in
theorem c_J3_checkIndex_8e157 (l : Launch) (D : va_G) (cy : Nat → ClassId) (lay : Nat → Nat) (Γ : RG) {σ : MS} {post : Int32 → MS → Prop} {a0 : Int32} {a1 : Int32} (h : w_J3_checkIndex_8e157 Γ post σ a0 a1) (sz : Nat) : Met l yJ3_checkIndex_8e157 wsJ3_checkIndex_8e157 rm_J3_checkIndex_8e157 (va_Pc [.int a0, .int a1, .null] (rI D cy lay Γ σ sz)) (va_Qi post (rO D cy lay Γ) (rA cy lay Γ sz)) 0 0 (rA cy lay Γ sz) := by
  refine rg_ofW (cc := cJ3_checkIndex_8e157) (maxL := 3) (ret := some .int) (own := RJ3) (Qc := fun sz => va_Qi post (rO D cy lay Γ) (rA cy lay Γ sz)) (by decide) rfl (Nat.le_of_ble_eq_true rfl) rfl ?_
  intro p e s m args below meth c ls hC hr hlocks hT G hl
  unfold w_J3_checkIndex_8e157 at h
  have hl : lv_has ls 3 [(0, .int a0), (1, .int a1), (2, .null)] := hl
  refine lv_iload_n hC.1 hC.2.1 dJ3_checkIndex_8e157_0 rfl (lv_at hl 0 rfl) ?_
  refine lv_if_lt (tgt := 9) hC.1 hC.2.1 dJ3_checkIndex_8e157_1 (by decide) (fun c1 => ?_) (fun c1 => ?_)
  · replace h := h.1 c1
    exact l_J3_checkIndex_8e157_9 a0 a1 hC hr hlocks hT _ h _ _ _ G (lv_sub hl [0, 1, 2] rfl)
  · replace h := h.2 c1
    refine lv_iload_n hC.1 hC.2.1 dJ3_checkIndex_8e157_4 rfl (lv_at hl 0 rfl) ?_
    refine lv_iload_n hC.1 hC.2.1 dJ3_checkIndex_8e157_5 rfl (lv_at hl 1 rfl) ?_
    refine lv_icmp_lt (tgt := 16) hC.1 hC.2.1 dJ3_checkIndex_8e157_6 (by decide) (fun c2 => ?_) (fun c2 => ?_)
    · replace h := h.1 c2
      refine lv_iload_n hC.1 hC.2.1 dJ3_checkIndex_8e157_16 rfl (lv_at hl 0 rfl) ?_
      exact rg_iret hC hr hlocks G h dJ3_checkIndex_8e157_17
    · replace h := h.2 c2
      exact l_J3_checkIndex_8e157_9 a0 a1 hC hr hlocks hT _ h _ _ _ G (lv_sub hl [0, 1, 2] rfl)
theorem hdS_J3_checkIndex_8e157 : yJ3_checkIndex_8e157.cls ≠ "java/lang/invoke/MethodHandle" ∧ yJ3_checkIndex_8e157.cls ≠ "java/lang/invoke/VarHandle" ∧ (parseMethodDescriptor yJ3_checkIndex_8e157.desc).map (fun d => d.parameters.length) = some 3 := by decide +kernel
abbrev rm_J15_checkIndex_7cf53 : Room := { frames := 1, cells := 0, slots := 0, locals := 22 }
def w_J15_checkIndex_7cf53 (Γ : RG) (post : Int32 → MS → Prop) (σ : MS) (a0 : Int32) (a1 : Int32) : Prop := w_J3_checkIndex_8e157 Γ (fun r2 σ1 => post r2 σ1) σ a0 a1
set_option maxHeartbeats 4000000 in
set_option maxRecDepth 100000 in
theorem c_J15_checkIndex_7cf53 (l : Launch) (D : va_G) (cy : Nat → ClassId) (lay : Nat → Nat) (Γ : RG) {σ : MS} {post : Int32 → MS → Prop} {a0 : Int32} {a1 : Int32} (h : w_J15_checkIndex_7cf53 Γ post σ a0 a1) (sz : Nat) : Met l yJ15_checkIndex_7cf53 wsJ15_checkIndex_7cf53 rm_J15_checkIndex_7cf53 (va_Pc [.int a0, .int a1] (rI D cy lay Γ σ sz)) (va_Qi post (rO D cy lay Γ) (rA cy lay Γ sz)) 0 0 (rA cy lay Γ sz) := by
  refine rg_ofW (cc := cJ15_checkIndex_7cf53) (maxL := 2) (ret := some .int) (own := RJ15) (Qc := fun sz => va_Qi post (rO D cy lay Γ) (rA cy lay Γ sz)) (by decide) rfl (Nat.le_of_ble_eq_true rfl) rfl ?_
  intro p e s m args below meth c ls hC hr hlocks hT G hl
  unfold w_J15_checkIndex_7cf53 at h
  have hl : lv_has ls 2 [(0, .int a0), (1, .int a1)] := hl
  refine lv_iload_n hC.1 hC.2.1 dJ15_checkIndex_7cf53_0 rfl (lv_at hl 0 rfl) ?_
  refine lv_iload_n hC.1 hC.2.1 dJ15_checkIndex_7cf53_1 rfl (lv_at hl 1 rfl) ?_
  refine lv_null hC.1 hC.2.1 dJ15_checkIndex_7cf53_2 ?_
  refine rg_i G (rg_runS (As := [.int a0, .int a1, .null]) (rest := []) hC hT G (c_J3_checkIndex_8e157 l D cy lay Γ h _) (va_cwS 3 hC.2.2.2.2 gJ15_checkIndex_7cf53_J3_checkIndex_8e157 rfl rfl rfl hdS_J3_checkIndex_8e157 ⟨Nat.le_of_ble_eq_true rfl, Nat.le_of_ble_eq_true rfl⟩) rfl hl.1 rfl (Nat.le_of_ble_eq_true rfl) dJ15_checkIndex_7cf53_3 ⟨Nat.le_of_ble_eq_true rfl, Nat.le_of_ble_eq_true rfl⟩) (fun r2 σ1 H locs h G => ?_)
  (try dsimp only at h)
  exact rg_iret hC hr hlocks G h dJ15_checkIndex_7cf53_6
theorem hdS_J15_checkIndex_7cf53 : yJ15_checkIndex_7cf53.cls ≠ "java/lang/invoke/MethodHandle" ∧ yJ15_checkIndex_7cf53.cls ≠ "java/lang/invoke/VarHandle" ∧ (parseMethodDescriptor yJ15_checkIndex_7cf53.desc).map (fun d => d.parameters.length) = some 2 := by decide +kernel
abbrev rm_lp_Jx4a65c_size_8abf5 : Room := { frames := 0, cells := 0, slots := 0, locals := 0 }
theorem i_lp_Jx4a65c_size_8abf5_Jx4a65c : ∀ w ∈ wsJx4a65c0, w ∈ wsJx4a65c_size_8abf5 := fun _ h => List.mem_cons_of_mem _ (List.mem_append_right _ h)
def w_lp_Jx4a65c_size_8abf5 (Γ : RG) (post : Int32 → MS → Prop) (σ : MS) : Prop := post (σ 1 2) σ
set_option maxHeartbeats 4000000 in
set_option maxRecDepth 100000 in
theorem c_lp_Jx4a65c_size_8abf5 (l : Launch) (D : va_G) (cy : Nat → ClassId) (lay : Nat → Nat) (Γ : RG) {σ : MS} {post : Int32 → MS → Prop} (h : w_lp_Jx4a65c_size_8abf5 Γ post σ) (sz : Nat) : Met l yJx4a65c_size_8abf5 wsJx4a65c_size_8abf5 rm_lp_Jx4a65c_size_8abf5 (va_Pc [.ref (lay 1)] (rI D cy lay Γ σ sz)) (va_Qi post (rO D cy lay Γ) (rA cy lay Γ sz)) 0 0 (rA cy lay Γ sz) := by
  refine rg_ofW (cc := cJx4a65c_size_8abf5) (maxL := 1) (ret := some .int) (own := RJx4a65c) (Qc := fun sz => va_Qi post (rO D cy lay Γ) (rA cy lay Γ sz)) (by decide) rfl (Nat.le_of_ble_eq_true rfl) rfl ?_
  intro p e s m args below meth c ls hC hr hlocks hT G hl
  unfold w_lp_Jx4a65c_size_8abf5 at h
  have hl : lv_has ls 1 [(0, .ref (lay 1))] := hl
  refine lv_aload_n hC.1 hC.2.1 dJx4a65c_size_8abf5_0 rfl (lv_at hl 0 rfl) ?_
  refine rg_get hC hT G (by decide) r_lp k_AL i_lp_Jx4a65c_size_8abf5_Jx4a65c 2 (by decide) (wm 1 rfl) rfl dJx4a65c_size_8abf5_1 ?_
  exact rg_iret hC hr hlocks G h dJx4a65c_size_8abf5_4
theorem hdV_Jx4a65c_size_8abf5 : yJx4a65c_size_8abf5.cls = RJx4a65c ∧ yJx4a65c_size_8abf5.cls ≠ "java/lang/invoke/MethodHandle" ∧ yJx4a65c_size_8abf5.cls ≠ "java/lang/invoke/VarHandle" ∧ (parseMethodDescriptor yJx4a65c_size_8abf5.desc).map (fun d => d.parameters.length) = some 0 := by decide +kernel
abbrev rm_lb_Jx4a65c_size_8abf5 : Room := { frames := 0, cells := 0, slots := 0, locals := 0 }
theorem i_lb_Jx4a65c_size_8abf5_Jx4a65c : ∀ w ∈ wsJx4a65c0, w ∈ wsJx4a65c_size_8abf5 := fun _ h => List.mem_cons_of_mem _ (List.mem_append_right _ h)
def w_lb_Jx4a65c_size_8abf5 (Γ : RG) (post : Int32 → MS → Prop) (σ : MS) : Prop := post (σ 2 2) σ
set_option maxHeartbeats 4000000 in
set_option maxRecDepth 100000 in
theorem c_lb_Jx4a65c_size_8abf5 (l : Launch) (D : va_G) (cy : Nat → ClassId) (lay : Nat → Nat) (Γ : RG) {σ : MS} {post : Int32 → MS → Prop} (h : w_lb_Jx4a65c_size_8abf5 Γ post σ) (sz : Nat) : Met l yJx4a65c_size_8abf5 wsJx4a65c_size_8abf5 rm_lb_Jx4a65c_size_8abf5 (va_Pc [.ref (lay 2)] (rI D cy lay Γ σ sz)) (va_Qi post (rO D cy lay Γ) (rA cy lay Γ sz)) 0 0 (rA cy lay Γ sz) := by
  refine rg_ofW (cc := cJx4a65c_size_8abf5) (maxL := 1) (ret := some .int) (own := RJx4a65c) (Qc := fun sz => va_Qi post (rO D cy lay Γ) (rA cy lay Γ sz)) (by decide) rfl (Nat.le_of_ble_eq_true rfl) rfl ?_
  intro p e s m args below meth c ls hC hr hlocks hT G hl
  unfold w_lb_Jx4a65c_size_8abf5 at h
  have hl : lv_has ls 1 [(0, .ref (lay 2))] := hl
  refine lv_aload_n hC.1 hC.2.1 dJx4a65c_size_8abf5_0 rfl (lv_at hl 0 rfl) ?_
  refine rg_get hC hT G (by decide) r_lb k_AL i_lb_Jx4a65c_size_8abf5_Jx4a65c 2 (by decide) (wm 1 rfl) rfl dJx4a65c_size_8abf5_1 ?_
  exact rg_iret hC hr hlocks G h dJx4a65c_size_8abf5_4
abbrev rm_lw_Jx4a65c_size_8abf5 : Room := { frames := 0, cells := 0, slots := 0, locals := 0 }
theorem i_lw_Jx4a65c_size_8abf5_Jx4a65c : ∀ w ∈ wsJx4a65c0, w ∈ wsJx4a65c_size_8abf5 := fun _ h => List.mem_cons_of_mem _ (List.mem_append_right _ h)
def w_lw_Jx4a65c_size_8abf5 (Γ : RG) (post : Int32 → MS → Prop) (σ : MS) : Prop := post (σ 3 2) σ
set_option maxHeartbeats 4000000 in
set_option maxRecDepth 100000 in
theorem c_lw_Jx4a65c_size_8abf5 (l : Launch) (D : va_G) (cy : Nat → ClassId) (lay : Nat → Nat) (Γ : RG) {σ : MS} {post : Int32 → MS → Prop} (h : w_lw_Jx4a65c_size_8abf5 Γ post σ) (sz : Nat) : Met l yJx4a65c_size_8abf5 wsJx4a65c_size_8abf5 rm_lw_Jx4a65c_size_8abf5 (va_Pc [.ref (lay 3)] (rI D cy lay Γ σ sz)) (va_Qi post (rO D cy lay Γ) (rA cy lay Γ sz)) 0 0 (rA cy lay Γ sz) := by
  refine rg_ofW (cc := cJx4a65c_size_8abf5) (maxL := 1) (ret := some .int) (own := RJx4a65c) (Qc := fun sz => va_Qi post (rO D cy lay Γ) (rA cy lay Γ sz)) (by decide) rfl (Nat.le_of_ble_eq_true rfl) rfl ?_
  intro p e s m args below meth c ls hC hr hlocks hT G hl
  unfold w_lw_Jx4a65c_size_8abf5 at h
  have hl : lv_has ls 1 [(0, .ref (lay 3))] := hl
  refine lv_aload_n hC.1 hC.2.1 dJx4a65c_size_8abf5_0 rfl (lv_at hl 0 rfl) ?_
  refine rg_get hC hT G (by decide) r_lw k_AL i_lw_Jx4a65c_size_8abf5_Jx4a65c 2 (by decide) (wm 1 rfl) rfl dJx4a65c_size_8abf5_1 ?_
  exact rg_iret hC hr hlocks G h dJx4a65c_size_8abf5_4
abbrev rm_lp_Jx4a65c_isEmpty_aae02 : Room := { frames := 0, cells := 0, slots := 0, locals := 0 }
theorem i_lp_Jx4a65c_isEmpty_aae02_Jx4a65c : ∀ w ∈ wsJx4a65c0, w ∈ wsJx4a65c_isEmpty_aae02 := fun _ h => List.mem_cons_of_mem _ (List.mem_append_right _ h)
def w_lp_Jx4a65c_isEmpty_aae02 (Γ : RG) (post : Int32 → MS → Prop) (σ : MS) : Prop := (((σ 1 2) = 0 → post 1 σ) ∧ (¬ (σ 1 2) = 0 → post 0 σ))
set_option maxHeartbeats 4000000 in
set_option maxRecDepth 100000 in
theorem c_lp_Jx4a65c_isEmpty_aae02 (l : Launch) (D : va_G) (cy : Nat → ClassId) (lay : Nat → Nat) (Γ : RG) {σ : MS} {post : Int32 → MS → Prop} (h : w_lp_Jx4a65c_isEmpty_aae02 Γ post σ) (sz : Nat) : Met l yJx4a65c_isEmpty_aae02 wsJx4a65c_isEmpty_aae02 rm_lp_Jx4a65c_isEmpty_aae02 (va_Pc [.ref (lay 1)] (rI D cy lay Γ σ sz)) (va_Qi post (rO D cy lay Γ) (rA cy lay Γ sz)) 0 0 (rA cy lay Γ sz) := by
  refine rg_ofW (cc := cJx4a65c_isEmpty_aae02) (maxL := 1) (ret := some .boolean) (own := RJx4a65c) (Qc := fun sz => va_Qi post (rO D cy lay Γ) (rA cy lay Γ sz)) (by decide) rfl (Nat.le_of_ble_eq_true rfl) rfl ?_
  intro p e s m args below meth c ls hC hr hlocks hT G hl
  unfold w_lp_Jx4a65c_isEmpty_aae02 at h
  have hl : lv_has ls 1 [(0, .ref (lay 1))] := hl
  refine lv_aload_n hC.1 hC.2.1 dJx4a65c_isEmpty_aae02_0 rfl (lv_at hl 0 rfl) ?_
  refine rg_get hC hT G (by decide) r_lp k_AL i_lp_Jx4a65c_isEmpty_aae02_Jx4a65c 2 (by decide) (wm 1 rfl) rfl dJx4a65c_isEmpty_aae02_1 ?_
  refine lv_if_ne (tgt := 11) hC.1 hC.2.1 dJx4a65c_isEmpty_aae02_4 (by decide) (fun c1 => ?_) (fun c1 => ?_)
  · replace h := h.2 c1
    refine lv_iconst (v := 0) hC.1 hC.2.1 dJx4a65c_isEmpty_aae02_11 (by decide) ?_
    exact rg_zret hC hr hlocks G rfl h dJx4a65c_isEmpty_aae02_12
  · replace h := h.1 c1
    refine lv_iconst (v := 1) hC.1 hC.2.1 dJx4a65c_isEmpty_aae02_7 (by decide) ?_
    refine lv_goto (tgt := 12) hC.1 hC.2.1 dJx4a65c_isEmpty_aae02_8 (by decide) ?_
    exact rg_zret hC hr hlocks G rfl h dJx4a65c_isEmpty_aae02_12
theorem hdV_Jx4a65c_isEmpty_aae02 : yJx4a65c_isEmpty_aae02.cls = RJx4a65c ∧ yJx4a65c_isEmpty_aae02.cls ≠ "java/lang/invoke/MethodHandle" ∧ yJx4a65c_isEmpty_aae02.cls ≠ "java/lang/invoke/VarHandle" ∧ (parseMethodDescriptor yJx4a65c_isEmpty_aae02.desc).map (fun d => d.parameters.length) = some 0 := by decide +kernel
abbrev rm_lp_Jx4a65c_elementData_915e3 : Room := { frames := 0, cells := 0, slots := 0, locals := 0 }
theorem i_lp_Jx4a65c_elementData_915e3_Jx4a65c : ∀ w ∈ wsJx4a65c0, w ∈ wsJx4a65c_elementData_915e3 := fun _ h => List.mem_cons_of_mem _ (List.mem_append_right _ h)
def w_lp_Jx4a65c_elementData_915e3 (Γ : RG) (post : Nat → MS → Prop) (σ : MS) (a1 : Int32) : Prop := (Γ.1 ≠ 0 ∧ (vp_in a1 10 ∧ (Int32.toNatClampNeg a1 < Γ.1 ∧ post (Int32.toNatClampNeg a1) σ)))
set_option maxHeartbeats 4000000 in
set_option maxRecDepth 100000 in
theorem c_lp_Jx4a65c_elementData_915e3 (l : Launch) (D : va_G) (cy : Nat → ClassId) (lay : Nat → Nat) (Γ : RG) {σ : MS} {post : Nat → MS → Prop} {a1 : Int32} (h : w_lp_Jx4a65c_elementData_915e3 Γ post σ a1) (sz : Nat) : Met l yJx4a65c_elementData_915e3 wsJx4a65c_elementData_915e3 rm_lp_Jx4a65c_elementData_915e3 (va_Pc [.ref (lay 1), .int a1] (rI D cy lay Γ σ sz)) (rQ post (fun i => lay (13 + i)) D cy lay Γ (rA cy lay Γ sz)) 0 0 (rA cy lay Γ sz) := by
  refine rg_ofW (cc := cJx4a65c_elementData_915e3) (maxL := 2) (ret := some (.object "java/lang/Object")) (own := RJx4a65c) (Qc := fun sz => rQ post (fun i => lay (13 + i)) D cy lay Γ (rA cy lay Γ sz)) (by decide) rfl (Nat.le_of_ble_eq_true rfl) rfl ?_
  intro p e s m args below meth c ls hC hr hlocks hT G hl
  unfold w_lp_Jx4a65c_elementData_915e3 at h
  have hl : lv_has ls 2 [(0, .ref (lay 1)), (1, .int a1)] := hl
  refine lv_aload_n hC.1 hC.2.1 dJx4a65c_elementData_915e3_0 rfl (lv_at hl 0 rfl) ?_
  obtain ⟨hne1, h⟩ := h
  refine rg_get (v := .ref (lay 4)) hC hT G (by decide) r_lp k_AL i_lp_Jx4a65c_elementData_915e3_Jx4a65c 1 (by decide) (wm 1 rfl) (congrArg some (congrArg Value.ref (if_neg hne1))) dJx4a65c_elementData_915e3_1 ?_
  refine lv_iload_n hC.1 hC.2.1 dJx4a65c_elementData_915e3_4 rfl (lv_at hl 1 rfl) ?_
  obtain ⟨hn2, hm3, h⟩ := h
  refine rg_aald (q := (lay (13 + (Int32.toNatClampNeg a1)))) hC hT G (by decide) (r_ep hne1) hn2 (if_pos hm3) dJx4a65c_elementData_915e3_5 ?_
  exact rg_rret (f := fun i => lay (13 + i)) hC hr (Or.inl ⟨_, rfl⟩) hlocks G h dJx4a65c_elementData_915e3_6
theorem hdV_Jx4a65c_elementData_915e3 : yJx4a65c_elementData_915e3.cls = RJx4a65c ∧ yJx4a65c_elementData_915e3.cls ≠ "java/lang/invoke/MethodHandle" ∧ yJx4a65c_elementData_915e3.cls ≠ "java/lang/invoke/VarHandle" ∧ (parseMethodDescriptor yJx4a65c_elementData_915e3.desc).map (fun d => d.parameters.length) = some 1 := by decide +kernel
abbrev rm_lb_Jx4a65c_elementData_915e3 : Room := { frames := 0, cells := 0, slots := 0, locals := 0 }
theorem i_lb_Jx4a65c_elementData_915e3_Jx4a65c : ∀ w ∈ wsJx4a65c0, w ∈ wsJx4a65c_elementData_915e3 := fun _ h => List.mem_cons_of_mem _ (List.mem_append_right _ h)
def w_lb_Jx4a65c_elementData_915e3 (Γ : RG) (post : Nat → MS → Prop) (σ : MS) (a1 : Int32) : Prop := (Γ.2.1 ≠ 0 ∧ (vp_in a1 10 ∧ (Int32.toNatClampNeg a1 < Γ.2.1 ∧ post (Int32.toNatClampNeg a1) σ)))
set_option maxHeartbeats 4000000 in
set_option maxRecDepth 100000 in
theorem c_lb_Jx4a65c_elementData_915e3 (l : Launch) (D : va_G) (cy : Nat → ClassId) (lay : Nat → Nat) (Γ : RG) {σ : MS} {post : Nat → MS → Prop} {a1 : Int32} (h : w_lb_Jx4a65c_elementData_915e3 Γ post σ a1) (sz : Nat) : Met l yJx4a65c_elementData_915e3 wsJx4a65c_elementData_915e3 rm_lb_Jx4a65c_elementData_915e3 (va_Pc [.ref (lay 2), .int a1] (rI D cy lay Γ σ sz)) (rQ post (fun i => Γ.2.2.2.2.1 i) D cy lay Γ (rA cy lay Γ sz)) 0 0 (rA cy lay Γ sz) := by
  refine rg_ofW (cc := cJx4a65c_elementData_915e3) (maxL := 2) (ret := some (.object "java/lang/Object")) (own := RJx4a65c) (Qc := fun sz => rQ post (fun i => Γ.2.2.2.2.1 i) D cy lay Γ (rA cy lay Γ sz)) (by decide) rfl (Nat.le_of_ble_eq_true rfl) rfl ?_
  intro p e s m args below meth c ls hC hr hlocks hT G hl
  unfold w_lb_Jx4a65c_elementData_915e3 at h
  have hl : lv_has ls 2 [(0, .ref (lay 2)), (1, .int a1)] := hl
  refine lv_aload_n hC.1 hC.2.1 dJx4a65c_elementData_915e3_0 rfl (lv_at hl 0 rfl) ?_
  obtain ⟨hne1, h⟩ := h
  refine rg_get (v := .ref (lay 5)) hC hT G (by decide) r_lb k_AL i_lb_Jx4a65c_elementData_915e3_Jx4a65c 1 (by decide) (wm 1 rfl) (congrArg some (congrArg Value.ref (if_neg hne1))) dJx4a65c_elementData_915e3_1 ?_
  refine lv_iload_n hC.1 hC.2.1 dJx4a65c_elementData_915e3_4 rfl (lv_at hl 1 rfl) ?_
  obtain ⟨hn2, hm3, h⟩ := h
  refine rg_aald (q := (Γ.2.2.2.2.1 (Int32.toNatClampNeg a1))) hC hT G (by decide) (r_eb hne1) hn2 (if_pos hm3) dJx4a65c_elementData_915e3_5 ?_
  exact rg_rret (f := fun i => Γ.2.2.2.2.1 i) hC hr (Or.inl ⟨_, rfl⟩) hlocks G h dJx4a65c_elementData_915e3_6
abbrev rm_lw_Jx4a65c_elementData_915e3 : Room := { frames := 0, cells := 0, slots := 0, locals := 0 }
theorem i_lw_Jx4a65c_elementData_915e3_Jx4a65c : ∀ w ∈ wsJx4a65c0, w ∈ wsJx4a65c_elementData_915e3 := fun _ h => List.mem_cons_of_mem _ (List.mem_append_right _ h)
def w_lw_Jx4a65c_elementData_915e3 (Γ : RG) (post : Nat → MS → Prop) (σ : MS) (a1 : Int32) : Prop := (Γ.2.2.1 ≠ 0 ∧ (vp_in a1 (if Γ.2.2.1 ≤ 10 then 10 else 15) ∧ (Int32.toNatClampNeg a1 < Γ.2.2.1 ∧ post (Int32.toNatClampNeg a1) σ)))
set_option maxHeartbeats 4000000 in
set_option maxRecDepth 100000 in
theorem c_lw_Jx4a65c_elementData_915e3 (l : Launch) (D : va_G) (cy : Nat → ClassId) (lay : Nat → Nat) (Γ : RG) {σ : MS} {post : Nat → MS → Prop} {a1 : Int32} (h : w_lw_Jx4a65c_elementData_915e3 Γ post σ a1) (sz : Nat) : Met l yJx4a65c_elementData_915e3 wsJx4a65c_elementData_915e3 rm_lw_Jx4a65c_elementData_915e3 (va_Pc [.ref (lay 3), .int a1] (rI D cy lay Γ σ sz)) (rQ post (fun i => lay (33 + i)) D cy lay Γ (rA cy lay Γ sz)) 0 0 (rA cy lay Γ sz) := by
  refine rg_ofW (cc := cJx4a65c_elementData_915e3) (maxL := 2) (ret := some (.object "java/lang/Object")) (own := RJx4a65c) (Qc := fun sz => rQ post (fun i => lay (33 + i)) D cy lay Γ (rA cy lay Γ sz)) (by decide) rfl (Nat.le_of_ble_eq_true rfl) rfl ?_
  intro p e s m args below meth c ls hC hr hlocks hT G hl
  unfold w_lw_Jx4a65c_elementData_915e3 at h
  have hl : lv_has ls 2 [(0, .ref (lay 3)), (1, .int a1)] := hl
  refine lv_aload_n hC.1 hC.2.1 dJx4a65c_elementData_915e3_0 rfl (lv_at hl 0 rfl) ?_
  obtain ⟨hne1, h⟩ := h
  refine rg_get (v := .ref (lay 6)) hC hT G (by decide) r_lw k_AL i_lw_Jx4a65c_elementData_915e3_Jx4a65c 1 (by decide) (wm 1 rfl) (congrArg some (congrArg Value.ref (if_neg hne1))) dJx4a65c_elementData_915e3_1 ?_
  refine lv_iload_n hC.1 hC.2.1 dJx4a65c_elementData_915e3_4 rfl (lv_at hl 1 rfl) ?_
  obtain ⟨hn2, hm3, h⟩ := h
  refine rg_aald (q := (lay (33 + (Int32.toNatClampNeg a1)))) hC hT G (by decide) (r_ew hne1) hn2 (if_pos hm3) dJx4a65c_elementData_915e3_5 ?_
  exact rg_rret (f := fun i => lay (33 + i)) hC hr (Or.inl ⟨_, rfl⟩) hlocks G h dJx4a65c_elementData_915e3_6
abbrev rm_lp_Jx4a65c_get_915e3 : Room := { frames := 2, cells := 0, slots := 0, locals := 43 }
theorem i_lp_Jx4a65c_get_915e3_Jx4a65c : ∀ w ∈ wsJx4a65c0, w ∈ wsJx4a65c_get_915e3 := fun _ h => List.mem_cons_of_mem _ (List.mem_append_right _ h)
def w_lp_Jx4a65c_get_915e3 (Γ : RG) (post : Nat → MS → Prop) (σ : MS) (a1 : Int32) : Prop := w_J15_checkIndex_7cf53 Γ (fun r2 σ1 => w_lp_Jx4a65c_elementData_915e3 Γ (fun j4 σ3 => ((j4 < 10 ∧ j4 < Γ.1) ∧ post j4 σ3)) σ1 a1) σ a1 (σ 1 2)
set_option maxHeartbeats 4000000 in
set_option maxRecDepth 100000 in
theorem c_lp_Jx4a65c_get_915e3 (l : Launch) (D : va_G) (cy : Nat → ClassId) (lay : Nat → Nat) (Γ : RG) {σ : MS} {post : Nat → MS → Prop} {a1 : Int32} (h : w_lp_Jx4a65c_get_915e3 Γ post σ a1) (sz : Nat) : Met l yJx4a65c_get_915e3 wsJx4a65c_get_915e3 rm_lp_Jx4a65c_get_915e3 (va_Pc [.ref (lay 1), .int a1] (rI D cy lay Γ σ sz)) (rQ post (fun i => lay (13 + i)) D cy lay Γ (rA cy lay Γ sz)) 0 0 (rA cy lay Γ sz) := by
  refine rg_ofW (cc := cJx4a65c_get_915e3) (maxL := 2) (ret := some (.object "java/lang/Object")) (own := RJx4a65c) (Qc := fun sz => rQ post (fun i => lay (13 + i)) D cy lay Γ (rA cy lay Γ sz)) (by decide) rfl (Nat.le_of_ble_eq_true rfl) rfl ?_
  intro p e s m args below meth c ls hC hr hlocks hT G hl
  unfold w_lp_Jx4a65c_get_915e3 at h
  have hl : lv_has ls 2 [(0, .ref (lay 1)), (1, .int a1)] := hl
  refine lv_iload_n hC.1 hC.2.1 dJx4a65c_get_915e3_0 rfl (lv_at hl 1 rfl) ?_
  refine lv_aload_n hC.1 hC.2.1 dJx4a65c_get_915e3_1 rfl (lv_at hl 0 rfl) ?_
  refine rg_get hC hT G (by decide) r_lp k_AL i_lp_Jx4a65c_get_915e3_Jx4a65c 2 (by decide) (wm 1 rfl) rfl dJx4a65c_get_915e3_2 ?_
  refine rg_i G (rg_runS (As := [.int a1, .int (σ 1 2)]) (rest := []) hC hT G (c_J15_checkIndex_7cf53 l D cy lay Γ h _) (va_cwS 2 hC.2.2.2.2 gJx4a65c_get_915e3_J15_checkIndex_7cf53 rfl rfl rfl hdS_J15_checkIndex_7cf53 ⟨Nat.le_of_ble_eq_true rfl, Nat.le_of_ble_eq_true rfl⟩) rfl hl.1 rfl (Nat.le_of_ble_eq_true rfl) dJx4a65c_get_915e3_5 ⟨Nat.le_of_ble_eq_true rfl, Nat.le_of_ble_eq_true rfl⟩) (fun r2 σ1 H locs h G => ?_)
  (try dsimp only at h)
  refine lv_pop hC.1 hC.2.1 dJx4a65c_get_915e3_8 rfl ?_
  refine lv_aload_n hC.1 hC.2.1 dJx4a65c_get_915e3_9 rfl (lv_at hl 0 rfl) ?_
  refine lv_iload_n hC.1 hC.2.1 dJx4a65c_get_915e3_10 rfl (lv_at hl 1 rfl) ?_
  refine rg_r (f := fun i => lay (13 + i)) G (rg_runV (As := [.int a1]) (rest := []) hC hT G (c_lp_Jx4a65c_elementData_915e3 l D cy lay Γ h _) (cwV 1 hC.2.2.2.2 gJx4a65c_get_915e3_Jx4a65c_elementData_915e3 rfl rfl rfl hdV_Jx4a65c_elementData_915e3 ⟨Nat.le_of_ble_eq_true rfl, Nat.le_of_ble_eq_true rfl⟩) (rg_recv hT G (by decide) r_lp k_AL) rfl hl.1 rfl (Nat.le_of_ble_eq_true rfl) dJx4a65c_get_915e3_11 ⟨Nat.le_of_ble_eq_true rfl, Nat.le_of_ble_eq_true rfl⟩) (fun j4 σ3 H locs h G => ?_)
  (try dsimp only at h)
  obtain ⟨hj5, h⟩ := h
  exact rg_rret (f := fun i => lay (13 + i)) hC hr (Or.inl ⟨_, rfl⟩) hlocks G h dJx4a65c_get_915e3_14
theorem hdV_Jx4a65c_get_915e3 : yJx4a65c_get_915e3.cls = RJx4a65c ∧ yJx4a65c_get_915e3.cls ≠ "java/lang/invoke/MethodHandle" ∧ yJx4a65c_get_915e3.cls ≠ "java/lang/invoke/VarHandle" ∧ (parseMethodDescriptor yJx4a65c_get_915e3.desc).map (fun d => d.parameters.length) = some 1 := by decide +kernel
abbrev rm_lb_Jx4a65c_get_915e3 : Room := { frames := 2, cells := 0, slots := 0, locals := 43 }
theorem i_lb_Jx4a65c_get_915e3_Jx4a65c : ∀ w ∈ wsJx4a65c0, w ∈ wsJx4a65c_get_915e3 := fun _ h => List.mem_cons_of_mem _ (List.mem_append_right _ h)
def w_lb_Jx4a65c_get_915e3 (Γ : RG) (post : Nat → MS → Prop) (σ : MS) (a1 : Int32) : Prop := w_J15_checkIndex_7cf53 Γ (fun r2 σ1 => w_lb_Jx4a65c_elementData_915e3 Γ (fun j4 σ3 => ((j4 < Γ.2.1) ∧ post j4 σ3)) σ1 a1) σ a1 (σ 2 2)
set_option maxHeartbeats 4000000 in
set_option maxRecDepth 100000 in
theorem c_lb_Jx4a65c_get_915e3 (l : Launch) (D : va_G) (cy : Nat → ClassId) (lay : Nat → Nat) (Γ : RG) {σ : MS} {post : Nat → MS → Prop} {a1 : Int32} (h : w_lb_Jx4a65c_get_915e3 Γ post σ a1) (sz : Nat) : Met l yJx4a65c_get_915e3 wsJx4a65c_get_915e3 rm_lb_Jx4a65c_get_915e3 (va_Pc [.ref (lay 2), .int a1] (rI D cy lay Γ σ sz)) (rQ post (fun i => Γ.2.2.2.2.1 i) D cy lay Γ (rA cy lay Γ sz)) 0 0 (rA cy lay Γ sz) := by
  refine rg_ofW (cc := cJx4a65c_get_915e3) (maxL := 2) (ret := some (.object "java/lang/Object")) (own := RJx4a65c) (Qc := fun sz => rQ post (fun i => Γ.2.2.2.2.1 i) D cy lay Γ (rA cy lay Γ sz)) (by decide) rfl (Nat.le_of_ble_eq_true rfl) rfl ?_
  intro p e s m args below meth c ls hC hr hlocks hT G hl
  unfold w_lb_Jx4a65c_get_915e3 at h
  have hl : lv_has ls 2 [(0, .ref (lay 2)), (1, .int a1)] := hl
  refine lv_iload_n hC.1 hC.2.1 dJx4a65c_get_915e3_0 rfl (lv_at hl 1 rfl) ?_
  refine lv_aload_n hC.1 hC.2.1 dJx4a65c_get_915e3_1 rfl (lv_at hl 0 rfl) ?_
  refine rg_get hC hT G (by decide) r_lb k_AL i_lb_Jx4a65c_get_915e3_Jx4a65c 2 (by decide) (wm 1 rfl) rfl dJx4a65c_get_915e3_2 ?_
  refine rg_i G (rg_runS (As := [.int a1, .int (σ 2 2)]) (rest := []) hC hT G (c_J15_checkIndex_7cf53 l D cy lay Γ h _) (va_cwS 2 hC.2.2.2.2 gJx4a65c_get_915e3_J15_checkIndex_7cf53 rfl rfl rfl hdS_J15_checkIndex_7cf53 ⟨Nat.le_of_ble_eq_true rfl, Nat.le_of_ble_eq_true rfl⟩) rfl hl.1 rfl (Nat.le_of_ble_eq_true rfl) dJx4a65c_get_915e3_5 ⟨Nat.le_of_ble_eq_true rfl, Nat.le_of_ble_eq_true rfl⟩) (fun r2 σ1 H locs h G => ?_)
  (try dsimp only at h)
  refine lv_pop hC.1 hC.2.1 dJx4a65c_get_915e3_8 rfl ?_
  refine lv_aload_n hC.1 hC.2.1 dJx4a65c_get_915e3_9 rfl (lv_at hl 0 rfl) ?_
  refine lv_iload_n hC.1 hC.2.1 dJx4a65c_get_915e3_10 rfl (lv_at hl 1 rfl) ?_
  refine rg_r (f := fun i => Γ.2.2.2.2.1 i) G (rg_runV (As := [.int a1]) (rest := []) hC hT G (c_lb_Jx4a65c_elementData_915e3 l D cy lay Γ h _) (cwV 1 hC.2.2.2.2 gJx4a65c_get_915e3_Jx4a65c_elementData_915e3 rfl rfl rfl hdV_Jx4a65c_elementData_915e3 ⟨Nat.le_of_ble_eq_true rfl, Nat.le_of_ble_eq_true rfl⟩) (rg_recv hT G (by decide) r_lb k_AL) rfl hl.1 rfl (Nat.le_of_ble_eq_true rfl) dJx4a65c_get_915e3_11 ⟨Nat.le_of_ble_eq_true rfl, Nat.le_of_ble_eq_true rfl⟩) (fun j4 σ3 H locs h G => ?_)
  (try dsimp only at h)
  obtain ⟨hj5, h⟩ := h
  exact rg_rret (f := fun i => Γ.2.2.2.2.1 i) hC hr (Or.inl ⟨_, rfl⟩) hlocks G h dJx4a65c_get_915e3_14
abbrev rm_lw_Jx4a65c_get_915e3 : Room := { frames := 2, cells := 0, slots := 0, locals := 43 }
theorem i_lw_Jx4a65c_get_915e3_Jx4a65c : ∀ w ∈ wsJx4a65c0, w ∈ wsJx4a65c_get_915e3 := fun _ h => List.mem_cons_of_mem _ (List.mem_append_right _ h)
def w_lw_Jx4a65c_get_915e3 (Γ : RG) (post : Nat → MS → Prop) (σ : MS) (a1 : Int32) : Prop := w_J15_checkIndex_7cf53 Γ (fun r2 σ1 => w_lw_Jx4a65c_elementData_915e3 Γ (fun j4 σ3 => ((j4 < 14 ∧ j4 < Γ.2.2.1) ∧ post j4 σ3)) σ1 a1) σ a1 (σ 3 2)
set_option maxHeartbeats 4000000 in
set_option maxRecDepth 100000 in
theorem c_lw_Jx4a65c_get_915e3 (l : Launch) (D : va_G) (cy : Nat → ClassId) (lay : Nat → Nat) (Γ : RG) {σ : MS} {post : Nat → MS → Prop} {a1 : Int32} (h : w_lw_Jx4a65c_get_915e3 Γ post σ a1) (sz : Nat) : Met l yJx4a65c_get_915e3 wsJx4a65c_get_915e3 rm_lw_Jx4a65c_get_915e3 (va_Pc [.ref (lay 3), .int a1] (rI D cy lay Γ σ sz)) (rQ post (fun i => lay (33 + i)) D cy lay Γ (rA cy lay Γ sz)) 0 0 (rA cy lay Γ sz) := by
  refine rg_ofW (cc := cJx4a65c_get_915e3) (maxL := 2) (ret := some (.object "java/lang/Object")) (own := RJx4a65c) (Qc := fun sz => rQ post (fun i => lay (33 + i)) D cy lay Γ (rA cy lay Γ sz)) (by decide) rfl (Nat.le_of_ble_eq_true rfl) rfl ?_
  intro p e s m args below meth c ls hC hr hlocks hT G hl
  unfold w_lw_Jx4a65c_get_915e3 at h
  have hl : lv_has ls 2 [(0, .ref (lay 3)), (1, .int a1)] := hl
  refine lv_iload_n hC.1 hC.2.1 dJx4a65c_get_915e3_0 rfl (lv_at hl 1 rfl) ?_
  refine lv_aload_n hC.1 hC.2.1 dJx4a65c_get_915e3_1 rfl (lv_at hl 0 rfl) ?_
  refine rg_get hC hT G (by decide) r_lw k_AL i_lw_Jx4a65c_get_915e3_Jx4a65c 2 (by decide) (wm 1 rfl) rfl dJx4a65c_get_915e3_2 ?_
  refine rg_i G (rg_runS (As := [.int a1, .int (σ 3 2)]) (rest := []) hC hT G (c_J15_checkIndex_7cf53 l D cy lay Γ h _) (va_cwS 2 hC.2.2.2.2 gJx4a65c_get_915e3_J15_checkIndex_7cf53 rfl rfl rfl hdS_J15_checkIndex_7cf53 ⟨Nat.le_of_ble_eq_true rfl, Nat.le_of_ble_eq_true rfl⟩) rfl hl.1 rfl (Nat.le_of_ble_eq_true rfl) dJx4a65c_get_915e3_5 ⟨Nat.le_of_ble_eq_true rfl, Nat.le_of_ble_eq_true rfl⟩) (fun r2 σ1 H locs h G => ?_)
  (try dsimp only at h)
  refine lv_pop hC.1 hC.2.1 dJx4a65c_get_915e3_8 rfl ?_
  refine lv_aload_n hC.1 hC.2.1 dJx4a65c_get_915e3_9 rfl (lv_at hl 0 rfl) ?_
  refine lv_iload_n hC.1 hC.2.1 dJx4a65c_get_915e3_10 rfl (lv_at hl 1 rfl) ?_
  refine rg_r (f := fun i => lay (33 + i)) G (rg_runV (As := [.int a1]) (rest := []) hC hT G (c_lw_Jx4a65c_elementData_915e3 l D cy lay Γ h _) (cwV 1 hC.2.2.2.2 gJx4a65c_get_915e3_Jx4a65c_elementData_915e3 rfl rfl rfl hdV_Jx4a65c_elementData_915e3 ⟨Nat.le_of_ble_eq_true rfl, Nat.le_of_ble_eq_true rfl⟩) (rg_recv hT G (by decide) r_lw k_AL) rfl hl.1 rfl (Nat.le_of_ble_eq_true rfl) dJx4a65c_get_915e3_11 ⟨Nat.le_of_ble_eq_true rfl, Nat.le_of_ble_eq_true rfl⟩) (fun j4 σ3 H locs h G => ?_)
  (try dsimp only at h)
  obtain ⟨hj5, h⟩ := h
  exact rg_rret (f := fun i => lay (33 + i)) hC hr (Or.inl ⟨_, rfl⟩) hlocks G h dJx4a65c_get_915e3_14
abbrev rm_in_J6_intValue_8abf5 : Room := { frames := 0, cells := 0, slots := 0, locals := 0 }
theorem i_in_J6_intValue_8abf5_J6 : ∀ w ∈ wsJ60, w ∈ wsJ6_intValue_8abf5 := fun _ h => List.mem_cons_of_mem _ (List.mem_append_right _ h)
def w_in_J6_intValue_8abf5 (Γ : RG) (post : Int32 → MS → Prop) (σ : MS) (i0 : Nat) : Prop := post (Γ.2.2.2.2.2 i0) σ
set_option maxHeartbeats 4000000 in
set_option maxRecDepth 100000 in
theorem c_in_J6_intValue_8abf5 (l : Launch) (D : va_G) (cy : Nat → ClassId) (lay : Nat → Nat) (Γ : RG) {σ : MS} {post : Int32 → MS → Prop} {i0 : Nat} (h : w_in_J6_intValue_8abf5 Γ post σ i0) (hi0 : i0 < Γ.2.1) (sz : Nat) : Met l yJ6_intValue_8abf5 wsJ6_intValue_8abf5 rm_in_J6_intValue_8abf5 (va_Pc [.ref (Γ.2.2.2.2.1 i0)] (rI D cy lay Γ σ sz)) (va_Qi post (rO D cy lay Γ) (rA cy lay Γ sz)) 0 0 (rA cy lay Γ sz) := by
  refine rg_ofW (cc := cJ6_intValue_8abf5) (maxL := 1) (ret := some .int) (own := RJ6) (Qc := fun sz => va_Qi post (rO D cy lay Γ) (rA cy lay Γ sz)) (by decide) rfl (Nat.le_of_ble_eq_true rfl) rfl ?_
  intro p e s m args below meth c ls hC hr hlocks hT G hl
  unfold w_in_J6_intValue_8abf5 at h
  have hl : lv_has ls 1 [(0, .ref (Γ.2.2.2.2.1 i0))] := hl
  refine lv_aload_n hC.1 hC.2.1 dJ6_intValue_8abf5_0 rfl (lv_at hl 0 rfl) ?_
  refine rg_getI hC hT G hi0 i_in_J6_intValue_8abf5_J6 (wm 1 rfl) dJ6_intValue_8abf5_1 ?_
  exact rg_iret hC hr hlocks G h dJ6_intValue_8abf5_4
theorem hdV_J6_intValue_8abf5 : yJ6_intValue_8abf5.cls = RJ6 ∧ yJ6_intValue_8abf5.cls ≠ "java/lang/invoke/MethodHandle" ∧ yJ6_intValue_8abf5.cls ≠ "java/lang/invoke/VarHandle" ∧ (parseMethodDescriptor yJ6_intValue_8abf5.desc).map (fun d => d.parameters.length) = some 0 := by decide +kernel
abbrev rm_r_J6_bitCount_0f7a4 : Room := { frames := 0, cells := 0, slots := 0, locals := 0 }
def w_r_J6_bitCount_0f7a4 (Γ : RG) (post : Int32 → MS → Prop) (σ : MS) (a0 : Int32) : Prop := (∀ y1 : Int32, y1 = ((Int32.toUInt32 (a0 - ((((Int32.toUInt32 a0) >>> ((Int32.toUInt32 1) &&& Int32.toUInt32 31)).toInt32) &&& 1431655765))) >>> ((Int32.toUInt32 2) &&& Int32.toUInt32 31)).toInt32 → (∀ y2 : Int32, y2 = ((Int32.toUInt32 (((a0 - ((((Int32.toUInt32 a0) >>> ((Int32.toUInt32 1) &&& Int32.toUInt32 31)).toInt32) &&& 1431655765)) &&& 858993459) + (y1 &&& 858993459))) >>> ((Int32.toUInt32 4) &&& Int32.toUInt32 31)).toInt32 → (∀ y3 : Int32, y3 = ((((a0 - ((((Int32.toUInt32 a0) >>> ((Int32.toUInt32 1) &&& Int32.toUInt32 31)).toInt32) &&& 1431655765)) &&& 858993459) + (y1 &&& 858993459)) + y2) &&& 252645135 → (∀ y4 : Int32, y4 = ((Int32.toUInt32 (y3 + (((Int32.toUInt32 y3) >>> ((Int32.toUInt32 8) &&& Int32.toUInt32 31)).toInt32))) >>> ((Int32.toUInt32 16) &&& Int32.toUInt32 31)).toInt32 → post (((y3 + (((Int32.toUInt32 y3) >>> ((Int32.toUInt32 8) &&& Int32.toUInt32 31)).toInt32)) + y4) &&& 63) σ))))
set_option maxHeartbeats 4000000 in
set_option maxRecDepth 100000 in
theorem c_r_J6_bitCount_0f7a4 (l : Launch) (D : va_G) (cy : Nat → ClassId) (lay : Nat → Nat) (Γ : RG) {σ : MS} {post : Int32 → MS → Prop} {a0 : Int32} (h : w_r_J6_bitCount_0f7a4 Γ post σ a0) (sz : Nat) : Met l yJ6_bitCount_0f7a4 wsJ6_bitCount_0f7a4 rm_r_J6_bitCount_0f7a4 (va_Pc [.int a0] (rI D cy lay Γ σ sz)) (va_Qi post (rO D cy lay Γ) (rA cy lay Γ sz)) 0 0 (rA cy lay Γ sz) := by
  refine rg_ofW (cc := cJ6_bitCount_0f7a4) (maxL := 1) (ret := some .int) (own := RJ6) (Qc := fun sz => va_Qi post (rO D cy lay Γ) (rA cy lay Γ sz)) (by decide) rfl (Nat.le_of_ble_eq_true rfl) rfl ?_
  intro p e s m args below meth c ls hC hr hlocks hT G hl
  unfold w_r_J6_bitCount_0f7a4 at h
  have hl : lv_has ls 1 [(0, .int a0)] := hl
  refine lv_iload_n hC.1 hC.2.1 dJ6_bitCount_0f7a4_0 rfl (lv_at hl 0 rfl) ?_
  refine lv_iload_n hC.1 hC.2.1 dJ6_bitCount_0f7a4_1 rfl (lv_at hl 0 rfl) ?_
  refine lv_iconst (v := 1) hC.1 hC.2.1 dJ6_bitCount_0f7a4_2 (by decide) ?_
  refine lv_iushr (v := ((Int32.toUInt32 a0) >>> ((Int32.toUInt32 1) &&& Int32.toUInt32 31)).toInt32) hC.1 hC.2.1 dJ6_bitCount_0f7a4_3 rfl ?_
  refine lv_ldcw (v := 1431655765) hC.1 hC.2.1 hC.2.2.2.1 (hC.2.2.2.2 _ (wm 1 rfl)) dJ6_bitCount_0f7a4_4 ?_
  refine lv_iand hC.1 hC.2.1 dJ6_bitCount_0f7a4_7 ?_
  refine lv_isub hC.1 hC.2.1 dJ6_bitCount_0f7a4_8 ?_
  refine lv_istore_n (lv' := [(0, .int (a0 - ((((Int32.toUInt32 a0) >>> ((Int32.toUInt32 1) &&& Int32.toUInt32 31)).toInt32) &&& 1431655765)))]) hC.1 hC.2.1 dJ6_bitCount_0f7a4_9 rfl hl (by decide) rfl (fun ls hl => ?_)
  refine lv_iload_n hC.1 hC.2.1 dJ6_bitCount_0f7a4_10 rfl (lv_at hl 0 rfl) ?_
  refine lv_ldcw (v := 858993459) hC.1 hC.2.1 hC.2.2.2.1 (hC.2.2.2.2 _ (wm 2 rfl)) dJ6_bitCount_0f7a4_11 ?_
  refine lv_iand hC.1 hC.2.1 dJ6_bitCount_0f7a4_14 ?_
  refine lv_iload_n hC.1 hC.2.1 dJ6_bitCount_0f7a4_15 rfl (lv_at hl 0 rfl) ?_
  refine lv_iconst (v := 2) hC.1 hC.2.1 dJ6_bitCount_0f7a4_16 (by decide) ?_
  refine lv_iushr (v := ((Int32.toUInt32 (a0 - ((((Int32.toUInt32 a0) >>> ((Int32.toUInt32 1) &&& Int32.toUInt32 31)).toInt32) &&& 1431655765))) >>> ((Int32.toUInt32 2) &&& Int32.toUInt32 31)).toInt32) hC.1 hC.2.1 dJ6_bitCount_0f7a4_17 rfl ?_
  refine lv_topi (fun y1 ey1 => ?_)
  replace h := h y1 ey1
  refine lv_ldcw (v := 858993459) hC.1 hC.2.1 hC.2.2.2.1 (hC.2.2.2.2 _ (wm 2 rfl)) dJ6_bitCount_0f7a4_18 ?_
  refine lv_iand hC.1 hC.2.1 dJ6_bitCount_0f7a4_21 ?_
  refine lv_iadd hC.1 hC.2.1 dJ6_bitCount_0f7a4_22 ?_
  refine lv_istore_n (lv' := [(0, .int (((a0 - ((((Int32.toUInt32 a0) >>> ((Int32.toUInt32 1) &&& Int32.toUInt32 31)).toInt32) &&& 1431655765)) &&& 858993459) + (y1 &&& 858993459)))]) hC.1 hC.2.1 dJ6_bitCount_0f7a4_23 rfl hl (by decide) rfl (fun ls hl => ?_)
  refine lv_iload_n hC.1 hC.2.1 dJ6_bitCount_0f7a4_24 rfl (lv_at hl 0 rfl) ?_
  refine lv_iload_n hC.1 hC.2.1 dJ6_bitCount_0f7a4_25 rfl (lv_at hl 0 rfl) ?_
  refine lv_iconst (v := 4) hC.1 hC.2.1 dJ6_bitCount_0f7a4_26 (by decide) ?_
  refine lv_iushr (v := ((Int32.toUInt32 (((a0 - ((((Int32.toUInt32 a0) >>> ((Int32.toUInt32 1) &&& Int32.toUInt32 31)).toInt32) &&& 1431655765)) &&& 858993459) + (y1 &&& 858993459))) >>> ((Int32.toUInt32 4) &&& Int32.toUInt32 31)).toInt32) hC.1 hC.2.1 dJ6_bitCount_0f7a4_27 rfl ?_
  refine lv_topi (fun y2 ey2 => ?_)
  replace h := h y2 ey2
  refine lv_iadd hC.1 hC.2.1 dJ6_bitCount_0f7a4_28 ?_
  refine lv_ldcw (v := 252645135) hC.1 hC.2.1 hC.2.2.2.1 (hC.2.2.2.2 _ (wm 3 rfl)) dJ6_bitCount_0f7a4_29 ?_
  refine lv_iand hC.1 hC.2.1 dJ6_bitCount_0f7a4_32 ?_
  refine lv_topi (fun y3 ey3 => ?_)
  replace h := h y3 ey3
  refine lv_istore_n (lv' := [(0, .int y3)]) hC.1 hC.2.1 dJ6_bitCount_0f7a4_33 rfl hl (by decide) rfl (fun ls hl => ?_)
  refine lv_iload_n hC.1 hC.2.1 dJ6_bitCount_0f7a4_34 rfl (lv_at hl 0 rfl) ?_
  refine lv_iload_n hC.1 hC.2.1 dJ6_bitCount_0f7a4_35 rfl (lv_at hl 0 rfl) ?_
  refine lv_bipush (v := 8) hC.1 hC.2.1 dJ6_bitCount_0f7a4_36 (by decide) ?_
  refine lv_iushr (v := ((Int32.toUInt32 y3) >>> ((Int32.toUInt32 8) &&& Int32.toUInt32 31)).toInt32) hC.1 hC.2.1 dJ6_bitCount_0f7a4_38 rfl ?_
  refine lv_iadd hC.1 hC.2.1 dJ6_bitCount_0f7a4_39 ?_
  refine lv_istore_n (lv' := [(0, .int (y3 + (((Int32.toUInt32 y3) >>> ((Int32.toUInt32 8) &&& Int32.toUInt32 31)).toInt32)))]) hC.1 hC.2.1 dJ6_bitCount_0f7a4_40 rfl hl (by decide) rfl (fun ls hl => ?_)
  refine lv_iload_n hC.1 hC.2.1 dJ6_bitCount_0f7a4_41 rfl (lv_at hl 0 rfl) ?_
  refine lv_iload_n hC.1 hC.2.1 dJ6_bitCount_0f7a4_42 rfl (lv_at hl 0 rfl) ?_
  refine lv_bipush (v := 16) hC.1 hC.2.1 dJ6_bitCount_0f7a4_43 (by decide) ?_
  refine lv_iushr (v := ((Int32.toUInt32 (y3 + (((Int32.toUInt32 y3) >>> ((Int32.toUInt32 8) &&& Int32.toUInt32 31)).toInt32))) >>> ((Int32.toUInt32 16) &&& Int32.toUInt32 31)).toInt32) hC.1 hC.2.1 dJ6_bitCount_0f7a4_45 rfl ?_
  refine lv_topi (fun y4 ey4 => ?_)
  replace h := h y4 ey4
  refine lv_iadd hC.1 hC.2.1 dJ6_bitCount_0f7a4_46 ?_
  refine lv_istore_n (lv' := [(0, .int ((y3 + (((Int32.toUInt32 y3) >>> ((Int32.toUInt32 8) &&& Int32.toUInt32 31)).toInt32)) + y4))]) hC.1 hC.2.1 dJ6_bitCount_0f7a4_47 rfl hl (by decide) rfl (fun ls hl => ?_)
  refine lv_iload_n hC.1 hC.2.1 dJ6_bitCount_0f7a4_48 rfl (lv_at hl 0 rfl) ?_
  refine lv_bipush (v := 63) hC.1 hC.2.1 dJ6_bitCount_0f7a4_49 (by decide) ?_
  refine lv_iand hC.1 hC.2.1 dJ6_bitCount_0f7a4_51 ?_
  exact rg_iret hC hr hlocks G h dJ6_bitCount_0f7a4_52
abbrev rm_X11_is : Room := { frames := 0, cells := 0, slots := 0, locals := 0 }
def w_X11_is (Γ : RG) (post : Int32 → MS → Prop) (σ : MS) (a0 : Int32) (a1 : Int32) (a2 : Int32) : Prop := ((a0 < a1 → post 0 σ) ∧ (¬ a0 < a1 → ((a2 < a0 → post 0 σ) ∧ (¬ a2 < a0 → post 1 σ))))
set_option maxHeartbeats 4000000 in
set_option maxRecDepth 100000 in
theorem c_X11_is (l : Launch) (D : va_G) (cy : Nat → ClassId) (lay : Nat → Nat) (Γ : RG) {σ : MS} {post : Int32 → MS → Prop} {a0 : Int32} {a1 : Int32} {a2 : Int32} (h : w_X11_is Γ post σ a0 a1 a2) (sz : Nat) : Met l yX11_is wsX11_is rm_X11_is (va_Pc [.int a0, .int a1, .int a2] (rI D cy lay Γ σ sz)) (va_Qi post (rO D cy lay Γ) (rA cy lay Γ sz)) 0 0 (rA cy lay Γ sz) := by
  refine rg_ofW (cc := cX11_is) (maxL := 3) (ret := some .boolean) (own := RX11) (Qc := fun sz => va_Qi post (rO D cy lay Γ) (rA cy lay Γ sz)) (by decide) rfl (Nat.le_of_ble_eq_true rfl) rfl ?_
  intro p e s m args below meth c ls hC hr hlocks hT G hl
  unfold w_X11_is at h
  have hl : lv_has ls 3 [(0, .int a0), (1, .int a1), (2, .int a2)] := hl
  refine lv_iload_n hC.1 hC.2.1 dX11_is_0 rfl (lv_at hl 0 rfl) ?_
  refine lv_iload_n hC.1 hC.2.1 dX11_is_1 rfl (lv_at hl 1 rfl) ?_
  refine lv_icmp_lt (tgt := 14) hC.1 hC.2.1 dX11_is_2 (by decide) (fun c1 => ?_) (fun c1 => ?_)
  · replace h := h.1 c1
    refine lv_iconst (v := 0) hC.1 hC.2.1 dX11_is_14 (by decide) ?_
    exact rg_zret hC hr hlocks G rfl h dX11_is_15
  · replace h := h.2 c1
    refine lv_iload_n hC.1 hC.2.1 dX11_is_5 rfl (lv_at hl 0 rfl) ?_
    refine lv_iload_n hC.1 hC.2.1 dX11_is_6 rfl (lv_at hl 2 rfl) ?_
    refine lv_icmp_gt (tgt := 14) hC.1 hC.2.1 dX11_is_7 (by decide) (fun c2 => ?_) (fun c2 => ?_)
    · replace h := h.1 c2
      refine lv_iconst (v := 0) hC.1 hC.2.1 dX11_is_14 (by decide) ?_
      exact rg_zret hC hr hlocks G rfl h dX11_is_15
    · replace h := h.2 c2
      refine lv_iconst (v := 1) hC.1 hC.2.1 dX11_is_10 (by decide) ?_
      refine lv_goto (tgt := 15) hC.1 hC.2.1 dX11_is_11 (by decide) ?_
      exact rg_zret hC hr hlocks G rfl h dX11_is_15
theorem hdS_X11_is : yX11_is.cls ≠ "java/lang/invoke/MethodHandle" ∧ yX11_is.cls ≠ "java/lang/invoke/VarHandle" ∧ (parseMethodDescriptor yX11_is.desc).map (fun d => d.parameters.length) = some 3 := by decide +kernel
abbrev rm_X11_isIn : Room := { frames := 0, cells := 0, slots := 0, locals := 0 }
def w_X11_isIn (Γ : RG) (post : Int32 → MS → Prop) (σ : MS) (a0 : Int32) (a1 : Int32) : Prop := ((((a0 >>> (a1 &&& 31)) &&& 1) = 1 → post 1 σ) ∧ (¬ ((a0 >>> (a1 &&& 31)) &&& 1) = 1 → post 0 σ))
set_option maxHeartbeats 4000000 in
set_option maxRecDepth 100000 in
theorem c_X11_isIn (l : Launch) (D : va_G) (cy : Nat → ClassId) (lay : Nat → Nat) (Γ : RG) {σ : MS} {post : Int32 → MS → Prop} {a0 : Int32} {a1 : Int32} (h : w_X11_isIn Γ post σ a0 a1) (sz : Nat) : Met l yX11_isIn wsX11_isIn rm_X11_isIn (va_Pc [.int a0, .int a1] (rI D cy lay Γ σ sz)) (va_Qi post (rO D cy lay Γ) (rA cy lay Γ sz)) 0 0 (rA cy lay Γ sz) := by
  refine rg_ofW (cc := cX11_isIn) (maxL := 2) (ret := some .boolean) (own := RX11) (Qc := fun sz => va_Qi post (rO D cy lay Γ) (rA cy lay Γ sz)) (by decide) rfl (Nat.le_of_ble_eq_true rfl) rfl ?_
  intro p e s m args below meth c ls hC hr hlocks hT G hl
  unfold w_X11_isIn at h
  have hl : lv_has ls 2 [(0, .int a0), (1, .int a1)] := hl
  refine lv_iload_n hC.1 hC.2.1 dX11_isIn_0 rfl (lv_at hl 0 rfl) ?_
  refine lv_iload_n hC.1 hC.2.1 dX11_isIn_1 rfl (lv_at hl 1 rfl) ?_
  refine lv_ishr hC.1 hC.2.1 dX11_isIn_2 ?_
  refine lv_iconst (v := 1) hC.1 hC.2.1 dX11_isIn_3 (by decide) ?_
  refine lv_iand hC.1 hC.2.1 dX11_isIn_4 ?_
  refine lv_iconst (v := 1) hC.1 hC.2.1 dX11_isIn_5 (by decide) ?_
  refine lv_icmp_ne (tgt := 13) hC.1 hC.2.1 dX11_isIn_6 (by decide) (fun c1 => ?_) (fun c1 => ?_)
  · replace h := h.2 c1
    refine lv_iconst (v := 0) hC.1 hC.2.1 dX11_isIn_13 (by decide) ?_
    exact rg_zret hC hr hlocks G rfl h dX11_isIn_14
  · replace h := h.1 c1
    refine lv_iconst (v := 1) hC.1 hC.2.1 dX11_isIn_9 (by decide) ?_
    refine lv_goto (tgt := 14) hC.1 hC.2.1 dX11_isIn_10 (by decide) ?_
    exact rg_zret hC hr hlocks G rfl h dX11_isIn_14
theorem hdS_X11_isIn : yX11_isIn.cls ≠ "java/lang/invoke/MethodHandle" ∧ yX11_isIn.cls ≠ "java/lang/invoke/VarHandle" ∧ (parseMethodDescriptor yX11_isIn.desc).map (fun d => d.parameters.length) = some 2 := by decide +kernel
abbrev rm_X11_isTown : Room := { frames := 1, cells := 0, slots := 0, locals := 22 }
def w_X11_isTown (Γ : RG) (post : Int32 → MS → Prop) (σ : MS) (a0 : Int32) : Prop := w_X11_is Γ (fun r2 σ1 => (narrow .boolean (.int r2) = .int r2 ∧ post r2 σ1)) σ a0 0 5
set_option maxHeartbeats 4000000 in
set_option maxRecDepth 100000 in
theorem c_X11_isTown (l : Launch) (D : va_G) (cy : Nat → ClassId) (lay : Nat → Nat) (Γ : RG) {σ : MS} {post : Int32 → MS → Prop} {a0 : Int32} (h : w_X11_isTown Γ post σ a0) (sz : Nat) : Met l yX11_isTown wsX11_isTown rm_X11_isTown (va_Pc [.int a0] (rI D cy lay Γ σ sz)) (va_Qi post (rO D cy lay Γ) (rA cy lay Γ sz)) 0 0 (rA cy lay Γ sz) := by
  refine rg_ofW (cc := cX11_isTown) (maxL := 1) (ret := some .boolean) (own := RX11) (Qc := fun sz => va_Qi post (rO D cy lay Γ) (rA cy lay Γ sz)) (by decide) rfl (Nat.le_of_ble_eq_true rfl) rfl ?_
  intro p e s m args below meth c ls hC hr hlocks hT G hl
  unfold w_X11_isTown at h
  have hl : lv_has ls 1 [(0, .int a0)] := hl
  refine lv_iload_n hC.1 hC.2.1 dX11_isTown_0 rfl (lv_at hl 0 rfl) ?_
  refine lv_iconst (v := 0) hC.1 hC.2.1 dX11_isTown_1 (by decide) ?_
  refine lv_iconst (v := 5) hC.1 hC.2.1 dX11_isTown_2 (by decide) ?_
  refine rg_i G (rg_runS (As := [.int a0, .int 0, .int 5]) (rest := []) hC hT G (c_X11_is l D cy lay Γ h _) (va_cwS 3 hC.2.2.2.2 gX11_isTown_X11_is rfl rfl rfl hdS_X11_is ⟨Nat.le_of_ble_eq_true rfl, Nat.le_of_ble_eq_true rfl⟩) rfl hl.1 rfl (Nat.le_of_ble_eq_true rfl) dX11_isTown_3 ⟨Nat.le_of_ble_eq_true rfl, Nat.le_of_ble_eq_true rfl⟩) (fun r2 σ1 H locs h G => ?_)
  (try dsimp only at h)
  exact rg_zret hC hr hlocks G h.1 h.2 dX11_isTown_6
theorem hdS_X11_isTown : yX11_isTown.cls ≠ "java/lang/invoke/MethodHandle" ∧ yX11_isTown.cls ≠ "java/lang/invoke/VarHandle" ∧ (parseMethodDescriptor yX11_isTown.desc).map (fun d => d.parameters.length) = some 1 := by decide +kernel
abbrev rm_X11_needed : Room := { frames := 0, cells := 0, slots := 0, locals := 0 }
def u_X11_needed_4 (Γ : RG) (post : Int32 → MS → Prop) (a0 : Int32) (a1 : Int32) : Nat → MS → Int32 → Int32 → Prop
  | 0, _, _, _ => False
  | n + 1, σ, v2, v3 => ((a1 ≤ v3 → post (v2 - v2 / 3 * 3) σ) ∧ (¬ a1 ≤ v3 → u_X11_needed_4 Γ post a0 a1 n σ (v2 / 3) (v3 + 1)))
set_option maxHeartbeats 4000000 in
set_option maxRecDepth 100000 in
theorem l_X11_needed_4 {p : Program} {l : Launch} {e : Env} {s : State} {m : MethodId} {args : Array Value} {below : List Frame} {meth : Method} {c : Code} {D : va_G} {cy : Nat → ClassId} {lay : Nat → Nat} {Γ : RG} {post : Int32 → MS → Prop} (a0 : Int32) (a1 : Int32) (hC : CallFix p m c cX11_needed 4 s args wsX11_needed RX11) (hr : meth.sig.returnType = some .int) (hlocks : meth.locks = false) (hT : rT D cy lay Γ s) : ∀ (n : Nat), ∀ (σ : MS) (v2 : Int32) (v3 : Int32), u_X11_needed_4 Γ post a0 a1 n σ v2 v3 → ∀ (H : Heap) (locs : List Loc) (ls : Array Slot), rG D cy lay Γ tn σ (rA cy lay Γ s.heap.size) s.heap H locs → lv_has ls 4 [(0, .int a0), (1, .int a1), (2, .int v2), (3, .int v3)] → W p l e rm_X11_needed s m args below meth c H locs 0 0 (MQ below (va_Qi post (rO D cy lay Γ) (rA cy lay Γ s.heap.size)) args s 0 0 (rA cy lay Γ s.heap.size)) (F0 m 4 ls []) := by
  intro n
  induction n with
  | zero =>
    intro σ v2 v3 h
    exact h.elim
  | succ n ih =>
    intro σ v2 v3 h H locs ls G hl
    rw [u_X11_needed_4] at h
    refine lv_iload_n hC.1 hC.2.1 dX11_needed_4 rfl (lv_at hl 3 rfl) ?_
    refine lv_iload_n hC.1 hC.2.1 dX11_needed_5 rfl (lv_at hl 1 rfl) ?_
    refine lv_icmp_ge (tgt := 19) hC.1 hC.2.1 dX11_needed_6 (by decide) (fun c1 => ?_) (fun c1 => ?_)
    · replace h := h.1 c1
      refine lv_iload_n hC.1 hC.2.1 dX11_needed_19 rfl (lv_at hl 2 rfl) ?_
      refine lv_iconst (v := 3) hC.1 hC.2.1 dX11_needed_20 (by decide) ?_
      refine lv_irem hC.1 hC.2.1 dX11_needed_21 (by decide) ?_
      exact rg_iret hC hr hlocks G h dX11_needed_22
    · replace h := h.2 c1
      refine lv_iload_n hC.1 hC.2.1 dX11_needed_9 rfl (lv_at hl 2 rfl) ?_
      refine lv_iconst (v := 3) hC.1 hC.2.1 dX11_needed_10 (by decide) ?_
      refine lv_idiv hC.1 hC.2.1 dX11_needed_11 (by decide) ?_
      refine lv_istore_n (lv' := [(2, .int (v2 / 3)), (0, .int a0), (1, .int a1), (3, .int v3)]) hC.1 hC.2.1 dX11_needed_12 rfl hl (by decide) rfl (fun ls hl => ?_)
      refine lv_iinc (v := v3 + 1) (lv' := [(3, .int (v3 + 1)), (2, .int (v2 / 3)), (0, .int a0), (1, .int a1)]) hC.1 hC.2.1 dX11_needed_13 hl (k := 3) rfl rfl (by decide) rfl (fun ls hl => ?_)
      refine lv_goto (tgt := 4) hC.1 hC.2.1 dX11_needed_16 (by decide) ?_
      exact ih _ _ _ h _ _ _ G (lv_sub hl [2, 3, 1, 0] rfl)
def w_X11_needed (Γ : RG) (post : Int32 → MS → Prop) (σ : MS) (a0 : Int32) (a1 : Int32) : Prop := (∃ k, u_X11_needed_4 Γ post a0 a1 k σ a0 0)
set_option maxHeartbeats 4000000 in
set_option maxRecDepth 100000 in
theorem c_X11_needed (l : Launch) (D : va_G) (cy : Nat → ClassId) (lay : Nat → Nat) (Γ : RG) {σ : MS} {post : Int32 → MS → Prop} {a0 : Int32} {a1 : Int32} (h : w_X11_needed Γ post σ a0 a1) (sz : Nat) : Met l yX11_needed wsX11_needed rm_X11_needed (va_Pc [.int a0, .int a1] (rI D cy lay Γ σ sz)) (va_Qi post (rO D cy lay Γ) (rA cy lay Γ sz)) 0 0 (rA cy lay Γ sz) := by
  refine rg_ofW (cc := cX11_needed) (maxL := 4) (ret := some .int) (own := RX11) (Qc := fun sz => va_Qi post (rO D cy lay Γ) (rA cy lay Γ sz)) (by decide) rfl (Nat.le_of_ble_eq_true rfl) rfl ?_
  intro p e s m args below meth c ls hC hr hlocks hT G hl
  unfold w_X11_needed at h
  have hl : lv_has ls 4 [(0, .int a0), (1, .int a1)] := hl
  refine lv_iload_n hC.1 hC.2.1 dX11_needed_0 rfl (lv_at hl 0 rfl) ?_
  refine lv_istore_n (lv' := [(2, .int a0), (0, .int a0), (1, .int a1)]) hC.1 hC.2.1 dX11_needed_1 rfl hl (by decide) rfl (fun ls hl => ?_)
  refine lv_iconst (v := 0) hC.1 hC.2.1 dX11_needed_2 (by decide) ?_
  refine lv_istore_n (lv' := [(3, .int 0), (2, .int a0), (0, .int a0), (1, .int a1)]) hC.1 hC.2.1 dX11_needed_3 rfl hl (by decide) rfl (fun ls hl => ?_)
  obtain ⟨n1, h⟩ := h
  exact l_X11_needed_4 a0 a1 hC hr hlocks hT n1 _ _ _ h _ _ _ G (lv_sub hl [2, 3, 1, 0] rfl)
theorem hdS_X11_needed : yX11_needed.cls ≠ "java/lang/invoke/MethodHandle" ∧ yX11_needed.cls ≠ "java/lang/invoke/VarHandle" ∧ (parseMethodDescriptor yX11_needed.desc).map (fun d => d.parameters.length) = some 2 := by decide +kernel
abbrev rm_X11_needed_ : Room := { frames := 1, cells := 0, slots := 0, locals := 23 }
def u_X11_needed__4 (Γ : RG) (post : Int32 → MS → Prop) (a0 : Int32) : Nat → MS → Int32 → Int32 → Prop
  | 0, _, _, _ => False
  | n + 1, σ, v1, v2 => ((6 ≤ v2 → post v1 σ) ∧ (¬ 6 ≤ v2 → w_X11_needed Γ (fun r3 σ2 => u_X11_needed__4 Γ post a0 n σ2 (v1 + r3) (v2 + 1)) σ a0 v2))
set_option maxHeartbeats 4000000 in
set_option maxRecDepth 100000 in
theorem l_X11_needed__4 {p : Program} {l : Launch} {e : Env} {s : State} {m : MethodId} {args : Array Value} {below : List Frame} {meth : Method} {c : Code} {D : va_G} {cy : Nat → ClassId} {lay : Nat → Nat} {Γ : RG} {post : Int32 → MS → Prop} (a0 : Int32) (hC : CallFix p m c cX11_needed_ 3 s args wsX11_needed_ RX11) (hr : meth.sig.returnType = some .int) (hlocks : meth.locks = false) (hT : rT D cy lay Γ s) : ∀ (n : Nat), ∀ (σ : MS) (v1 : Int32) (v2 : Int32), u_X11_needed__4 Γ post a0 n σ v1 v2 → ∀ (H : Heap) (locs : List Loc) (ls : Array Slot), rG D cy lay Γ tn σ (rA cy lay Γ s.heap.size) s.heap H locs → lv_has ls 3 [(0, .int a0), (1, .int v1), (2, .int v2)] → W p l e rm_X11_needed_ s m args below meth c H locs 0 0 (MQ below (va_Qi post (rO D cy lay Γ) (rA cy lay Γ s.heap.size)) args s 0 0 (rA cy lay Γ s.heap.size)) (F0 m 4 ls []) := by
  intro n
  induction n with
  | zero =>
    intro σ v1 v2 h
    exact h.elim
  | succ n ih =>
    intro σ v1 v2 h H locs ls G hl
    rw [u_X11_needed__4] at h
    refine lv_iload_n hC.1 hC.2.1 dX11_needed__4 rfl (lv_at hl 2 rfl) ?_
    refine lv_bipush (v := 6) hC.1 hC.2.1 dX11_needed__5 (by decide) ?_
    refine lv_icmp_ge (tgt := 24) hC.1 hC.2.1 dX11_needed__7 (by decide) (fun c1 => ?_) (fun c1 => ?_)
    · replace h := h.1 c1
      refine lv_iload_n hC.1 hC.2.1 dX11_needed__24 rfl (lv_at hl 1 rfl) ?_
      exact rg_iret hC hr hlocks G h dX11_needed__25
    · replace h := h.2 c1
      refine lv_iload_n hC.1 hC.2.1 dX11_needed__10 rfl (lv_at hl 1 rfl) ?_
      refine lv_iload_n hC.1 hC.2.1 dX11_needed__11 rfl (lv_at hl 0 rfl) ?_
      refine lv_iload_n hC.1 hC.2.1 dX11_needed__12 rfl (lv_at hl 2 rfl) ?_
      refine rg_i G (rg_runS (As := [.int a0, .int v2]) (rest := [.int v1]) hC hT G (c_X11_needed l D cy lay Γ h _) (va_cwS 2 hC.2.2.2.2 gX11_needed__X11_needed rfl rfl rfl hdS_X11_needed ⟨Nat.le_of_ble_eq_true rfl, Nat.le_of_ble_eq_true rfl⟩) rfl hl.1 rfl (Nat.le_of_ble_eq_true rfl) dX11_needed__13 ⟨Nat.le_of_ble_eq_true rfl, Nat.le_of_ble_eq_true rfl⟩) (fun r3 σ2 H locs h G => ?_)
      (try dsimp only at h)
      refine lv_iadd hC.1 hC.2.1 dX11_needed__16 ?_
      refine lv_istore_n (lv' := [(1, .int (v1 + r3)), (0, .int a0), (2, .int v2)]) hC.1 hC.2.1 dX11_needed__17 rfl hl (by decide) rfl (fun ls hl => ?_)
      refine lv_iinc (v := v2 + 1) (lv' := [(2, .int (v2 + 1)), (1, .int (v1 + r3)), (0, .int a0)]) hC.1 hC.2.1 dX11_needed__18 hl (k := 2) rfl rfl (by decide) rfl (fun ls hl => ?_)
      refine lv_goto (tgt := 4) hC.1 hC.2.1 dX11_needed__21 (by decide) ?_
      exact ih _ _ _ h _ _ _ G (lv_sub hl [2, 1, 0] rfl)
def w_X11_needed_ (Γ : RG) (post : Int32 → MS → Prop) (σ : MS) (a0 : Int32) : Prop := (∃ k, u_X11_needed__4 Γ post a0 k σ 0 0)
set_option maxHeartbeats 4000000 in
set_option maxRecDepth 100000 in
theorem c_X11_needed_ (l : Launch) (D : va_G) (cy : Nat → ClassId) (lay : Nat → Nat) (Γ : RG) {σ : MS} {post : Int32 → MS → Prop} {a0 : Int32} (h : w_X11_needed_ Γ post σ a0) (sz : Nat) : Met l yX11_needed_ wsX11_needed_ rm_X11_needed_ (va_Pc [.int a0] (rI D cy lay Γ σ sz)) (va_Qi post (rO D cy lay Γ) (rA cy lay Γ sz)) 0 0 (rA cy lay Γ sz) := by
  refine rg_ofW (cc := cX11_needed_) (maxL := 3) (ret := some .int) (own := RX11) (Qc := fun sz => va_Qi post (rO D cy lay Γ) (rA cy lay Γ sz)) (by decide) rfl (Nat.le_of_ble_eq_true rfl) rfl ?_
  intro p e s m args below meth c ls hC hr hlocks hT G hl
  unfold w_X11_needed_ at h
  have hl : lv_has ls 3 [(0, .int a0)] := hl
  refine lv_iconst (v := 0) hC.1 hC.2.1 dX11_needed__0 (by decide) ?_
  refine lv_istore_n (lv' := [(1, .int 0), (0, .int a0)]) hC.1 hC.2.1 dX11_needed__1 rfl hl (by decide) rfl (fun ls hl => ?_)
  refine lv_iconst (v := 0) hC.1 hC.2.1 dX11_needed__2 (by decide) ?_
  refine lv_istore_n (lv' := [(2, .int 0), (1, .int 0), (0, .int a0)]) hC.1 hC.2.1 dX11_needed__3 rfl hl (by decide) rfl (fun ls hl => ?_)
  obtain ⟨n1, h⟩ := h
  exact l_X11_needed__4 a0 hC hr hlocks hT n1 _ _ _ h _ _ _ G (lv_sub hl [2, 1, 0] rfl)
theorem hdS_X11_needed_ : yX11_needed_.cls ≠ "java/lang/invoke/MethodHandle" ∧ yX11_needed_.cls ≠ "java/lang/invoke/VarHandle" ∧ (parseMethodDescriptor yX11_needed_.desc).map (fun d => d.parameters.length) = some 1 := by decide +kernel
abbrev rm_X11_priceOf : Room := { frames := 0, cells := 0, slots := 0, locals := 0 }
def w_X11_priceOf (Γ : RG) (post : Int32 → MS → Prop) (σ : MS) (a0 : Int32) : Prop := post (((a0 * 6) / 5) + 50) σ
set_option maxHeartbeats 4000000 in
set_option maxRecDepth 100000 in
theorem c_X11_priceOf (l : Launch) (D : va_G) (cy : Nat → ClassId) (lay : Nat → Nat) (Γ : RG) {σ : MS} {post : Int32 → MS → Prop} {a0 : Int32} (h : w_X11_priceOf Γ post σ a0) (sz : Nat) : Met l yX11_priceOf wsX11_priceOf rm_X11_priceOf (va_Pc [.int a0] (rI D cy lay Γ σ sz)) (va_Qi post (rO D cy lay Γ) (rA cy lay Γ sz)) 0 0 (rA cy lay Γ sz) := by
  refine rg_ofW (cc := cX11_priceOf) (maxL := 1) (ret := some .int) (own := RX11) (Qc := fun sz => va_Qi post (rO D cy lay Γ) (rA cy lay Γ sz)) (by decide) rfl (Nat.le_of_ble_eq_true rfl) rfl ?_
  intro p e s m args below meth c ls hC hr hlocks hT G hl
  unfold w_X11_priceOf at h
  have hl : lv_has ls 1 [(0, .int a0)] := hl
  refine lv_iload_n hC.1 hC.2.1 dX11_priceOf_0 rfl (lv_at hl 0 rfl) ?_
  refine lv_bipush (v := 6) hC.1 hC.2.1 dX11_priceOf_1 (by decide) ?_
  refine lv_imul hC.1 hC.2.1 dX11_priceOf_3 ?_
  refine lv_iconst (v := 5) hC.1 hC.2.1 dX11_priceOf_4 (by decide) ?_
  refine lv_idiv hC.1 hC.2.1 dX11_priceOf_5 (by decide) ?_
  refine lv_bipush (v := 50) hC.1 hC.2.1 dX11_priceOf_6 (by decide) ?_
  refine lv_iadd hC.1 hC.2.1 dX11_priceOf_8 ?_
  exact rg_iret hC hr hlocks G h dX11_priceOf_9
theorem hdS_X11_priceOf : yX11_priceOf.cls ≠ "java/lang/invoke/MethodHandle" ∧ yX11_priceOf.cls ≠ "java/lang/invoke/VarHandle" ∧ (parseMethodDescriptor yX11_priceOf.desc).map (fun d => d.parameters.length) = some 1 := by decide +kernel
abbrev rm_X10_quarters : Room := { frames := 1, cells := 0, slots := 0, locals := 13 }
theorem i_X10_quarters_X10 : ∀ w ∈ wsX100, w ∈ wsX10_quarters := fun _ h => List.mem_cons_of_mem _ (List.mem_append_right _ h)
def w_X10_quarters (Γ : RG) (post : Int32 → MS → Prop) (σ : MS) (i0 : Nat) : Prop := (∀ y1 : Int32, y1 = (if (60 * ((24 - (σ (33 + i0) 3)) - (σ (33 + i0) 4))) < (σ (33 + i0) 10) then (60 * ((24 - (σ (33 + i0) 3)) - (σ (33 + i0) 4))) else (σ (33 + i0) 10)) + 14 → post (y1 / 15) σ)
set_option maxHeartbeats 4000000 in
set_option maxRecDepth 100000 in
theorem c_X10_quarters (l : Launch) (D : va_G) (cy : Nat → ClassId) (lay : Nat → Nat) (Γ : RG) {σ : MS} {post : Int32 → MS → Prop} {i0 : Nat} (h : w_X10_quarters Γ post σ i0) (hi0 : i0 < 14 ∧ i0 < Γ.2.2.1) (sz : Nat) : Met l yX10_quarters wsX10_quarters rm_X10_quarters (va_Pc [.ref (lay (33 + i0))] (rI D cy lay Γ σ sz)) (va_Qi post (rO D cy lay Γ) (rA cy lay Γ sz)) 0 0 (rA cy lay Γ sz) := by
  refine rg_ofW (cc := cX10_quarters) (maxL := 1) (ret := some .int) (own := RX10) (Qc := fun sz => va_Qi post (rO D cy lay Γ) (rA cy lay Γ sz)) (by decide) rfl (Nat.le_of_ble_eq_true rfl) rfl ?_
  intro p e s m args below meth c ls hC hr hlocks hT G hl
  unfold w_X10_quarters at h
  have hl : lv_has ls 1 [(0, .ref (lay (33 + i0)))] := hl
  refine lv_aload_n hC.1 hC.2.1 dX10_quarters_0 rfl (lv_at hl 0 rfl) ?_
  refine rg_get hC hT G (rk_wd hi0) (r_wd hi0) k_X10 i_X10_quarters_X10 10 (by decide) (wm 1 rfl) rfl dX10_quarters_1 ?_
  refine lv_bipush (v := 60) hC.1 hC.2.1 dX10_quarters_4 (by decide) ?_
  refine lv_bipush (v := 24) hC.1 hC.2.1 dX10_quarters_6 (by decide) ?_
  refine lv_aload_n hC.1 hC.2.1 dX10_quarters_8 rfl (lv_at hl 0 rfl) ?_
  refine rg_get hC hT G (rk_wd hi0) (r_wd hi0) k_X10 i_X10_quarters_X10 3 (by decide) (wm 2 rfl) rfl dX10_quarters_9 ?_
  refine lv_isub hC.1 hC.2.1 dX10_quarters_12 ?_
  refine lv_aload_n hC.1 hC.2.1 dX10_quarters_13 rfl (lv_at hl 0 rfl) ?_
  refine rg_get hC hT G (rk_wd hi0) (r_wd hi0) k_X10 i_X10_quarters_X10 4 (by decide) (wm 3 rfl) rfl dX10_quarters_14 ?_
  refine lv_isub hC.1 hC.2.1 dX10_quarters_17 ?_
  refine lv_imul hC.1 hC.2.1 dX10_quarters_18 ?_
  refine va_mmin hC.1 hC.2.1 (hC.2.2.1.trans hl.1.symm) hC.2.2.2.1 (hC.2.2.2.2 _ (wm 4 rfl)) (hC.2.2.2.2 _ (wm 5 rfl)) (hC.2.2.2.2 _ (wm 6 rfl)) (hC.2.2.2.2 _ (wm 7 rfl)) (Nat.le_of_ble_eq_true rfl) (Nat.le_of_ble_eq_true rfl) (Nat.le_of_ble_eq_true rfl) (Nat.le_of_ble_eq_true rfl) dX10_quarters_19 ?_
  refine lv_bipush (v := 14) hC.1 hC.2.1 dX10_quarters_22 (by decide) ?_
  refine lv_iadd hC.1 hC.2.1 dX10_quarters_24 ?_
  refine lv_topi (fun y1 ey1 => ?_)
  replace h := h y1 ey1
  refine lv_bipush (v := 15) hC.1 hC.2.1 dX10_quarters_25 (by decide) ?_
  refine lv_idiv hC.1 hC.2.1 dX10_quarters_27 (by decide) ?_
  exact rg_iret hC hr hlocks G h dX10_quarters_28
theorem hdV_X10_quarters : yX10_quarters.cls = RX10 ∧ yX10_quarters.cls ≠ "java/lang/invoke/MethodHandle" ∧ yX10_quarters.cls ≠ "java/lang/invoke/VarHandle" ∧ (parseMethodDescriptor yX10_quarters.desc).map (fun d => d.parameters.length) = some 0 := by decide +kernel
abbrev rm_X11_refuse : Room := { frames := 0, cells := 0, slots := 0, locals := 0 }
theorem i_X11_refuse_X11 : ∀ w ∈ wsX110, w ∈ wsX11_refuse := fun _ h => List.mem_cons_of_mem _ (List.mem_append_right _ h)
def w_X11_refuse (Γ : RG) (post : Int32 → MS → Prop) (σ : MS) (a1 : Int32) : Prop := post 0 (up2 σ 0 0 a1)
set_option maxHeartbeats 4000000 in
set_option maxRecDepth 100000 in
theorem c_X11_refuse (l : Launch) (D : va_G) (cy : Nat → ClassId) (lay : Nat → Nat) (Γ : RG) {σ : MS} {post : Int32 → MS → Prop} {a1 : Int32} (h : w_X11_refuse Γ post σ a1) (sz : Nat) : Met l yX11_refuse wsX11_refuse rm_X11_refuse (va_Pc [.ref (lay 0), .int a1] (rI D cy lay Γ σ sz)) (va_Qi post (rO D cy lay Γ) (rA cy lay Γ sz)) 0 0 (rA cy lay Γ sz) := by
  refine rg_ofW (cc := cX11_refuse) (maxL := 2) (ret := some .int) (own := RX11) (Qc := fun sz => va_Qi post (rO D cy lay Γ) (rA cy lay Γ sz)) (by decide) rfl (Nat.le_of_ble_eq_true rfl) rfl ?_
  intro p e s m args below meth c ls hC hr hlocks hT G hl
  unfold w_X11_refuse at h
  have hl : lv_has ls 2 [(0, .ref (lay 0)), (1, .int a1)] := hl
  refine lv_aload_n hC.1 hC.2.1 dX11_refuse_0 rfl (lv_at hl 0 rfl) ?_
  refine lv_iload_n hC.1 hC.2.1 dX11_refuse_1 rfl (lv_at hl 1 rfl) ?_
  refine rg_put hC hT G (by decide) r_mo k_X11 i_X11_refuse_X11 0 (by decide) (wm 1 rfl) rfl rfl (by simp) r_mo (by rw [up2_eq]; rfl) dX11_refuse_2 (fun H locs G => ?_)
  refine lv_iconst (v := 0) hC.1 hC.2.1 dX11_refuse_5 (by decide) ?_
  exact rg_iret hC hr hlocks G h dX11_refuse_6
theorem hdV_X11_refuse : yX11_refuse.cls = RX11 ∧ yX11_refuse.cls ≠ "java/lang/invoke/MethodHandle" ∧ yX11_refuse.cls ≠ "java/lang/invoke/VarHandle" ∧ (parseMethodDescriptor yX11_refuse.desc).map (fun d => d.parameters.length) = some 1 := by decide +kernel
abbrev rm_X11_isPlayer : Room := { frames := 1, cells := 0, slots := 0, locals := 22 }
theorem i_X11_isPlayer_X11 : ∀ w ∈ wsX110, w ∈ wsX11_isPlayer := fun _ h => List.mem_cons_of_mem _ (List.mem_append_left _ (List.mem_append_right _ h))
def w_X11_isPlayer (Γ : RG) (post : Int32 → MS → Prop) (σ : MS) (a1 : Int32) : Prop := w_lp_Jx4a65c_size_8abf5 Γ (fun r2 σ1 => w_X11_is Γ (fun r4 σ3 => (narrow .boolean (.int r4) = .int r4 ∧ post r4 σ3)) σ1 a1 0 (r2 - 1)) σ
set_option maxHeartbeats 4000000 in
set_option maxRecDepth 100000 in
theorem c_X11_isPlayer (l : Launch) (D : va_G) (cy : Nat → ClassId) (lay : Nat → Nat) (Γ : RG) {σ : MS} {post : Int32 → MS → Prop} {a1 : Int32} (h : w_X11_isPlayer Γ post σ a1) (sz : Nat) : Met l yX11_isPlayer wsX11_isPlayer rm_X11_isPlayer (va_Pc [.ref (lay 0), .int a1] (rI D cy lay Γ σ sz)) (va_Qi post (rO D cy lay Γ) (rA cy lay Γ sz)) 0 0 (rA cy lay Γ sz) := by
  refine rg_ofW (cc := cX11_isPlayer) (maxL := 2) (ret := some .boolean) (own := RX11) (Qc := fun sz => va_Qi post (rO D cy lay Γ) (rA cy lay Γ sz)) (by decide) rfl (Nat.le_of_ble_eq_true rfl) rfl ?_
  intro p e s m args below meth c ls hC hr hlocks hT G hl
  unfold w_X11_isPlayer at h
  have hl : lv_has ls 2 [(0, .ref (lay 0)), (1, .int a1)] := hl
  refine lv_iload_n hC.1 hC.2.1 dX11_isPlayer_0 rfl (lv_at hl 1 rfl) ?_
  refine lv_iconst (v := 0) hC.1 hC.2.1 dX11_isPlayer_1 (by decide) ?_
  refine lv_aload_n hC.1 hC.2.1 dX11_isPlayer_2 rfl (lv_at hl 0 rfl) ?_
  refine rg_get hC hT G (by decide) r_mo k_X11 i_X11_isPlayer_X11 3 (by decide) (wm 1 rfl) rfl dX11_isPlayer_3 ?_
  refine rg_i G (rg_runV (As := []) (rest := [.int 0, .int a1]) hC hT G (c_lp_Jx4a65c_size_8abf5 l D cy lay Γ h _) (cwV 0 hC.2.2.2.2 gX11_isPlayer_Jx4a65c_size_8abf5 rfl rfl rfl hdV_Jx4a65c_size_8abf5 ⟨Nat.le_of_ble_eq_true rfl, Nat.le_of_ble_eq_true rfl⟩) (rg_recv hT G (by decide) r_lp k_AL) rfl hl.1 rfl (Nat.le_of_ble_eq_true rfl) dX11_isPlayer_6 ⟨Nat.le_of_ble_eq_true rfl, Nat.le_of_ble_eq_true rfl⟩) (fun r2 σ1 H locs h G => ?_)
  (try dsimp only at h)
  refine lv_iconst (v := 1) hC.1 hC.2.1 dX11_isPlayer_9 (by decide) ?_
  refine lv_isub hC.1 hC.2.1 dX11_isPlayer_10 ?_
  refine rg_i G (rg_runS (As := [.int a1, .int 0, .int (r2 - 1)]) (rest := []) hC hT G (c_X11_is l D cy lay Γ h _) (va_cwS 3 hC.2.2.2.2 gX11_isPlayer_X11_is rfl rfl rfl hdS_X11_is ⟨Nat.le_of_ble_eq_true rfl, Nat.le_of_ble_eq_true rfl⟩) rfl hl.1 rfl (Nat.le_of_ble_eq_true rfl) dX11_isPlayer_11 ⟨Nat.le_of_ble_eq_true rfl, Nat.le_of_ble_eq_true rfl⟩) (fun r4 σ3 H locs h G => ?_)
  (try dsimp only at h)
  exact rg_zret hC hr hlocks G h.1 h.2 dX11_isPlayer_14
theorem hdV_X11_isPlayer : yX11_isPlayer.cls = RX11 ∧ yX11_isPlayer.cls ≠ "java/lang/invoke/MethodHandle" ∧ yX11_isPlayer.cls ≠ "java/lang/invoke/VarHandle" ∧ (parseMethodDescriptor yX11_isPlayer.desc).map (fun d => d.parameters.length) = some 1 := by decide +kernel
abbrev rm_X11_isWedding : Room := { frames := 1, cells := 0, slots := 0, locals := 22 }
theorem i_X11_isWedding_X11 : ∀ w ∈ wsX110, w ∈ wsX11_isWedding := fun _ h => List.mem_cons_of_mem _ (List.mem_append_left _ (List.mem_append_right _ h))
def w_X11_isWedding (Γ : RG) (post : Int32 → MS → Prop) (σ : MS) (a1 : Int32) : Prop := w_lw_Jx4a65c_size_8abf5 Γ (fun r2 σ1 => w_X11_is Γ (fun r4 σ3 => (narrow .boolean (.int r4) = .int r4 ∧ post r4 σ3)) σ1 a1 0 (r2 - 1)) σ
set_option maxHeartbeats 4000000 in
set_option maxRecDepth 100000 in
theorem c_X11_isWedding (l : Launch) (D : va_G) (cy : Nat → ClassId) (lay : Nat → Nat) (Γ : RG) {σ : MS} {post : Int32 → MS → Prop} {a1 : Int32} (h : w_X11_isWedding Γ post σ a1) (sz : Nat) : Met l yX11_isWedding wsX11_isWedding rm_X11_isWedding (va_Pc [.ref (lay 0), .int a1] (rI D cy lay Γ σ sz)) (va_Qi post (rO D cy lay Γ) (rA cy lay Γ sz)) 0 0 (rA cy lay Γ sz) := by
  refine rg_ofW (cc := cX11_isWedding) (maxL := 2) (ret := some .boolean) (own := RX11) (Qc := fun sz => va_Qi post (rO D cy lay Γ) (rA cy lay Γ sz)) (by decide) rfl (Nat.le_of_ble_eq_true rfl) rfl ?_
  intro p e s m args below meth c ls hC hr hlocks hT G hl
  unfold w_X11_isWedding at h
  have hl : lv_has ls 2 [(0, .ref (lay 0)), (1, .int a1)] := hl
  refine lv_iload_n hC.1 hC.2.1 dX11_isWedding_0 rfl (lv_at hl 1 rfl) ?_
  refine lv_iconst (v := 0) hC.1 hC.2.1 dX11_isWedding_1 (by decide) ?_
  refine lv_aload_n hC.1 hC.2.1 dX11_isWedding_2 rfl (lv_at hl 0 rfl) ?_
  refine rg_get hC hT G (by decide) r_mo k_X11 i_X11_isWedding_X11 5 (by decide) (wm 1 rfl) rfl dX11_isWedding_3 ?_
  refine rg_i G (rg_runV (As := []) (rest := [.int 0, .int a1]) hC hT G (c_lw_Jx4a65c_size_8abf5 l D cy lay Γ h _) (cwV 0 hC.2.2.2.2 gX11_isWedding_Jx4a65c_size_8abf5 rfl rfl rfl hdV_Jx4a65c_size_8abf5 ⟨Nat.le_of_ble_eq_true rfl, Nat.le_of_ble_eq_true rfl⟩) (rg_recv hT G (by decide) r_lw k_AL) rfl hl.1 rfl (Nat.le_of_ble_eq_true rfl) dX11_isWedding_6 ⟨Nat.le_of_ble_eq_true rfl, Nat.le_of_ble_eq_true rfl⟩) (fun r2 σ1 H locs h G => ?_)
  (try dsimp only at h)
  refine lv_iconst (v := 1) hC.1 hC.2.1 dX11_isWedding_9 (by decide) ?_
  refine lv_isub hC.1 hC.2.1 dX11_isWedding_10 ?_
  refine rg_i G (rg_runS (As := [.int a1, .int 0, .int (r2 - 1)]) (rest := []) hC hT G (c_X11_is l D cy lay Γ h _) (va_cwS 3 hC.2.2.2.2 gX11_isWedding_X11_is rfl rfl rfl hdS_X11_is ⟨Nat.le_of_ble_eq_true rfl, Nat.le_of_ble_eq_true rfl⟩) rfl hl.1 rfl (Nat.le_of_ble_eq_true rfl) dX11_isWedding_11 ⟨Nat.le_of_ble_eq_true rfl, Nat.le_of_ble_eq_true rfl⟩) (fun r4 σ3 H locs h G => ?_)
  (try dsimp only at h)
  exact rg_zret hC hr hlocks G h.1 h.2 dX11_isWedding_14
theorem hdV_X11_isWedding : yX11_isWedding.cls = RX11 ∧ yX11_isWedding.cls ≠ "java/lang/invoke/MethodHandle" ∧ yX11_isWedding.cls ≠ "java/lang/invoke/VarHandle" ∧ (parseMethodDescriptor yX11_isWedding.desc).map (fun d => d.parameters.length) = some 1 := by decide +kernel
abbrev rm_X11_areSongs : Room := { frames := 1, cells := 0, slots := 0, locals := 22 }
def w_X11_areSongs (Γ : RG) (post : Int32 → MS → Prop) (σ : MS) (a1 : Int32) : Prop := w_X11_is Γ (fun r2 σ1 => (narrow .boolean (.int r2) = .int r2 ∧ post r2 σ1)) σ a1 0 65535
set_option maxHeartbeats 4000000 in
set_option maxRecDepth 100000 in
theorem c_X11_areSongs (l : Launch) (D : va_G) (cy : Nat → ClassId) (lay : Nat → Nat) (Γ : RG) {σ : MS} {post : Int32 → MS → Prop} {a1 : Int32} (h : w_X11_areSongs Γ post σ a1) (sz : Nat) : Met l yX11_areSongs wsX11_areSongs rm_X11_areSongs (va_Pc [.ref (lay 0), .int a1] (rI D cy lay Γ σ sz)) (va_Qi post (rO D cy lay Γ) (rA cy lay Γ sz)) 0 0 (rA cy lay Γ sz) := by
  refine rg_ofW (cc := cX11_areSongs) (maxL := 2) (ret := some .boolean) (own := RX11) (Qc := fun sz => va_Qi post (rO D cy lay Γ) (rA cy lay Γ sz)) (by decide) rfl (Nat.le_of_ble_eq_true rfl) rfl ?_
  intro p e s m args below meth c ls hC hr hlocks hT G hl
  unfold w_X11_areSongs at h
  have hl : lv_has ls 2 [(0, .ref (lay 0)), (1, .int a1)] := hl
  refine lv_iload_n hC.1 hC.2.1 dX11_areSongs_0 rfl (lv_at hl 1 rfl) ?_
  refine lv_iconst (v := 0) hC.1 hC.2.1 dX11_areSongs_1 (by decide) ?_
  refine lv_ldc (v := 65535) hC.1 hC.2.1 hC.2.2.2.1 (hC.2.2.2.2 _ (wm 1 rfl)) dX11_areSongs_2 ?_
  refine rg_i G (rg_runS (As := [.int a1, .int 0, .int 65535]) (rest := []) hC hT G (c_X11_is l D cy lay Γ h _) (va_cwS 3 hC.2.2.2.2 gX11_areSongs_X11_is rfl rfl rfl hdS_X11_is ⟨Nat.le_of_ble_eq_true rfl, Nat.le_of_ble_eq_true rfl⟩) rfl hl.1 rfl (Nat.le_of_ble_eq_true rfl) dX11_areSongs_4 ⟨Nat.le_of_ble_eq_true rfl, Nat.le_of_ble_eq_true rfl⟩) (fun r2 σ1 H locs h G => ?_)
  (try dsimp only at h)
  exact rg_zret hC hr hlocks G h.1 h.2 dX11_areSongs_7
theorem hdV_X11_areSongs : yX11_areSongs.cls = RX11 ∧ yX11_areSongs.cls ≠ "java/lang/invoke/MethodHandle" ∧ yX11_areSongs.cls ≠ "java/lang/invoke/VarHandle" ∧ (parseMethodDescriptor yX11_areSongs.desc).map (fun d => d.parameters.length) = some 1 := by decide +kernel
abbrev rm_X11_isDay : Room := { frames := 1, cells := 0, slots := 0, locals := 22 }
theorem i_X11_isDay_X11 : ∀ w ∈ wsX110, w ∈ wsX11_isDay := fun _ h => List.mem_cons_of_mem _ (List.mem_append_right _ h)
def w_X11_isDay (Γ : RG) (post : Int32 → MS → Prop) (σ : MS) (a1 : Int32) : Prop := w_X11_is Γ (fun r2 σ1 => (narrow .boolean (.int r2) = .int r2 ∧ post r2 σ1)) σ a1 (σ 0 1) 365
set_option maxHeartbeats 4000000 in
set_option maxRecDepth 100000 in
theorem c_X11_isDay (l : Launch) (D : va_G) (cy : Nat → ClassId) (lay : Nat → Nat) (Γ : RG) {σ : MS} {post : Int32 → MS → Prop} {a1 : Int32} (h : w_X11_isDay Γ post σ a1) (sz : Nat) : Met l yX11_isDay wsX11_isDay rm_X11_isDay (va_Pc [.ref (lay 0), .int a1] (rI D cy lay Γ σ sz)) (va_Qi post (rO D cy lay Γ) (rA cy lay Γ sz)) 0 0 (rA cy lay Γ sz) := by
  refine rg_ofW (cc := cX11_isDay) (maxL := 2) (ret := some .boolean) (own := RX11) (Qc := fun sz => va_Qi post (rO D cy lay Γ) (rA cy lay Γ sz)) (by decide) rfl (Nat.le_of_ble_eq_true rfl) rfl ?_
  intro p e s m args below meth c ls hC hr hlocks hT G hl
  unfold w_X11_isDay at h
  have hl : lv_has ls 2 [(0, .ref (lay 0)), (1, .int a1)] := hl
  refine lv_iload_n hC.1 hC.2.1 dX11_isDay_0 rfl (lv_at hl 1 rfl) ?_
  refine lv_aload_n hC.1 hC.2.1 dX11_isDay_1 rfl (lv_at hl 0 rfl) ?_
  refine rg_get hC hT G (by decide) r_mo k_X11 i_X11_isDay_X11 1 (by decide) (wm 1 rfl) rfl dX11_isDay_2 ?_
  refine lv_sipush (v := 365) hC.1 hC.2.1 dX11_isDay_5 (by decide) ?_
  refine rg_i G (rg_runS (As := [.int a1, .int (σ 0 1), .int 365]) (rest := []) hC hT G (c_X11_is l D cy lay Γ h _) (va_cwS 3 hC.2.2.2.2 gX11_isDay_X11_is rfl rfl rfl hdS_X11_is ⟨Nat.le_of_ble_eq_true rfl, Nat.le_of_ble_eq_true rfl⟩) rfl hl.1 rfl (Nat.le_of_ble_eq_true rfl) dX11_isDay_8 ⟨Nat.le_of_ble_eq_true rfl, Nat.le_of_ble_eq_true rfl⟩) (fun r2 σ1 H locs h G => ?_)
  (try dsimp only at h)
  exact rg_zret hC hr hlocks G h.1 h.2 dX11_isDay_11
theorem hdV_X11_isDay : yX11_isDay.cls = RX11 ∧ yX11_isDay.cls ≠ "java/lang/invoke/MethodHandle" ∧ yX11_isDay.cls ≠ "java/lang/invoke/VarHandle" ∧ (parseMethodDescriptor yX11_isDay.desc).map (fun d => d.parameters.length) = some 1 := by decide +kernel
abbrev rm_X11_isBand : Room := { frames := 1, cells := 0, slots := 0, locals := 22 }
theorem i_X11_isBand_X11 : ∀ w ∈ wsX110, w ∈ wsX11_isBand := fun _ h => List.mem_cons_of_mem _ (List.mem_append_left _ (List.mem_append_right _ h))
def w_X11_isBand (Γ : RG) (post : Int32 → MS → Prop) (σ : MS) (a1 : Int32) : Prop := w_lb_Jx4a65c_size_8abf5 Γ (fun r2 σ1 => w_X11_is Γ (fun r4 σ3 => (narrow .boolean (.int r4) = .int r4 ∧ post r4 σ3)) σ1 a1 0 (r2 - 1)) σ
set_option maxHeartbeats 4000000 in
set_option maxRecDepth 100000 in
theorem c_X11_isBand (l : Launch) (D : va_G) (cy : Nat → ClassId) (lay : Nat → Nat) (Γ : RG) {σ : MS} {post : Int32 → MS → Prop} {a1 : Int32} (h : w_X11_isBand Γ post σ a1) (sz : Nat) : Met l yX11_isBand wsX11_isBand rm_X11_isBand (va_Pc [.ref (lay 0), .int a1] (rI D cy lay Γ σ sz)) (va_Qi post (rO D cy lay Γ) (rA cy lay Γ sz)) 0 0 (rA cy lay Γ sz) := by
  refine rg_ofW (cc := cX11_isBand) (maxL := 2) (ret := some .boolean) (own := RX11) (Qc := fun sz => va_Qi post (rO D cy lay Γ) (rA cy lay Γ sz)) (by decide) rfl (Nat.le_of_ble_eq_true rfl) rfl ?_
  intro p e s m args below meth c ls hC hr hlocks hT G hl
  unfold w_X11_isBand at h
  have hl : lv_has ls 2 [(0, .ref (lay 0)), (1, .int a1)] := hl
  refine lv_iload_n hC.1 hC.2.1 dX11_isBand_0 rfl (lv_at hl 1 rfl) ?_
  refine lv_iconst (v := 0) hC.1 hC.2.1 dX11_isBand_1 (by decide) ?_
  refine lv_aload_n hC.1 hC.2.1 dX11_isBand_2 rfl (lv_at hl 0 rfl) ?_
  refine rg_get hC hT G (by decide) r_mo k_X11 i_X11_isBand_X11 4 (by decide) (wm 1 rfl) rfl dX11_isBand_3 ?_
  refine rg_i G (rg_runV (As := []) (rest := [.int 0, .int a1]) hC hT G (c_lb_Jx4a65c_size_8abf5 l D cy lay Γ h _) (cwV 0 hC.2.2.2.2 gX11_isBand_Jx4a65c_size_8abf5 rfl rfl rfl hdV_Jx4a65c_size_8abf5 ⟨Nat.le_of_ble_eq_true rfl, Nat.le_of_ble_eq_true rfl⟩) (rg_recv hT G (by decide) r_lb k_AL) rfl hl.1 rfl (Nat.le_of_ble_eq_true rfl) dX11_isBand_6 ⟨Nat.le_of_ble_eq_true rfl, Nat.le_of_ble_eq_true rfl⟩) (fun r2 σ1 H locs h G => ?_)
  (try dsimp only at h)
  refine lv_iconst (v := 1) hC.1 hC.2.1 dX11_isBand_9 (by decide) ?_
  refine lv_isub hC.1 hC.2.1 dX11_isBand_10 ?_
  refine rg_i G (rg_runS (As := [.int a1, .int 0, .int (r2 - 1)]) (rest := []) hC hT G (c_X11_is l D cy lay Γ h _) (va_cwS 3 hC.2.2.2.2 gX11_isBand_X11_is rfl rfl rfl hdS_X11_is ⟨Nat.le_of_ble_eq_true rfl, Nat.le_of_ble_eq_true rfl⟩) rfl hl.1 rfl (Nat.le_of_ble_eq_true rfl) dX11_isBand_11 ⟨Nat.le_of_ble_eq_true rfl, Nat.le_of_ble_eq_true rfl⟩) (fun r4 σ3 H locs h G => ?_)
  (try dsimp only at h)
  exact rg_zret hC hr hlocks G h.1 h.2 dX11_isBand_14
theorem hdV_X11_isBand : yX11_isBand.cls = RX11 ∧ yX11_isBand.cls ≠ "java/lang/invoke/MethodHandle" ∧ yX11_isBand.cls ≠ "java/lang/invoke/VarHandle" ∧ (parseMethodDescriptor yX11_isBand.desc).map (fun d => d.parameters.length) = some 1 := by decide +kernel
abbrev rm_X11_learn : Room := { frames := 3, cells := 0, slots := 0, locals := 64 }
theorem i_X11_learn_X11 : ∀ w ∈ wsX110, w ∈ wsX11_learn := fun _ h => List.mem_cons_of_mem _ (List.mem_append_left _ (List.mem_append_left _ (List.mem_append_right _ h)))
theorem i_X11_learn_X9 : ∀ w ∈ wsX90, w ∈ wsX11_learn := fun _ h => List.mem_cons_of_mem _ (List.mem_append_left _ (List.mem_append_right _ h))
def w_X11_learn (Γ : RG) (post : Int32 → MS → Prop) (σ : MS) (a1 : Int32) (a2 : Int32) : Prop := w_X11_isPlayer Γ (fun r2 σ1 => ((r2 = 0 → w_X11_refuse Γ (fun r18 σ17 => post r18 σ17) σ1 1) ∧ (¬ r2 = 0 → w_X11_areSongs Γ (fun r5 σ4 => ((r5 = 0 → w_X11_refuse Γ (fun r16 σ15 => post r16 σ15) σ4 2) ∧ (¬ r5 = 0 → w_lp_Jx4a65c_get_915e3 Γ (fun j8 σ7 => ((j8 < 10 ∧ j8 < Γ.1) ∧ w_lp_Jx4a65c_get_915e3 Γ (fun j11 σ10 => ((j11 < 10 ∧ j11 < Γ.1) ∧ w_r_J6_bitCount_0f7a4 Γ (fun r14 σ13 => post r14 σ13) σ10 (σ10 (13 + j11) 1))) (up2 σ7 (13 + j8) 1 ((σ7 (13 + j8) 1) ||| a2)) a1)) σ4 a1))) σ1 a2))) (up2 σ 0 0 0) a1
set_option maxHeartbeats 4000000 in
set_option maxRecDepth 100000 in
theorem c_X11_learn (l : Launch) (D : va_G) (cy : Nat → ClassId) (lay : Nat → Nat) (Γ : RG) {σ : MS} {post : Int32 → MS → Prop} {a1 : Int32} {a2 : Int32} (h : w_X11_learn Γ post σ a1 a2) (sz : Nat) : Met l yX11_learn wsX11_learn rm_X11_learn (va_Pc [.ref (lay 0), .int a1, .int a2] (rI D cy lay Γ σ sz)) (va_Qi post (rO D cy lay Γ) (rA cy lay Γ sz)) 0 0 (rA cy lay Γ sz) := by
  refine rg_ofW (cc := cX11_learn) (maxL := 3) (ret := some .int) (own := RX11) (Qc := fun sz => va_Qi post (rO D cy lay Γ) (rA cy lay Γ sz)) (by decide) rfl (Nat.le_of_ble_eq_true rfl) rfl ?_
  intro p e s m args below meth c ls hC hr hlocks hT G hl
  unfold w_X11_learn at h
  have hl : lv_has ls 3 [(0, .ref (lay 0)), (1, .int a1), (2, .int a2)] := hl
  refine lv_aload_n hC.1 hC.2.1 dX11_learn_0 rfl (lv_at hl 0 rfl) ?_
  refine lv_iconst (v := 0) hC.1 hC.2.1 dX11_learn_1 (by decide) ?_
  refine rg_put hC hT G (by decide) r_mo k_X11 i_X11_learn_X11 0 (by decide) (wm 1 rfl) rfl rfl (by simp) r_mo (by rw [up2_eq]; rfl) dX11_learn_2 (fun H locs G => ?_)
  refine lv_aload_n hC.1 hC.2.1 dX11_learn_5 rfl (lv_at hl 0 rfl) ?_
  refine lv_iload_n hC.1 hC.2.1 dX11_learn_6 rfl (lv_at hl 1 rfl) ?_
  refine rg_i G (rg_runV (As := [.int a1]) (rest := []) hC hT G (c_X11_isPlayer l D cy lay Γ h _) (cwV 1 hC.2.2.2.2 gX11_learn_X11_isPlayer rfl rfl rfl hdV_X11_isPlayer ⟨Nat.le_of_ble_eq_true rfl, Nat.le_of_ble_eq_true rfl⟩) (rg_recv hT G (by decide) r_mo k_X11) rfl hl.1 rfl (Nat.le_of_ble_eq_true rfl) dX11_learn_7 ⟨Nat.le_of_ble_eq_true rfl, Nat.le_of_ble_eq_true rfl⟩) (fun r2 σ1 H locs h G => ?_)
  (try dsimp only at h)
  refine lv_if_ne (tgt := 19) hC.1 hC.2.1 dX11_learn_10 (by decide) (fun c3 => ?_) (fun c3 => ?_)
  · replace h := h.2 c3
    refine lv_aload_n hC.1 hC.2.1 dX11_learn_19 rfl (lv_at hl 0 rfl) ?_
    refine lv_iload_n hC.1 hC.2.1 dX11_learn_20 rfl (lv_at hl 2 rfl) ?_
    refine rg_i G (rg_runV (As := [.int a2]) (rest := []) hC hT G (c_X11_areSongs l D cy lay Γ h _) (cwV 1 hC.2.2.2.2 gX11_learn_X11_areSongs rfl rfl rfl hdV_X11_areSongs ⟨Nat.le_of_ble_eq_true rfl, Nat.le_of_ble_eq_true rfl⟩) (rg_recv hT G (by decide) r_mo k_X11) rfl hl.1 rfl (Nat.le_of_ble_eq_true rfl) dX11_learn_21 ⟨Nat.le_of_ble_eq_true rfl, Nat.le_of_ble_eq_true rfl⟩) (fun r5 σ4 H locs h G => ?_)
    (try dsimp only at h)
    refine lv_if_ne (tgt := 33) hC.1 hC.2.1 dX11_learn_24 (by decide) (fun c6 => ?_) (fun c6 => ?_)
    · replace h := h.2 c6
      refine lv_aload_n hC.1 hC.2.1 dX11_learn_33 rfl (lv_at hl 0 rfl) ?_
      refine rg_get hC hT G (by decide) r_mo k_X11 i_X11_learn_X11 3 (by decide) (wm 2 rfl) rfl dX11_learn_34 ?_
      refine lv_iload_n hC.1 hC.2.1 dX11_learn_37 rfl (lv_at hl 1 rfl) ?_
      refine rg_r (f := fun i => lay (13 + i)) G (rg_runV (As := [.int a1]) (rest := []) hC hT G (c_lp_Jx4a65c_get_915e3 l D cy lay Γ h _) (cwV 1 hC.2.2.2.2 gX11_learn_Jx4a65c_get_915e3 rfl rfl rfl hdV_Jx4a65c_get_915e3 ⟨Nat.le_of_ble_eq_true rfl, Nat.le_of_ble_eq_true rfl⟩) (rg_recv hT G (by decide) r_lp k_AL) rfl hl.1 rfl (Nat.le_of_ble_eq_true rfl) dX11_learn_38 ⟨Nat.le_of_ble_eq_true rfl, Nat.le_of_ble_eq_true rfl⟩) (fun j8 σ7 H locs h G => ?_)
      (try dsimp only at h)
      obtain ⟨hj9, h⟩ := h
      refine rg_cast hC hT k_X9 (wm 3 rfl) (rg_recv hT G (rk_pl hj9) (r_pl hj9) k_X9) dX11_learn_41 ?_
      refine lv_dup hC.1 hC.2.1 dX11_learn_44 rfl ?_
      refine rg_getN hC hT G (rk_pl hj9) (r_pl hj9) k_X9 i_X11_learn_X9 1 (by decide) 3 rfl rfl dX11_learn_45 ?_
      refine lv_iload_n hC.1 hC.2.1 dX11_learn_48 rfl (lv_at hl 2 rfl) ?_
      refine lv_ior hC.1 hC.2.1 dX11_learn_49 ?_
      refine rg_putN hC hT G (rk_pl hj9) (r_pl hj9) k_X9 i_X11_learn_X9 1 (by decide) 3 rfl rfl rfl (by simp) (r_pl hj9) (by rw [up2_eq]; rfl) dX11_learn_50 (fun H locs G => ?_)
      refine lv_aload_n hC.1 hC.2.1 dX11_learn_53 rfl (lv_at hl 0 rfl) ?_
      refine rg_get hC hT G (by decide) r_mo k_X11 i_X11_learn_X11 3 (by decide) (wm 2 rfl) rfl dX11_learn_54 ?_
      refine lv_iload_n hC.1 hC.2.1 dX11_learn_57 rfl (lv_at hl 1 rfl) ?_
      refine rg_r (f := fun i => lay (13 + i)) G (rg_runV (As := [.int a1]) (rest := []) hC hT G (c_lp_Jx4a65c_get_915e3 l D cy lay Γ h _) (cwV 1 hC.2.2.2.2 gX11_learn_Jx4a65c_get_915e3 rfl rfl rfl hdV_Jx4a65c_get_915e3 ⟨Nat.le_of_ble_eq_true rfl, Nat.le_of_ble_eq_true rfl⟩) (rg_recv hT G (by decide) r_lp k_AL) rfl hl.1 rfl (Nat.le_of_ble_eq_true rfl) dX11_learn_58 ⟨Nat.le_of_ble_eq_true rfl, Nat.le_of_ble_eq_true rfl⟩) (fun j11 σ10 H locs h G => ?_)
      (try dsimp only at h)
      obtain ⟨hj12, h⟩ := h
      refine rg_cast hC hT k_X9 (wm 3 rfl) (rg_recv hT G (rk_pl hj12) (r_pl hj12) k_X9) dX11_learn_61 ?_
      refine rg_getN hC hT G (rk_pl hj12) (r_pl hj12) k_X9 i_X11_learn_X9 1 (by decide) 3 rfl rfl dX11_learn_64 ?_
      refine rg_i G (rg_runS (As := [.int (σ10 (13 + j11) 1)]) (rest := []) hC hT G (c_r_J6_bitCount_0f7a4 l D cy lay Γ h _) (va_cwS 1 hC.2.2.2.2 gX11_learn_J6_bitCount_0f7a4 rfl rfl rfl hdS_J6_bitCount_0f7a4 ⟨Nat.le_of_ble_eq_true rfl, Nat.le_of_ble_eq_true rfl⟩) rfl hl.1 rfl (Nat.le_of_ble_eq_true rfl) dX11_learn_67 ⟨Nat.le_of_ble_eq_true rfl, Nat.le_of_ble_eq_true rfl⟩) (fun r14 σ13 H locs h G => ?_)
      (try dsimp only at h)
      exact rg_iret hC hr hlocks G h dX11_learn_70
    · replace h := h.1 c6
      refine lv_aload_n hC.1 hC.2.1 dX11_learn_27 rfl (lv_at hl 0 rfl) ?_
      refine lv_iconst (v := 2) hC.1 hC.2.1 dX11_learn_28 (by decide) ?_
      refine rg_i G (rg_runV (As := [.int 2]) (rest := []) hC hT G (c_X11_refuse l D cy lay Γ h _) (cwV 1 hC.2.2.2.2 gX11_learn_X11_refuse rfl rfl rfl hdV_X11_refuse ⟨Nat.le_of_ble_eq_true rfl, Nat.le_of_ble_eq_true rfl⟩) (rg_recv hT G (by decide) r_mo k_X11) rfl hl.1 rfl (Nat.le_of_ble_eq_true rfl) dX11_learn_29 ⟨Nat.le_of_ble_eq_true rfl, Nat.le_of_ble_eq_true rfl⟩) (fun r16 σ15 H locs h G => ?_)
      (try dsimp only at h)
      exact rg_iret hC hr hlocks G h dX11_learn_32
  · replace h := h.1 c3
    refine lv_aload_n hC.1 hC.2.1 dX11_learn_13 rfl (lv_at hl 0 rfl) ?_
    refine lv_iconst (v := 1) hC.1 hC.2.1 dX11_learn_14 (by decide) ?_
    refine rg_i G (rg_runV (As := [.int 1]) (rest := []) hC hT G (c_X11_refuse l D cy lay Γ h _) (cwV 1 hC.2.2.2.2 gX11_learn_X11_refuse rfl rfl rfl hdV_X11_refuse ⟨Nat.le_of_ble_eq_true rfl, Nat.le_of_ble_eq_true rfl⟩) (rg_recv hT G (by decide) r_mo k_X11) rfl hl.1 rfl (Nat.le_of_ble_eq_true rfl) dX11_learn_15 ⟨Nat.le_of_ble_eq_true rfl, Nat.le_of_ble_eq_true rfl⟩) (fun r18 σ17 H locs h G => ?_)
    (try dsimp only at h)
    exact rg_iret hC hr hlocks G h dX11_learn_18
theorem hdV_X11_learn : yX11_learn.cls = RX11 ∧ yX11_learn.cls ≠ "java/lang/invoke/MethodHandle" ∧ yX11_learn.cls ≠ "java/lang/invoke/VarHandle" ∧ (parseMethodDescriptor yX11_learn.desc).map (fun d => d.parameters.length) = some 2 := by decide +kernel
abbrev rm_X11_song : Room := { frames := 1, cells := 0, slots := 0, locals := 22 }
theorem i_X11_song_X11 : ∀ w ∈ wsX110, w ∈ wsX11_song := fun _ h => List.mem_cons_of_mem _ (List.mem_append_right _ h)
def u_X11_song_52 (Γ : RG) (post : Int32 → MS → Prop) (a1 : Int32) (a2 : Int32) (a3 : Int32) (a4 : Int32) (σ : MS) : Prop := w_X11_refuse Γ (fun r8 σ7 => post r8 σ7) σ 2
set_option maxHeartbeats 4000000 in
set_option maxRecDepth 100000 in
theorem l_X11_song_52 {p : Program} {l : Launch} {e : Env} {s : State} {m : MethodId} {args : Array Value} {below : List Frame} {meth : Method} {c : Code} {D : va_G} {cy : Nat → ClassId} {lay : Nat → Nat} {Γ : RG} {post : Int32 → MS → Prop} (a1 : Int32) (a2 : Int32) (a3 : Int32) (a4 : Int32) (hC : CallFix p m c cX11_song 6 s args wsX11_song RX11) (hr : meth.sig.returnType = some .int) (hlocks : meth.locks = false) (hT : rT D cy lay Γ s) : ∀ (σ : MS), u_X11_song_52 Γ post a1 a2 a3 a4 σ → ∀ (H : Heap) (locs : List Loc) (ls : Array Slot), rG D cy lay Γ tn σ (rA cy lay Γ s.heap.size) s.heap H locs → lv_has ls 6 [(0, .ref (lay 0)), (1, .int a1), (2, .int a2), (3, .int a3), (4, .int a4)] → W p l e rm_X11_song s m args below meth c H locs 0 0 (MQ below (va_Qi post (rO D cy lay Γ) (rA cy lay Γ s.heap.size)) args s 0 0 (rA cy lay Γ s.heap.size)) (F0 m 52 ls []) := by
  intro σ h H locs ls G hl
  unfold u_X11_song_52 at h
  refine lv_aload_n hC.1 hC.2.1 dX11_song_52 rfl (lv_at hl 0 rfl) ?_
  refine lv_iconst (v := 2) hC.1 hC.2.1 dX11_song_53 (by decide) ?_
  refine rg_i G (rg_runV (As := [.int 2]) (rest := []) hC hT G (c_X11_refuse l D cy lay Γ h _) (cwV 1 hC.2.2.2.2 gX11_song_X11_refuse rfl rfl rfl hdV_X11_refuse ⟨Nat.le_of_ble_eq_true rfl, Nat.le_of_ble_eq_true rfl⟩) (rg_recv hT G (by decide) r_mo k_X11) rfl hl.1 rfl (Nat.le_of_ble_eq_true rfl) dX11_song_54 ⟨Nat.le_of_ble_eq_true rfl, Nat.le_of_ble_eq_true rfl⟩) (fun r8 σ7 H locs h G => ?_)
  (try dsimp only at h)
  exact rg_iret hC hr hlocks G h dX11_song_57
def w_X11_song (Γ : RG) (post : Int32 → MS → Prop) (σ : MS) (a1 : Int32) (a2 : Int32) (a3 : Int32) (a4 : Int32) : Prop := w_X11_is Γ (fun r2 σ1 => ((r2 = 0 → w_X11_refuse Γ (fun r20 σ19 => post r20 σ19) σ1 1) ∧ (¬ r2 = 0 → w_X11_is Γ (fun r5 σ4 => ((r5 = 0 → u_X11_song_52 Γ post a1 a2 a3 a4 σ4) ∧ (¬ r5 = 0 → w_X11_is Γ (fun r10 σ9 => ((r10 = 0 → u_X11_song_52 Γ post a1 a2 a3 a4 σ9) ∧ (¬ r10 = 0 → w_X11_is Γ (fun r13 σ12 => ((r13 = 0 → u_X11_song_52 Γ post a1 a2 a3 a4 σ12) ∧ (¬ r13 = 0 → (vp_in a1 16 ∧ (vp_in a1 16 ∧ (vp_in a1 16 ∧ (vp_in a1 16 ∧ post (σ12 9 (Int32.toNatClampNeg a1)) (up2 (up2 (up2 σ12 7 (Int32.toNatClampNeg a1) a2) 8 (Int32.toNatClampNeg a1) a3) 9 (Int32.toNatClampNeg a1) a4)))))))) σ9 a4 2 9))) σ4 a3 0 9))) σ1 a2 0 11))) (up2 σ 0 0 0) a1 0 15
set_option maxHeartbeats 4000000 in
set_option maxRecDepth 100000 in
theorem c_X11_song (l : Launch) (D : va_G) (cy : Nat → ClassId) (lay : Nat → Nat) (Γ : RG) {σ : MS} {post : Int32 → MS → Prop} {a1 : Int32} {a2 : Int32} {a3 : Int32} {a4 : Int32} (h : w_X11_song Γ post σ a1 a2 a3 a4) (sz : Nat) : Met l yX11_song wsX11_song rm_X11_song (va_Pc [.ref (lay 0), .int a1, .int a2, .int a3, .int a4] (rI D cy lay Γ σ sz)) (va_Qi post (rO D cy lay Γ) (rA cy lay Γ sz)) 0 0 (rA cy lay Γ sz) := by
  refine rg_ofW (cc := cX11_song) (maxL := 6) (ret := some .int) (own := RX11) (Qc := fun sz => va_Qi post (rO D cy lay Γ) (rA cy lay Γ sz)) (by decide) rfl (Nat.le_of_ble_eq_true rfl) rfl ?_
  intro p e s m args below meth c ls hC hr hlocks hT G hl
  unfold w_X11_song at h
  have hl : lv_has ls 6 [(0, .ref (lay 0)), (1, .int a1), (2, .int a2), (3, .int a3), (4, .int a4)] := hl
  refine lv_aload_n hC.1 hC.2.1 dX11_song_0 rfl (lv_at hl 0 rfl) ?_
  refine lv_iconst (v := 0) hC.1 hC.2.1 dX11_song_1 (by decide) ?_
  refine rg_put hC hT G (by decide) r_mo k_X11 i_X11_song_X11 0 (by decide) (wm 1 rfl) rfl rfl (by simp) r_mo (by rw [up2_eq]; rfl) dX11_song_2 (fun H locs G => ?_)
  refine lv_iload_n hC.1 hC.2.1 dX11_song_5 rfl (lv_at hl 1 rfl) ?_
  refine lv_iconst (v := 0) hC.1 hC.2.1 dX11_song_6 (by decide) ?_
  refine lv_bipush (v := 15) hC.1 hC.2.1 dX11_song_7 (by decide) ?_
  refine rg_i G (rg_runS (As := [.int a1, .int 0, .int 15]) (rest := []) hC hT G (c_X11_is l D cy lay Γ h _) (va_cwS 3 hC.2.2.2.2 gX11_song_X11_is rfl rfl rfl hdS_X11_is ⟨Nat.le_of_ble_eq_true rfl, Nat.le_of_ble_eq_true rfl⟩) rfl hl.1 rfl (Nat.le_of_ble_eq_true rfl) dX11_song_9 ⟨Nat.le_of_ble_eq_true rfl, Nat.le_of_ble_eq_true rfl⟩) (fun r2 σ1 H locs h G => ?_)
  (try dsimp only at h)
  refine lv_if_ne (tgt := 21) hC.1 hC.2.1 dX11_song_12 (by decide) (fun c3 => ?_) (fun c3 => ?_)
  · replace h := h.2 c3
    refine lv_iload_n hC.1 hC.2.1 dX11_song_21 rfl (lv_at hl 2 rfl) ?_
    refine lv_iconst (v := 0) hC.1 hC.2.1 dX11_song_22 (by decide) ?_
    refine lv_bipush (v := 11) hC.1 hC.2.1 dX11_song_23 (by decide) ?_
    refine rg_i G (rg_runS (As := [.int a2, .int 0, .int 11]) (rest := []) hC hT G (c_X11_is l D cy lay Γ h _) (va_cwS 3 hC.2.2.2.2 gX11_song_X11_is rfl rfl rfl hdS_X11_is ⟨Nat.le_of_ble_eq_true rfl, Nat.le_of_ble_eq_true rfl⟩) rfl hl.1 rfl (Nat.le_of_ble_eq_true rfl) dX11_song_25 ⟨Nat.le_of_ble_eq_true rfl, Nat.le_of_ble_eq_true rfl⟩) (fun r5 σ4 H locs h G => ?_)
    (try dsimp only at h)
    refine lv_if_eq (tgt := 52) hC.1 hC.2.1 dX11_song_28 (by decide) (fun c6 => ?_) (fun c6 => ?_)
    · replace h := h.1 c6
      exact l_X11_song_52 a1 a2 a3 a4 hC hr hlocks hT _ h _ _ _ G (lv_sub hl [0, 1, 2, 3, 4] rfl)
    · replace h := h.2 c6
      refine lv_iload_n hC.1 hC.2.1 dX11_song_31 rfl (lv_at hl 3 rfl) ?_
      refine lv_iconst (v := 0) hC.1 hC.2.1 dX11_song_32 (by decide) ?_
      refine lv_bipush (v := 9) hC.1 hC.2.1 dX11_song_33 (by decide) ?_
      refine rg_i G (rg_runS (As := [.int a3, .int 0, .int 9]) (rest := []) hC hT G (c_X11_is l D cy lay Γ h _) (va_cwS 3 hC.2.2.2.2 gX11_song_X11_is rfl rfl rfl hdS_X11_is ⟨Nat.le_of_ble_eq_true rfl, Nat.le_of_ble_eq_true rfl⟩) rfl hl.1 rfl (Nat.le_of_ble_eq_true rfl) dX11_song_35 ⟨Nat.le_of_ble_eq_true rfl, Nat.le_of_ble_eq_true rfl⟩) (fun r10 σ9 H locs h G => ?_)
      (try dsimp only at h)
      refine lv_if_eq (tgt := 52) hC.1 hC.2.1 dX11_song_38 (by decide) (fun c11 => ?_) (fun c11 => ?_)
      · replace h := h.1 c11
        exact l_X11_song_52 a1 a2 a3 a4 hC hr hlocks hT _ h _ _ _ G (lv_sub hl [0, 1, 2, 3, 4] rfl)
      · replace h := h.2 c11
        refine lv_iload hC.1 hC.2.1 dX11_song_41 (lv_at hl 4 rfl) ?_
        refine lv_iconst (v := 2) hC.1 hC.2.1 dX11_song_43 (by decide) ?_
        refine lv_bipush (v := 9) hC.1 hC.2.1 dX11_song_44 (by decide) ?_
        refine rg_i G (rg_runS (As := [.int a4, .int 2, .int 9]) (rest := []) hC hT G (c_X11_is l D cy lay Γ h _) (va_cwS 3 hC.2.2.2.2 gX11_song_X11_is rfl rfl rfl hdS_X11_is ⟨Nat.le_of_ble_eq_true rfl, Nat.le_of_ble_eq_true rfl⟩) rfl hl.1 rfl (Nat.le_of_ble_eq_true rfl) dX11_song_46 ⟨Nat.le_of_ble_eq_true rfl, Nat.le_of_ble_eq_true rfl⟩) (fun r13 σ12 H locs h G => ?_)
        (try dsimp only at h)
        refine lv_if_ne (tgt := 58) hC.1 hC.2.1 dX11_song_49 (by decide) (fun c14 => ?_) (fun c14 => ?_)
        · replace h := h.2 c14
          refine lv_aload_n hC.1 hC.2.1 dX11_song_58 rfl (lv_at hl 0 rfl) ?_
          refine rg_get hC hT G (by decide) r_mo k_X11 i_X11_song_X11 8 (by decide) (wm 2 rfl) rfl dX11_song_59 ?_
          refine lv_iload_n hC.1 hC.2.1 dX11_song_62 rfl (lv_at hl 1 rfl) ?_
          obtain ⟨hn15, h⟩ := h
          refine rg_iald hC hT G (by decide) r_mi hn15 dX11_song_63 ?_
          refine lv_istore (lv' := [(5, .int (σ12 9 (Int32.toNatClampNeg a1))), (0, .ref (lay 0)), (1, .int a1), (2, .int a2), (3, .int a3), (4, .int a4)]) hC.1 hC.2.1 dX11_song_64 hl (by decide) rfl (fun ls hl => ?_)
          refine lv_aload_n hC.1 hC.2.1 dX11_song_66 rfl (lv_at hl 1 rfl) ?_
          refine rg_get hC hT G (by decide) r_mo k_X11 i_X11_song_X11 6 (by decide) (wm 3 rfl) rfl dX11_song_67 ?_
          refine lv_iload_n hC.1 hC.2.1 dX11_song_70 rfl (lv_at hl 2 rfl) ?_
          refine lv_iload_n hC.1 hC.2.1 dX11_song_71 rfl (lv_at hl 3 rfl) ?_
          obtain ⟨hn16, h⟩ := h
          refine rg_iast hC hT G (by decide) (fun _ => r_ky) hn16 dX11_song_72 (fun H locs G => ?_)
          refine lv_aload_n hC.1 hC.2.1 dX11_song_73 rfl (lv_at hl 1 rfl) ?_
          refine rg_get hC hT G (by decide) r_mo k_X11 i_X11_song_X11 7 (by decide) (wm 4 rfl) rfl dX11_song_74 ?_
          refine lv_iload_n hC.1 hC.2.1 dX11_song_77 rfl (lv_at hl 2 rfl) ?_
          refine lv_iload_n hC.1 hC.2.1 dX11_song_78 rfl (lv_at hl 4 rfl) ?_
          obtain ⟨hn17, h⟩ := h
          refine rg_iast hC hT G (by decide) (fun _ => r_en) hn17 dX11_song_79 (fun H locs G => ?_)
          refine lv_aload_n hC.1 hC.2.1 dX11_song_80 rfl (lv_at hl 1 rfl) ?_
          refine rg_get hC hT G (by decide) r_mo k_X11 i_X11_song_X11 8 (by decide) (wm 2 rfl) rfl dX11_song_81 ?_
          refine lv_iload_n hC.1 hC.2.1 dX11_song_84 rfl (lv_at hl 2 rfl) ?_
          refine lv_iload hC.1 hC.2.1 dX11_song_85 (lv_at hl 5 rfl) ?_
          obtain ⟨hn18, h⟩ := h
          refine rg_iast hC hT G (by decide) (fun _ => r_mi) hn18 dX11_song_87 (fun H locs G => ?_)
          refine lv_iload hC.1 hC.2.1 dX11_song_88 (lv_at hl 0 rfl) ?_
          exact rg_iret hC hr hlocks G h dX11_song_90
        · replace h := h.1 c14
          exact l_X11_song_52 a1 a2 a3 a4 hC hr hlocks hT _ h _ _ _ G (lv_sub hl [0, 1, 2, 3, 4] rfl)
  · replace h := h.1 c3
    refine lv_aload_n hC.1 hC.2.1 dX11_song_15 rfl (lv_at hl 0 rfl) ?_
    refine lv_iconst (v := 1) hC.1 hC.2.1 dX11_song_16 (by decide) ?_
    refine rg_i G (rg_runV (As := [.int 1]) (rest := []) hC hT G (c_X11_refuse l D cy lay Γ h _) (cwV 1 hC.2.2.2.2 gX11_song_X11_refuse rfl rfl rfl hdV_X11_refuse ⟨Nat.le_of_ble_eq_true rfl, Nat.le_of_ble_eq_true rfl⟩) (rg_recv hT G (by decide) r_mo k_X11) rfl hl.1 rfl (Nat.le_of_ble_eq_true rfl) dX11_song_17 ⟨Nat.le_of_ble_eq_true rfl, Nat.le_of_ble_eq_true rfl⟩) (fun r20 σ19 H locs h G => ?_)
    (try dsimp only at h)
    exact rg_iret hC hr hlocks G h dX11_song_20
theorem hdV_X11_song : yX11_song.cls = RX11 ∧ yX11_song.cls ≠ "java/lang/invoke/MethodHandle" ∧ yX11_song.cls ≠ "java/lang/invoke/VarHandle" ∧ (parseMethodDescriptor yX11_song.desc).map (fun d => d.parameters.length) = some 4 := by decide +kernel
abbrev rm_X11_feud : Room := { frames := 3, cells := 0, slots := 0, locals := 64 }
theorem i_X11_feud_X11 : ∀ w ∈ wsX110, w ∈ wsX11_feud := fun _ h => List.mem_cons_of_mem _ (List.mem_append_left _ (List.mem_append_left _ (List.mem_append_right _ h)))
theorem i_X11_feud_X9 : ∀ w ∈ wsX90, w ∈ wsX11_feud := fun _ h => List.mem_cons_of_mem _ (List.mem_append_left _ (List.mem_append_right _ h))
def u_X11_feud_109 (Γ : RG) (post : Int32 → MS → Prop) (a1 : Int32) (a2 : Int32) (a3 : Int32) (σ : MS) (v5 : Nat) (v6 : Int32) (t0 : Int32) (t1 : Nat) : Prop := ((a3 = 0 → (narrow .boolean (.int v6) = .int v6 ∧ post v6 (up2 (up2 σ (13 + t1) 4 t0) (13 + v5) 4 (((up2 σ (13 + t1) 4 t0) (13 + v5) 4) &&& ((1 <<< (a1 &&& 31)) ^^^ (-1)))))) ∧ (¬ a3 = 0 → (narrow .boolean (.int v6) = .int v6 ∧ post v6 (up2 (up2 σ (13 + t1) 4 t0) (13 + v5) 4 (((up2 σ (13 + t1) 4 t0) (13 + v5) 4) ||| (1 <<< (a1 &&& 31)))))))
set_option maxHeartbeats 4000000 in
set_option maxRecDepth 100000 in
theorem l_X11_feud_109 {p : Program} {l : Launch} {e : Env} {s : State} {m : MethodId} {args : Array Value} {below : List Frame} {meth : Method} {c : Code} {D : va_G} {cy : Nat → ClassId} {lay : Nat → Nat} {Γ : RG} {post : Int32 → MS → Prop} (a1 : Int32) (a2 : Int32) (a3 : Int32) (hC : CallFix p m c cX11_feud 7 s args wsX11_feud RX11) (hr : meth.sig.returnType = some .boolean) (hlocks : meth.locks = false) (hT : rT D cy lay Γ s) : ∀ (σ : MS) (v5 : Nat) (v6 : Int32) (t0 : Int32) (t1 : Nat), u_X11_feud_109 Γ post a1 a2 a3 σ v5 v6 t0 t1 → ∀ (hv5 : v5 < 10 ∧ v5 < Γ.1) (ht1 : t1 < 10 ∧ t1 < Γ.1), ∀ (H : Heap) (locs : List Loc) (ls : Array Slot), rG D cy lay Γ tn σ (rA cy lay Γ s.heap.size) s.heap H locs → lv_has ls 7 [(0, .ref (lay 0)), (1, .int a1), (2, .int a2), (3, .int a3), (5, .ref (lay (13 + v5))), (6, .int v6)] → W p l e rm_X11_feud s m args below meth c H locs 0 0 (MQ below (va_Qi post (rO D cy lay Γ) (rA cy lay Γ s.heap.size)) args s 0 0 (rA cy lay Γ s.heap.size)) (F0 m 109 ls [.int t0, .ref (lay (13 + t1))]) := by
  intro σ v5 v6 t0 t1 h hv5 ht1 H locs ls G hl
  unfold u_X11_feud_109 at h
  refine rg_putN hC hT G (rk_pl ht1) (r_pl ht1) k_X9 i_X11_feud_X9 4 (by decide) 6 rfl rfl rfl (by simp) (r_pl ht1) (by rw [up2_eq]; rfl) dX11_feud_109 (fun H locs G => ?_)
  refine lv_aload hC.1 hC.2.1 dX11_feud_112 (lv_at hl 4 rfl) ?_
  refine lv_iload_n hC.1 hC.2.1 dX11_feud_114 rfl (lv_at hl 3 rfl) ?_
  refine lv_if_eq (tgt := 130) hC.1 hC.2.1 dX11_feud_115 (by decide) (fun c14 => ?_) (fun c14 => ?_)
  · replace h := h.1 c14
    refine lv_aload hC.1 hC.2.1 dX11_feud_130 (lv_at hl 4 rfl) ?_
    refine rg_getN hC hT G (rk_pl hv5) (r_pl hv5) k_X9 i_X11_feud_X9 4 (by decide) 6 rfl rfl dX11_feud_132 ?_
    refine lv_iconst (v := 1) hC.1 hC.2.1 dX11_feud_135 (by decide) ?_
    refine lv_iload_n hC.1 hC.2.1 dX11_feud_136 rfl (lv_at hl 1 rfl) ?_
    refine lv_ishl hC.1 hC.2.1 dX11_feud_137 ?_
    refine lv_iconst (v := (-1)) hC.1 hC.2.1 dX11_feud_138 (by decide) ?_
    refine lv_ixor hC.1 hC.2.1 dX11_feud_139 ?_
    refine lv_iand hC.1 hC.2.1 dX11_feud_140 ?_
    refine rg_putN hC hT G (rk_pl hv5) (r_pl hv5) k_X9 i_X11_feud_X9 4 (by decide) 6 rfl rfl rfl (by simp) (r_pl hv5) (by rw [up2_eq]; rfl) dX11_feud_141 (fun H locs G => ?_)
    refine lv_iload hC.1 hC.2.1 dX11_feud_144 (lv_at hl 5 rfl) ?_
    exact rg_zret hC hr hlocks G h.1 h.2 dX11_feud_146
  · replace h := h.2 c14
    refine lv_aload hC.1 hC.2.1 dX11_feud_118 (lv_at hl 4 rfl) ?_
    refine rg_getN hC hT G (rk_pl hv5) (r_pl hv5) k_X9 i_X11_feud_X9 4 (by decide) 6 rfl rfl dX11_feud_120 ?_
    refine lv_iconst (v := 1) hC.1 hC.2.1 dX11_feud_123 (by decide) ?_
    refine lv_iload_n hC.1 hC.2.1 dX11_feud_124 rfl (lv_at hl 1 rfl) ?_
    refine lv_ishl hC.1 hC.2.1 dX11_feud_125 ?_
    refine lv_ior hC.1 hC.2.1 dX11_feud_126 ?_
    refine lv_goto (tgt := 141) hC.1 hC.2.1 dX11_feud_127 (by decide) ?_
    refine rg_putN hC hT G (rk_pl hv5) (r_pl hv5) k_X9 i_X11_feud_X9 4 (by decide) 6 rfl rfl rfl (by simp) (r_pl hv5) (by rw [up2_eq]; rfl) dX11_feud_141 (fun H locs G => ?_)
    refine lv_iload hC.1 hC.2.1 dX11_feud_144 (lv_at hl 5 rfl) ?_
    exact rg_zret hC hr hlocks G h.1 h.2 dX11_feud_146
def u_X11_feud_31 (Γ : RG) (post : Int32 → MS → Prop) (a1 : Int32) (a2 : Int32) (a3 : Int32) (σ : MS) (t0 : Int32) : Prop := ((((up2 σ 0 0 t0) 0 0) ≤ 0 → w_lp_Jx4a65c_get_915e3 Γ (fun j6 σ5 => ((j6 < 10 ∧ j6 < Γ.1) ∧ w_lp_Jx4a65c_get_915e3 Γ (fun j9 σ8 => ((j9 < 10 ∧ j9 < Γ.1) ∧ w_X11_isIn Γ (fun r12 σ11 => ((a3 = 0 → u_X11_feud_109 Γ post a1 a2 a3 σ11 j9 r12 ((σ11 (13 + j6) 4) &&& ((1 <<< (a2 &&& 31)) ^^^ (-1))) j6) ∧ (¬ a3 = 0 → u_X11_feud_109 Γ post a1 a2 a3 σ11 j9 r12 ((σ11 (13 + j6) 4) ||| (1 <<< (a2 &&& 31))) j6))) σ8 (σ8 (13 + j6) 4) a2)) σ5 a2)) (up2 σ 0 0 t0) a1) ∧ (¬ ((up2 σ 0 0 t0) 0 0) ≤ 0 → post 0 (up2 σ 0 0 t0)))
set_option maxHeartbeats 4000000 in
set_option maxRecDepth 100000 in
theorem l_X11_feud_31 {p : Program} {l : Launch} {e : Env} {s : State} {m : MethodId} {args : Array Value} {below : List Frame} {meth : Method} {c : Code} {D : va_G} {cy : Nat → ClassId} {lay : Nat → Nat} {Γ : RG} {post : Int32 → MS → Prop} (a1 : Int32) (a2 : Int32) (a3 : Int32) (hC : CallFix p m c cX11_feud 7 s args wsX11_feud RX11) (hr : meth.sig.returnType = some .boolean) (hlocks : meth.locks = false) (hT : rT D cy lay Γ s) : ∀ (σ : MS) (t0 : Int32), u_X11_feud_31 Γ post a1 a2 a3 σ t0 → ∀ (H : Heap) (locs : List Loc) (ls : Array Slot), rG D cy lay Γ tn σ (rA cy lay Γ s.heap.size) s.heap H locs → lv_has ls 7 [(0, .ref (lay 0)), (1, .int a1), (2, .int a2), (3, .int a3)] → W p l e rm_X11_feud s m args below meth c H locs 0 0 (MQ below (va_Qi post (rO D cy lay Γ) (rA cy lay Γ s.heap.size)) args s 0 0 (rA cy lay Γ s.heap.size)) (F0 m 31 ls [.int t0, .ref (lay 0)]) := by
  intro σ t0 h H locs ls G hl
  unfold u_X11_feud_31 at h
  refine rg_put hC hT G (by decide) r_mo k_X11 i_X11_feud_X11 0 (by decide) (wm 1 rfl) rfl rfl (by simp) r_mo (by rw [up2_eq]; rfl) dX11_feud_31 (fun H locs G => ?_)
  refine lv_aload_n hC.1 hC.2.1 dX11_feud_34 rfl (lv_at hl 0 rfl) ?_
  refine rg_get hC hT G (by decide) r_mo k_X11 i_X11_feud_X11 0 (by decide) (wm 1 rfl) rfl dX11_feud_35 ?_
  refine lv_if_le (tgt := 43) hC.1 hC.2.1 dX11_feud_38 (by decide) (fun c4 => ?_) (fun c4 => ?_)
  · replace h := h.1 c4
    refine lv_aload_n hC.1 hC.2.1 dX11_feud_43 rfl (lv_at hl 0 rfl) ?_
    refine rg_get hC hT G (by decide) r_mo k_X11 i_X11_feud_X11 3 (by decide) (wm 2 rfl) rfl dX11_feud_44 ?_
    refine lv_iload_n hC.1 hC.2.1 dX11_feud_47 rfl (lv_at hl 1 rfl) ?_
    refine rg_r (f := fun i => lay (13 + i)) G (rg_runV (As := [.int a1]) (rest := []) hC hT G (c_lp_Jx4a65c_get_915e3 l D cy lay Γ h _) (cwV 1 hC.2.2.2.2 gX11_feud_Jx4a65c_get_915e3 rfl rfl rfl hdV_Jx4a65c_get_915e3 ⟨Nat.le_of_ble_eq_true rfl, Nat.le_of_ble_eq_true rfl⟩) (rg_recv hT G (by decide) r_lp k_AL) rfl hl.1 rfl (Nat.le_of_ble_eq_true rfl) dX11_feud_48 ⟨Nat.le_of_ble_eq_true rfl, Nat.le_of_ble_eq_true rfl⟩) (fun j6 σ5 H locs h G => ?_)
    (try dsimp only at h)
    obtain ⟨hj7, h⟩ := h
    refine rg_cast hC hT k_X9 (wm 3 rfl) (rg_recv hT G (rk_pl hj7) (r_pl hj7) k_X9) dX11_feud_51 ?_
    refine lv_astore (lv' := [(4, .ref (lay (13 + j6))), (0, .ref (lay 0)), (1, .int a1), (2, .int a2), (3, .int a3)]) hC.1 hC.2.1 dX11_feud_54 hl (by decide) rfl (fun ls hl => ?_)
    refine lv_aload_n hC.1 hC.2.1 dX11_feud_56 rfl (lv_at hl 1 rfl) ?_
    refine rg_get hC hT G (by decide) r_mo k_X11 i_X11_feud_X11 3 (by decide) (wm 2 rfl) rfl dX11_feud_57 ?_
    refine lv_iload_n hC.1 hC.2.1 dX11_feud_60 rfl (lv_at hl 3 rfl) ?_
    refine rg_r (f := fun i => lay (13 + i)) G (rg_runV (As := [.int a2]) (rest := []) hC hT G (c_lp_Jx4a65c_get_915e3 l D cy lay Γ h _) (cwV 1 hC.2.2.2.2 gX11_feud_Jx4a65c_get_915e3 rfl rfl rfl hdV_Jx4a65c_get_915e3 ⟨Nat.le_of_ble_eq_true rfl, Nat.le_of_ble_eq_true rfl⟩) (rg_recv hT G (by decide) r_lp k_AL) rfl hl.1 rfl (Nat.le_of_ble_eq_true rfl) dX11_feud_61 ⟨Nat.le_of_ble_eq_true rfl, Nat.le_of_ble_eq_true rfl⟩) (fun j9 σ8 H locs h G => ?_)
    (try dsimp only at h)
    obtain ⟨hj10, h⟩ := h
    refine rg_cast hC hT k_X9 (wm 3 rfl) (rg_recv hT G (rk_pl hj10) (r_pl hj10) k_X9) dX11_feud_64 ?_
    refine lv_astore (lv' := [(5, .ref (lay (13 + j9))), (4, .ref (lay (13 + j6))), (0, .ref (lay 0)), (1, .int a1), (2, .int a2), (3, .int a3)]) hC.1 hC.2.1 dX11_feud_67 hl (by decide) rfl (fun ls hl => ?_)
    refine lv_aload hC.1 hC.2.1 dX11_feud_69 (lv_at hl 1 rfl) ?_
    refine rg_getN hC hT G (rk_pl hj7) (r_pl hj7) k_X9 i_X11_feud_X9 4 (by decide) 6 rfl rfl dX11_feud_71 ?_
    refine lv_iload_n hC.1 hC.2.1 dX11_feud_74 rfl (lv_at hl 4 rfl) ?_
    refine rg_i G (rg_runS (As := [.int (σ8 (13 + j6) 4), .int a2]) (rest := []) hC hT G (c_X11_isIn l D cy lay Γ h _) (va_cwS 2 hC.2.2.2.2 gX11_feud_X11_isIn rfl rfl rfl hdS_X11_isIn ⟨Nat.le_of_ble_eq_true rfl, Nat.le_of_ble_eq_true rfl⟩) rfl hl.1 rfl (Nat.le_of_ble_eq_true rfl) dX11_feud_75 ⟨Nat.le_of_ble_eq_true rfl, Nat.le_of_ble_eq_true rfl⟩) (fun r12 σ11 H locs h G => ?_)
    (try dsimp only at h)
    refine lv_istore (lv' := [(6, .int r12), (5, .ref (lay (13 + j9))), (4, .ref (lay (13 + j6))), (0, .ref (lay 0)), (1, .int a1), (2, .int a2), (3, .int a3)]) hC.1 hC.2.1 dX11_feud_78 hl (by decide) rfl (fun ls hl => ?_)
    refine lv_aload hC.1 hC.2.1 dX11_feud_80 (lv_at hl 2 rfl) ?_
    refine lv_iload_n hC.1 hC.2.1 dX11_feud_82 rfl (lv_at hl 6 rfl) ?_
    refine lv_if_eq (tgt := 98) hC.1 hC.2.1 dX11_feud_83 (by decide) (fun c13 => ?_) (fun c13 => ?_)
    · replace h := h.1 c13
      refine lv_aload hC.1 hC.2.1 dX11_feud_98 (lv_at hl 2 rfl) ?_
      refine rg_getN hC hT G (rk_pl hj7) (r_pl hj7) k_X9 i_X11_feud_X9 4 (by decide) 6 rfl rfl dX11_feud_100 ?_
      refine lv_iconst (v := 1) hC.1 hC.2.1 dX11_feud_103 (by decide) ?_
      refine lv_iload_n hC.1 hC.2.1 dX11_feud_104 rfl (lv_at hl 5 rfl) ?_
      refine lv_ishl hC.1 hC.2.1 dX11_feud_105 ?_
      refine lv_iconst (v := (-1)) hC.1 hC.2.1 dX11_feud_106 (by decide) ?_
      refine lv_ixor hC.1 hC.2.1 dX11_feud_107 ?_
      refine lv_iand hC.1 hC.2.1 dX11_feud_108 ?_
      exact l_X11_feud_109 a1 a2 a3 hC hr hlocks hT _ _ _ _ _ h hj10 hj7 _ _ _ G (lv_sub hl [3, 4, 5, 6, 1, 0] rfl)
    · replace h := h.2 c13
      refine lv_aload hC.1 hC.2.1 dX11_feud_86 (lv_at hl 2 rfl) ?_
      refine rg_getN hC hT G (rk_pl hj7) (r_pl hj7) k_X9 i_X11_feud_X9 4 (by decide) 6 rfl rfl dX11_feud_88 ?_
      refine lv_iconst (v := 1) hC.1 hC.2.1 dX11_feud_91 (by decide) ?_
      refine lv_iload_n hC.1 hC.2.1 dX11_feud_92 rfl (lv_at hl 5 rfl) ?_
      refine lv_ishl hC.1 hC.2.1 dX11_feud_93 ?_
      refine lv_ior hC.1 hC.2.1 dX11_feud_94 ?_
      refine lv_goto (tgt := 109) hC.1 hC.2.1 dX11_feud_95 (by decide) ?_
      exact l_X11_feud_109 a1 a2 a3 hC hr hlocks hT _ _ _ _ _ h hj10 hj7 _ _ _ G (lv_sub hl [3, 4, 5, 6, 1, 0] rfl)
  · replace h := h.2 c4
    refine lv_iconst (v := 0) hC.1 hC.2.1 dX11_feud_41 (by decide) ?_
    exact rg_zret hC hr hlocks G rfl h dX11_feud_42
def u_X11_feud_17 (Γ : RG) (post : Int32 → MS → Prop) (a1 : Int32) (a2 : Int32) (a3 : Int32) (σ : MS) : Prop := u_X11_feud_31 Γ post a1 a2 a3 σ 1
set_option maxHeartbeats 4000000 in
set_option maxRecDepth 100000 in
theorem l_X11_feud_17 {p : Program} {l : Launch} {e : Env} {s : State} {m : MethodId} {args : Array Value} {below : List Frame} {meth : Method} {c : Code} {D : va_G} {cy : Nat → ClassId} {lay : Nat → Nat} {Γ : RG} {post : Int32 → MS → Prop} (a1 : Int32) (a2 : Int32) (a3 : Int32) (hC : CallFix p m c cX11_feud 7 s args wsX11_feud RX11) (hr : meth.sig.returnType = some .boolean) (hlocks : meth.locks = false) (hT : rT D cy lay Γ s) : ∀ (σ : MS), u_X11_feud_17 Γ post a1 a2 a3 σ → ∀ (H : Heap) (locs : List Loc) (ls : Array Slot), rG D cy lay Γ tn σ (rA cy lay Γ s.heap.size) s.heap H locs → lv_has ls 7 [(0, .ref (lay 0)), (1, .int a1), (2, .int a2), (3, .int a3)] → W p l e rm_X11_feud s m args below meth c H locs 0 0 (MQ below (va_Qi post (rO D cy lay Γ) (rA cy lay Γ s.heap.size)) args s 0 0 (rA cy lay Γ s.heap.size)) (F0 m 17 ls [.ref (lay 0)]) := by
  intro σ h H locs ls G hl
  unfold u_X11_feud_17 at h
  refine lv_iconst (v := 1) hC.1 hC.2.1 dX11_feud_17 (by decide) ?_
  refine lv_goto (tgt := 31) hC.1 hC.2.1 dX11_feud_18 (by decide) ?_
  exact l_X11_feud_31 a1 a2 a3 hC hr hlocks hT _ _ h _ _ _ G (lv_sub hl [0, 1, 2, 3] rfl)
def w_X11_feud (Γ : RG) (post : Int32 → MS → Prop) (σ : MS) (a1 : Int32) (a2 : Int32) (a3 : Int32) : Prop := w_X11_isPlayer Γ (fun r2 σ1 => ((r2 = 0 → u_X11_feud_17 Γ post a1 a2 a3 σ1) ∧ (¬ r2 = 0 → w_X11_isPlayer Γ (fun r16 σ15 => ((r16 = 0 → u_X11_feud_17 Γ post a1 a2 a3 σ15) ∧ (¬ r16 = 0 → ((a1 = a2 → u_X11_feud_31 Γ post a1 a2 a3 σ15 2) ∧ (¬ a1 = a2 → u_X11_feud_31 Γ post a1 a2 a3 σ15 0))))) σ1 a2))) σ a1
set_option maxHeartbeats 4000000 in
set_option maxRecDepth 100000 in
theorem c_X11_feud (l : Launch) (D : va_G) (cy : Nat → ClassId) (lay : Nat → Nat) (Γ : RG) {σ : MS} {post : Int32 → MS → Prop} {a1 : Int32} {a2 : Int32} {a3 : Int32} (h : w_X11_feud Γ post σ a1 a2 a3) (sz : Nat) : Met l yX11_feud wsX11_feud rm_X11_feud (va_Pc [.ref (lay 0), .int a1, .int a2, .int a3] (rI D cy lay Γ σ sz)) (va_Qi post (rO D cy lay Γ) (rA cy lay Γ sz)) 0 0 (rA cy lay Γ sz) := by
  refine rg_ofW (cc := cX11_feud) (maxL := 7) (ret := some .boolean) (own := RX11) (Qc := fun sz => va_Qi post (rO D cy lay Γ) (rA cy lay Γ sz)) (by decide) rfl (Nat.le_of_ble_eq_true rfl) rfl ?_
  intro p e s m args below meth c ls hC hr hlocks hT G hl
  unfold w_X11_feud at h
  have hl : lv_has ls 7 [(0, .ref (lay 0)), (1, .int a1), (2, .int a2), (3, .int a3)] := hl
  refine lv_aload_n hC.1 hC.2.1 dX11_feud_0 rfl (lv_at hl 0 rfl) ?_
  refine lv_aload_n hC.1 hC.2.1 dX11_feud_1 rfl (lv_at hl 0 rfl) ?_
  refine lv_iload_n hC.1 hC.2.1 dX11_feud_2 rfl (lv_at hl 1 rfl) ?_
  refine rg_i G (rg_runV (As := [.int a1]) (rest := [.ref (lay 0)]) hC hT G (c_X11_isPlayer l D cy lay Γ h _) (cwV 1 hC.2.2.2.2 gX11_feud_X11_isPlayer rfl rfl rfl hdV_X11_isPlayer ⟨Nat.le_of_ble_eq_true rfl, Nat.le_of_ble_eq_true rfl⟩) (rg_recv hT G (by decide) r_mo k_X11) rfl hl.1 rfl (Nat.le_of_ble_eq_true rfl) dX11_feud_3 ⟨Nat.le_of_ble_eq_true rfl, Nat.le_of_ble_eq_true rfl⟩) (fun r2 σ1 H locs h G => ?_)
  (try dsimp only at h)
  refine lv_if_eq (tgt := 17) hC.1 hC.2.1 dX11_feud_6 (by decide) (fun c3 => ?_) (fun c3 => ?_)
  · replace h := h.1 c3
    exact l_X11_feud_17 a1 a2 a3 hC hr hlocks hT _ h _ _ _ G (lv_sub hl [0, 1, 2, 3] rfl)
  · replace h := h.2 c3
    refine lv_aload_n hC.1 hC.2.1 dX11_feud_9 rfl (lv_at hl 0 rfl) ?_
    refine lv_iload_n hC.1 hC.2.1 dX11_feud_10 rfl (lv_at hl 2 rfl) ?_
    refine rg_i G (rg_runV (As := [.int a2]) (rest := [.ref (lay 0)]) hC hT G (c_X11_isPlayer l D cy lay Γ h _) (cwV 1 hC.2.2.2.2 gX11_feud_X11_isPlayer rfl rfl rfl hdV_X11_isPlayer ⟨Nat.le_of_ble_eq_true rfl, Nat.le_of_ble_eq_true rfl⟩) (rg_recv hT G (by decide) r_mo k_X11) rfl hl.1 rfl (Nat.le_of_ble_eq_true rfl) dX11_feud_11 ⟨Nat.le_of_ble_eq_true rfl, Nat.le_of_ble_eq_true rfl⟩) (fun r16 σ15 H locs h G => ?_)
    (try dsimp only at h)
    refine lv_if_ne (tgt := 21) hC.1 hC.2.1 dX11_feud_14 (by decide) (fun c17 => ?_) (fun c17 => ?_)
    · replace h := h.2 c17
      refine lv_iload_n hC.1 hC.2.1 dX11_feud_21 rfl (lv_at hl 1 rfl) ?_
      refine lv_iload_n hC.1 hC.2.1 dX11_feud_22 rfl (lv_at hl 2 rfl) ?_
      refine lv_icmp_ne (tgt := 30) hC.1 hC.2.1 dX11_feud_23 (by decide) (fun c18 => ?_) (fun c18 => ?_)
      · replace h := h.2 c18
        refine lv_iconst (v := 0) hC.1 hC.2.1 dX11_feud_30 (by decide) ?_
        exact l_X11_feud_31 a1 a2 a3 hC hr hlocks hT _ _ h _ _ _ G (lv_sub hl [0, 1, 2, 3] rfl)
      · replace h := h.1 c18
        refine lv_iconst (v := 2) hC.1 hC.2.1 dX11_feud_26 (by decide) ?_
        refine lv_goto (tgt := 31) hC.1 hC.2.1 dX11_feud_27 (by decide) ?_
        exact l_X11_feud_31 a1 a2 a3 hC hr hlocks hT _ _ h _ _ _ G (lv_sub hl [0, 1, 2, 3] rfl)
    · replace h := h.1 c17
      exact l_X11_feud_17 a1 a2 a3 hC hr hlocks hT _ h _ _ _ G (lv_sub hl [0, 1, 2, 3] rfl)
theorem hdV_X11_feud : yX11_feud.cls = RX11 ∧ yX11_feud.cls ≠ "java/lang/invoke/MethodHandle" ∧ yX11_feud.cls ≠ "java/lang/invoke/VarHandle" ∧ (parseMethodDescriptor yX11_feud.desc).map (fun d => d.parameters.length) = some 3 := by decide +kernel
