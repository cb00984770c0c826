abbrev rm_X11_drive_ : Room := { frames := 2, cells := 0, slots := 0, locals := 42 }
theorem i_X11_drive__X11 : ∀ w ∈ wsX110, w ∈ wsX11_drive_ := fun _ h => List.mem_cons_of_mem _ (List.mem_append_right _ h)
def u_X11_drive__28 (Γ : RG) (post : Int32 → MS → Prop) (a1 : Int32) (a2 : Int32) (σ : MS) : Prop := w_X11_refuse Γ (fun r5 σ4 => post r5 σ4) σ 1
set_option maxHeartbeats 4000000 in
set_option maxRecDepth 100000 in
theorem l_X11_drive__28 {p : Program} {l : Launch} {e : Env} {s : State} {m : MethodId} {args : Array Value} {below : List Frame} {meth : Method} {c : Code} {D : va_G} {cy : Nat → ClassId} {lay : Nat → Nat} {Γ : RG} {post : Int32 → MS → Prop} (a1 : Int32) (a2 : Int32) (hC : CallFix p m c cX11_drive_ 3 s args wsX11_drive_ RX11) (hr : meth.sig.returnType = some .int) (hlocks : meth.locks = false) (hT : rT D cy lay Γ s) : ∀ (σ : MS), u_X11_drive__28 Γ post a1 a2 σ → ∀ (H : Heap) (locs : List Loc) (ls : Array Slot), rG D cy lay Γ tn σ (rA cy lay Γ s.heap.size) s.heap H locs → lv_has ls 3 [(0, .ref (lay 0)), (1, .int a1), (2, .int a2)] → W p l e rm_X11_drive_ s m args below meth c H locs 0 0 (MQ below (va_Qi post (rO D cy lay Γ) (rA cy lay Γ s.heap.size)) args s 0 0 (rA cy lay Γ s.heap.size)) (F0 m 28 ls []) := by
  intro σ h H locs ls G hl
  unfold u_X11_drive__28 at h
  refine lv_aload_n hC.1 hC.2.1 dX11_drive__28 rfl (lv_at hl 0 rfl) ?_
  refine lv_iconst (v := 1) hC.1 hC.2.1 dX11_drive__29 (by decide) ?_
  refine rg_i G (rg_runV (As := [.int 1]) (rest := []) hC hT G (c_X11_refuse l D cy lay Γ h _) (cwV 1 hC.2.2.2.2 gX11_drive__X11_refuse rfl rfl rfl hdV_X11_refuse ⟨Nat.le_of_ble_eq_true rfl, Nat.le_of_ble_eq_true rfl⟩) (rg_recv hT G (by decide) r_mo k_X11) rfl hl.1 rfl (Nat.le_of_ble_eq_true rfl) dX11_drive__30 ⟨Nat.le_of_ble_eq_true rfl, Nat.le_of_ble_eq_true rfl⟩) (fun r5 σ4 H locs h G => ?_)
  (try dsimp only at h)
  exact rg_iret hC hr hlocks G h dX11_drive__33
def w_X11_drive_ (Γ : RG) (post : Int32 → MS → Prop) (σ : MS) (a1 : Int32) (a2 : Int32) : Prop := w_X11_isTown Γ (fun r2 σ1 => ((r2 = 0 → u_X11_drive__28 Γ post a1 a2 σ1) ∧ (¬ r2 = 0 → w_X11_isTown Γ (fun r7 σ6 => ((r7 = 0 → u_X11_drive__28 Γ post a1 a2 σ6) ∧ (¬ r7 = 0 → w_X11_driveOf Γ (fun r10 σ9 => post r10 σ9) σ6 a1 a2))) σ1 a2))) (up2 σ 0 0 0) a1
set_option maxHeartbeats 4000000 in
set_option maxRecDepth 100000 in
theorem c_X11_drive_ (l : Launch) (D : va_G) (cy : Nat → ClassId) (lay : Nat → Nat) (Γ : RG) {σ : MS} {post : Int32 → MS → Prop} {a1 : Int32} {a2 : Int32} (h : w_X11_drive_ Γ post σ a1 a2) (sz : Nat) : Met l yX11_drive_ wsX11_drive_ rm_X11_drive_ (va_Pc [.ref (lay 0), .int a1, .int a2] (rI D cy lay Γ σ sz)) (va_Qi post (rO D cy lay Γ) (rA cy lay Γ sz)) 0 0 (rA cy lay Γ sz) := by
  refine rg_ofW (cc := cX11_drive_) (maxL := 3) (ret := some .int) (own := RX11) (Qc := fun sz => va_Qi post (rO D cy lay Γ) (rA cy lay Γ sz)) (by decide) rfl (Nat.le_of_ble_eq_true rfl) rfl ?_
  intro p e s m args below meth c ls hC hr hlocks hT G hl
  unfold w_X11_drive_ at h
  have hl : lv_has ls 3 [(0, .ref (lay 0)), (1, .int a1), (2, .int a2)] := hl
  refine lv_aload_n hC.1 hC.2.1 dX11_drive__0 rfl (lv_at hl 0 rfl) ?_
  refine lv_iconst (v := 0) hC.1 hC.2.1 dX11_drive__1 (by decide) ?_
  refine rg_put hC hT G (by decide) r_mo k_X11 i_X11_drive__X11 0 (by decide) (wm 1 rfl) rfl rfl (by simp) r_mo (by rw [up2_eq]; rfl) dX11_drive__2 (fun H locs G => ?_)
  refine lv_iload_n hC.1 hC.2.1 dX11_drive__5 rfl (lv_at hl 1 rfl) ?_
  refine rg_i G (rg_runS (As := [.int a1]) (rest := []) hC hT G (c_X11_isTown l D cy lay Γ h _) (va_cwS 1 hC.2.2.2.2 gX11_drive__X11_isTown rfl rfl rfl hdS_X11_isTown ⟨Nat.le_of_ble_eq_true rfl, Nat.le_of_ble_eq_true rfl⟩) rfl hl.1 rfl (Nat.le_of_ble_eq_true rfl) dX11_drive__6 ⟨Nat.le_of_ble_eq_true rfl, Nat.le_of_ble_eq_true rfl⟩) (fun r2 σ1 H locs h G => ?_)
  (try dsimp only at h)
  refine lv_if_eq (tgt := 28) hC.1 hC.2.1 dX11_drive__9 (by decide) (fun c3 => ?_) (fun c3 => ?_)
  · replace h := h.1 c3
    exact l_X11_drive__28 a1 a2 hC hr hlocks hT _ h _ _ _ G (lv_sub hl [0, 1, 2] rfl)
  · replace h := h.2 c3
    refine lv_iload_n hC.1 hC.2.1 dX11_drive__12 rfl (lv_at hl 2 rfl) ?_
    refine rg_i G (rg_runS (As := [.int a2]) (rest := []) hC hT G (c_X11_isTown l D cy lay Γ h _) (va_cwS 1 hC.2.2.2.2 gX11_drive__X11_isTown rfl rfl rfl hdS_X11_isTown ⟨Nat.le_of_ble_eq_true rfl, Nat.le_of_ble_eq_true rfl⟩) rfl hl.1 rfl (Nat.le_of_ble_eq_true rfl) dX11_drive__13 ⟨Nat.le_of_ble_eq_true rfl, Nat.le_of_ble_eq_true rfl⟩) (fun r7 σ6 H locs h G => ?_)
    (try dsimp only at h)
    refine lv_if_eq (tgt := 28) hC.1 hC.2.1 dX11_drive__16 (by decide) (fun c8 => ?_) (fun c8 => ?_)
    · replace h := h.1 c8
      exact l_X11_drive__28 a1 a2 hC hr hlocks hT _ h _ _ _ G (lv_sub hl [0, 1, 2] rfl)
    · replace h := h.2 c8
      refine lv_aload_n hC.1 hC.2.1 dX11_drive__19 rfl (lv_at hl 0 rfl) ?_
      refine lv_iload_n hC.1 hC.2.1 dX11_drive__20 rfl (lv_at hl 1 rfl) ?_
      refine lv_iload_n hC.1 hC.2.1 dX11_drive__21 rfl (lv_at hl 2 rfl) ?_
      refine rg_i G (rg_runV (As := [.int a1, .int a2]) (rest := []) hC hT G (c_X11_driveOf l D cy lay Γ h _) (cwV 2 hC.2.2.2.2 gX11_drive__X11_driveOf rfl rfl rfl hdV_X11_driveOf ⟨Nat.le_of_ble_eq_true rfl, Nat.le_of_ble_eq_true rfl⟩) (rg_recv hT G (by decide) r_mo k_X11) rfl hl.1 rfl (Nat.le_of_ble_eq_true rfl) dX11_drive__22 ⟨Nat.le_of_ble_eq_true rfl, Nat.le_of_ble_eq_true rfl⟩) (fun r10 σ9 H locs h G => ?_)
      (try dsimp only at h)
      refine lv_goto (tgt := 33) hC.1 hC.2.1 dX11_drive__25 (by decide) ?_
      exact rg_iret hC hr hlocks G h dX11_drive__33
theorem hdV_X11_drive_ : yX11_drive_.cls = RX11 ∧ yX11_drive_.cls ≠ "java/lang/invoke/MethodHandle" ∧ yX11_drive_.cls ≠ "java/lang/invoke/VarHandle" ∧ (parseMethodDescriptor yX11_drive_.desc).map (fun d => d.parameters.length) = some 2 := by decide +kernel
abbrev rm_X11_free : Room := { frames := 4, cells := 0, slots := 0, locals := 94 }
theorem i_X11_free_X11 : ∀ w ∈ wsX110, w ∈ wsX11_free := fun _ h => List.mem_cons_of_mem _ (List.mem_append_left _ (List.mem_append_left _ (List.mem_append_left _ (List.mem_append_right _ h))))
def u_X11_free_22 (Γ : RG) (post : Int32 → MS → Prop) (a1 : Int32) (a2 : Int32) (σ : MS) (t0 : Int32) : Prop := ((((up2 σ 0 0 t0) 0 0) = 0 → w_X11_isFree Γ (fun r6 σ5 => ((r6 = 0 → post 0 σ5) ∧ (¬ r6 = 0 → post 1 σ5))) (up2 σ 0 0 t0) a1 a2) ∧ (¬ ((up2 σ 0 0 t0) 0 0) = 0 → post 0 (up2 σ 0 0 t0)))
set_option maxHeartbeats 4000000 in
set_option maxRecDepth 100000 in
theorem l_X11_free_22 {p : Program} {l : Launch} {e : Env} {s : State} {m : MethodId} {args : Array Value} {below : List Frame} {meth : Method} {c : Code} {D : va_G} {cy : Nat → ClassId} {lay : Nat → Nat} {Γ : RG} {post : Int32 → MS → Prop} (a1 : Int32) (a2 : Int32) (hC : CallFix p m c cX11_free 3 s args wsX11_free RX11) (hr : meth.sig.returnType = some .boolean) (hlocks : meth.locks = false) (hT : rT D cy lay Γ s) : ∀ (σ : MS) (t0 : Int32), u_X11_free_22 Γ post a1 a2 σ t0 → ∀ (H : Heap) (locs : List Loc) (ls : Array Slot), rG D cy lay Γ tn σ (rA cy lay Γ s.heap.size) s.heap H locs → lv_has ls 3 [(0, .ref (lay 0)), (1, .int a1), (2, .int a2)] → W p l e rm_X11_free s m args below meth c H locs 0 0 (MQ below (va_Qi post (rO D cy lay Γ) (rA cy lay Γ s.heap.size)) args s 0 0 (rA cy lay Γ s.heap.size)) (F0 m 22 ls [.int t0, .ref (lay 0)]) := by
  intro σ t0 h H locs ls G hl
  unfold u_X11_free_22 at h
  refine rg_put hC hT G (by decide) r_mo k_X11 i_X11_free_X11 0 (by decide) (wm 1 rfl) rfl rfl (by simp) r_mo (by rw [up2_eq]; rfl) dX11_free_22 (fun H locs G => ?_)
  refine lv_aload_n hC.1 hC.2.1 dX11_free_25 rfl (lv_at hl 0 rfl) ?_
  refine rg_get hC hT G (by decide) r_mo k_X11 i_X11_free_X11 0 (by decide) (wm 1 rfl) rfl dX11_free_26 ?_
  refine lv_if_ne (tgt := 45) hC.1 hC.2.1 dX11_free_29 (by decide) (fun c4 => ?_) (fun c4 => ?_)
  · replace h := h.2 c4
    refine lv_iconst (v := 0) hC.1 hC.2.1 dX11_free_45 (by decide) ?_
    exact rg_zret hC hr hlocks G rfl h dX11_free_46
  · replace h := h.1 c4
    refine lv_aload_n hC.1 hC.2.1 dX11_free_32 rfl (lv_at hl 0 rfl) ?_
    refine lv_iload_n hC.1 hC.2.1 dX11_free_33 rfl (lv_at hl 1 rfl) ?_
    refine lv_iload_n hC.1 hC.2.1 dX11_free_34 rfl (lv_at hl 2 rfl) ?_
    refine rg_i G (rg_runV (As := [.int a1, .int a2]) (rest := []) hC hT G (c_X11_isFree l D cy lay Γ h _) (cwV 2 hC.2.2.2.2 gX11_free_X11_isFree rfl rfl rfl hdV_X11_isFree ⟨Nat.le_of_ble_eq_true rfl, Nat.le_of_ble_eq_true rfl⟩) (rg_recv hT G (by decide) r_mo k_X11) rfl hl.1 rfl (Nat.le_of_ble_eq_true rfl) dX11_free_35 ⟨Nat.le_of_ble_eq_true rfl, Nat.le_of_ble_eq_true rfl⟩) (fun r6 σ5 H locs h G => ?_)
    (try dsimp only at h)
    refine lv_if_eq (tgt := 45) hC.1 hC.2.1 dX11_free_38 (by decide) (fun c7 => ?_) (fun c7 => ?_)
    · replace h := h.1 c7
      refine lv_iconst (v := 0) hC.1 hC.2.1 dX11_free_45 (by decide) ?_
      exact rg_zret hC hr hlocks G rfl h dX11_free_46
    · replace h := h.2 c7
      refine lv_iconst (v := 1) hC.1 hC.2.1 dX11_free_41 (by decide) ?_
      refine lv_goto (tgt := 46) hC.1 hC.2.1 dX11_free_42 (by decide) ?_
      exact rg_zret hC hr hlocks G rfl h dX11_free_46
def u_X11_free_21 (Γ : RG) (post : Int32 → MS → Prop) (a1 : Int32) (a2 : Int32) (σ : MS) : Prop := u_X11_free_22 Γ post a1 a2 σ 1
set_option maxHeartbeats 4000000 in
set_option maxRecDepth 100000 in
theorem l_X11_free_21 {p : Program} {l : Launch} {e : Env} {s : State} {m : MethodId} {args : Array Value} {below : List Frame} {meth : Method} {c : Code} {D : va_G} {cy : Nat → ClassId} {lay : Nat → Nat} {Γ : RG} {post : Int32 → MS → Prop} (a1 : Int32) (a2 : Int32) (hC : CallFix p m c cX11_free 3 s args wsX11_free RX11) (hr : meth.sig.returnType = some .boolean) (hlocks : meth.locks = false) (hT : rT D cy lay Γ s) : ∀ (σ : MS), u_X11_free_21 Γ post a1 a2 σ → ∀ (H : Heap) (locs : List Loc) (ls : Array Slot), rG D cy lay Γ tn σ (rA cy lay Γ s.heap.size) s.heap H locs → lv_has ls 3 [(0, .ref (lay 0)), (1, .int a1), (2, .int a2)] → W p l e rm_X11_free s m args below meth c H locs 0 0 (MQ below (va_Qi post (rO D cy lay Γ) (rA cy lay Γ s.heap.size)) args s 0 0 (rA cy lay Γ s.heap.size)) (F0 m 21 ls [.ref (lay 0)]) := by
  intro σ h H locs ls G hl
  unfold u_X11_free_21 at h
  refine lv_iconst (v := 1) hC.1 hC.2.1 dX11_free_21 (by decide) ?_
  exact l_X11_free_22 a1 a2 hC hr hlocks hT _ _ h _ _ _ G (lv_sub hl [0, 1, 2] rfl)
def w_X11_free (Γ : RG) (post : Int32 → MS → Prop) (σ : MS) (a1 : Int32) (a2 : Int32) : Prop := w_X11_isPlayer Γ (fun r2 σ1 => ((r2 = 0 → u_X11_free_21 Γ post a1 a2 σ1) ∧ (¬ r2 = 0 → w_X11_isWedding Γ (fun r9 σ8 => ((r9 = 0 → u_X11_free_21 Γ post a1 a2 σ8) ∧ (¬ r9 = 0 → u_X11_free_22 Γ post a1 a2 σ8 0))) σ1 a2))) σ a1
set_option maxHeartbeats 4000000 in
set_option maxRecDepth 100000 in
theorem c_X11_free (l : Launch) (D : va_G) (cy : Nat → ClassId) (lay : Nat → Nat) (Γ : RG) {σ : MS} {post : Int32 → MS → Prop} {a1 : Int32} {a2 : Int32} (h : w_X11_free Γ post σ a1 a2) (sz : Nat) : Met l yX11_free wsX11_free rm_X11_free (va_Pc [.ref (lay 0), .int a1, .int a2] (rI D cy lay Γ σ sz)) (va_Qi post (rO D cy lay Γ) (rA cy lay Γ sz)) 0 0 (rA cy lay Γ sz) := by
  refine rg_ofW (cc := cX11_free) (maxL := 3) (ret := some .boolean) (own := RX11) (Qc := fun sz => va_Qi post (rO D cy lay Γ) (rA cy lay Γ sz)) (by decide) rfl (Nat.le_of_ble_eq_true rfl) rfl ?_
  intro p e s m args below meth c ls hC hr hlocks hT G hl
  unfold w_X11_free at h
  have hl : lv_has ls 3 [(0, .ref (lay 0)), (1, .int a1), (2, .int a2)] := hl
  refine lv_aload_n hC.1 hC.2.1 dX11_free_0 rfl (lv_at hl 0 rfl) ?_
  refine lv_aload_n hC.1 hC.2.1 dX11_free_1 rfl (lv_at hl 0 rfl) ?_
  refine lv_iload_n hC.1 hC.2.1 dX11_free_2 rfl (lv_at hl 1 rfl) ?_
  refine rg_i G (rg_runV (As := [.int a1]) (rest := [.ref (lay 0)]) hC hT G (c_X11_isPlayer l D cy lay Γ h _) (cwV 1 hC.2.2.2.2 gX11_free_X11_isPlayer rfl rfl rfl hdV_X11_isPlayer ⟨Nat.le_of_ble_eq_true rfl, Nat.le_of_ble_eq_true rfl⟩) (rg_recv hT G (by decide) r_mo k_X11) rfl hl.1 rfl (Nat.le_of_ble_eq_true rfl) dX11_free_3 ⟨Nat.le_of_ble_eq_true rfl, Nat.le_of_ble_eq_true rfl⟩) (fun r2 σ1 H locs h G => ?_)
  (try dsimp only at h)
  refine lv_if_eq (tgt := 21) hC.1 hC.2.1 dX11_free_6 (by decide) (fun c3 => ?_) (fun c3 => ?_)
  · replace h := h.1 c3
    exact l_X11_free_21 a1 a2 hC hr hlocks hT _ h _ _ _ G (lv_sub hl [0, 1, 2] rfl)
  · replace h := h.2 c3
    refine lv_aload_n hC.1 hC.2.1 dX11_free_9 rfl (lv_at hl 0 rfl) ?_
    refine lv_iload_n hC.1 hC.2.1 dX11_free_10 rfl (lv_at hl 2 rfl) ?_
    refine rg_i G (rg_runV (As := [.int a2]) (rest := [.ref (lay 0)]) hC hT G (c_X11_isWedding l D cy lay Γ h _) (cwV 1 hC.2.2.2.2 gX11_free_X11_isWedding rfl rfl rfl hdV_X11_isWedding ⟨Nat.le_of_ble_eq_true rfl, Nat.le_of_ble_eq_true rfl⟩) (rg_recv hT G (by decide) r_mo k_X11) rfl hl.1 rfl (Nat.le_of_ble_eq_true rfl) dX11_free_11 ⟨Nat.le_of_ble_eq_true rfl, Nat.le_of_ble_eq_true rfl⟩) (fun r9 σ8 H locs h G => ?_)
    (try dsimp only at h)
    refine lv_if_eq (tgt := 21) hC.1 hC.2.1 dX11_free_14 (by decide) (fun c10 => ?_) (fun c10 => ?_)
    · replace h := h.1 c10
      exact l_X11_free_21 a1 a2 hC hr hlocks hT _ h _ _ _ G (lv_sub hl [0, 1, 2] rfl)
    · replace h := h.2 c10
      refine lv_iconst (v := 0) hC.1 hC.2.1 dX11_free_17 (by decide) ?_
      refine lv_goto (tgt := 22) hC.1 hC.2.1 dX11_free_18 (by decide) ?_
      exact l_X11_free_22 a1 a2 hC hr hlocks hT _ _ h _ _ _ G (lv_sub hl [0, 1, 2] rfl)
theorem hdV_X11_free : yX11_free.cls = RX11 ∧ yX11_free.cls ≠ "java/lang/invoke/MethodHandle" ∧ yX11_free.cls ≠ "java/lang/invoke/VarHandle" ∧ (parseMethodDescriptor yX11_free.desc).map (fun d => d.parameters.length) = some 2 := by decide +kernel
abbrev rm_X11_fillingNow : Room := { frames := 13, cells := 0, slots := 0, locals := 337 }
theorem i_X11_fillingNow_X11 : ∀ w ∈ wsX110, w ∈ wsX11_fillingNow := fun _ h => List.mem_cons_of_mem _ (List.mem_append_left _ (List.mem_append_left _ (List.mem_append_left _ (List.mem_append_left _ (List.mem_append_right _ h)))))
def w_X11_fillingNow (Γ : RG) (post : Int32 → MS → Prop) (σ : MS) (a1 : Int32) (a2 : Int32) : Prop := ((a2 = 2 → w_X11_fillings Γ (fun r15 σ14 => post r15 σ14) σ a1) ∧ (¬ a2 = 2 → ((a2 = 3 → w_X11_why Γ (fun r13 σ12 => post r13 σ12) σ a1) ∧ (¬ a2 = 3 → w_X11_best Γ (fun r4 σ3 => ((a2 = 0 → post r4 σ3) ∧ (¬ a2 = 0 → ((r4 = (-1) → post r4 σ3) ∧ (¬ r4 = (-1) → w_lw_Jx4a65c_get_915e3 Γ (fun j8 σ7 => ((j8 < 14 ∧ j8 < Γ.2.2.1) ∧ w_X11_costOf Γ (fun r11 σ10 => post r11 σ10) σ7 r4 j8)) σ3 a1))))) σ a1 0 0))))
set_option maxHeartbeats 4000000 in
set_option maxRecDepth 100000 in
theorem c_X11_fillingNow (l : Launch) (D : va_G) (cy : Nat → ClassId) (lay : Nat → Nat) (Γ : RG) {σ : MS} {post : Int32 → MS → Prop} {a1 : Int32} {a2 : Int32} (h : w_X11_fillingNow Γ post σ a1 a2) (sz : Nat) : Met l yX11_fillingNow wsX11_fillingNow rm_X11_fillingNow (va_Pc [.ref (lay 0), .int a1, .int a2] (rI D cy lay Γ σ sz)) (va_Qi post (rO D cy lay Γ) (rA cy lay Γ sz)) 0 0 (rA cy lay Γ sz) := by
  refine rg_ofW (cc := cX11_fillingNow) (maxL := 4) (ret := some .int) (own := RX11) (Qc := fun sz => va_Qi post (rO D cy lay Γ) (rA cy lay Γ sz)) (by decide) rfl (Nat.le_of_ble_eq_true rfl) rfl ?_
  intro p e s m args below meth c ls hC hr hlocks hT G hl
  unfold w_X11_fillingNow at h
  have hl : lv_has ls 4 [(0, .ref (lay 0)), (1, .int a1), (2, .int a2)] := hl
  refine lv_iload_n hC.1 hC.2.1 dX11_fillingNow_0 rfl (lv_at hl 2 rfl) ?_
  refine lv_iconst (v := 2) hC.1 hC.2.1 dX11_fillingNow_1 (by decide) ?_
  refine lv_icmp_ne (tgt := 11) hC.1 hC.2.1 dX11_fillingNow_2 (by decide) (fun c1 => ?_) (fun c1 => ?_)
  · replace h := h.2 c1
    refine lv_iload_n hC.1 hC.2.1 dX11_fillingNow_11 rfl (lv_at hl 2 rfl) ?_
    refine lv_iconst (v := 3) hC.1 hC.2.1 dX11_fillingNow_12 (by decide) ?_
    refine lv_icmp_ne (tgt := 22) hC.1 hC.2.1 dX11_fillingNow_13 (by decide) (fun c2 => ?_) (fun c2 => ?_)
    · replace h := h.2 c2
      refine lv_aload_n hC.1 hC.2.1 dX11_fillingNow_22 rfl (lv_at hl 0 rfl) ?_
      refine lv_iload_n hC.1 hC.2.1 dX11_fillingNow_23 rfl (lv_at hl 1 rfl) ?_
      refine lv_iconst (v := 0) hC.1 hC.2.1 dX11_fillingNow_24 (by decide) ?_
      refine lv_iconst (v := 0) hC.1 hC.2.1 dX11_fillingNow_25 (by decide) ?_
      refine rg_i G (rg_runV (As := [.int a1, .int 0, .int 0]) (rest := []) hC hT G (c_X11_best l D cy lay Γ h _) (cwV 3 hC.2.2.2.2 gX11_fillingNow_X11_best rfl rfl rfl hdV_X11_best ⟨Nat.le_of_ble_eq_true rfl, Nat.le_of_ble_eq_true rfl⟩) (rg_recv hT G (by decide) r_mo k_X11) rfl hl.1 rfl (Nat.le_of_ble_eq_true rfl) dX11_fillingNow_26 ⟨Nat.le_of_ble_eq_true rfl, Nat.le_of_ble_eq_true rfl⟩) (fun r4 σ3 H locs h G => ?_)
      (try dsimp only at h)
      refine lv_istore_n (lv' := [(3, .int r4), (0, .ref (lay 0)), (1, .int a1), (2, .int a2)]) hC.1 hC.2.1 dX11_fillingNow_29 rfl hl (by decide) rfl (fun ls hl => ?_)
      refine lv_iload_n hC.1 hC.2.1 dX11_fillingNow_30 rfl (lv_at hl 3 rfl) ?_
      refine lv_if_eq (tgt := 39) hC.1 hC.2.1 dX11_fillingNow_31 (by decide) (fun c5 => ?_) (fun c5 => ?_)
      · replace h := h.1 c5
        refine lv_iload_n hC.1 hC.2.1 dX11_fillingNow_39 rfl (lv_at hl 0 rfl) ?_
        refine lv_goto (tgt := 59) hC.1 hC.2.1 dX11_fillingNow_40 (by decide) ?_
        exact rg_iret hC hr hlocks G h dX11_fillingNow_59
      · replace h := h.2 c5
        refine lv_iload_n hC.1 hC.2.1 dX11_fillingNow_34 rfl (lv_at hl 0 rfl) ?_
        refine lv_iconst (v := (-1)) hC.1 hC.2.1 dX11_fillingNow_35 (by decide) ?_
        refine lv_icmp_ne (tgt := 43) hC.1 hC.2.1 dX11_fillingNow_36 (by decide) (fun c6 => ?_) (fun c6 => ?_)
        · replace h := h.2 c6
          refine lv_aload_n hC.1 hC.2.1 dX11_fillingNow_43 rfl (lv_at hl 1 rfl) ?_
          refine lv_iload_n hC.1 hC.2.1 dX11_fillingNow_44 rfl (lv_at hl 0 rfl) ?_
          refine lv_aload_n hC.1 hC.2.1 dX11_fillingNow_45 rfl (lv_at hl 1 rfl) ?_
          refine rg_get hC hT G (by decide) r_mo k_X11 i_X11_fillingNow_X11 5 (by decide) (wm 1 rfl) rfl dX11_fillingNow_46 ?_
          refine lv_iload_n hC.1 hC.2.1 dX11_fillingNow_49 rfl (lv_at hl 2 rfl) ?_
          refine rg_r (f := fun i => lay (33 + i)) G (rg_runV (As := [.int a1]) (rest := [.int r4, .ref (lay 0)]) hC hT G (c_lw_Jx4a65c_get_915e3 l D cy lay Γ h _) (cwV 1 hC.2.2.2.2 gX11_fillingNow_Jx4a65c_get_915e3 rfl rfl rfl hdV_Jx4a65c_get_915e3 ⟨Nat.le_of_ble_eq_true rfl, Nat.le_of_ble_eq_true rfl⟩) (rg_recv hT G (by decide) r_lw k_AL) rfl hl.1 rfl (Nat.le_of_ble_eq_true rfl) dX11_fillingNow_50 ⟨Nat.le_of_ble_eq_true rfl, Nat.le_of_ble_eq_true rfl⟩) (fun j8 σ7 H locs h G => ?_)
          (try dsimp only at h)
          obtain ⟨hj9, h⟩ := h
          refine rg_cast hC hT k_X10 (wm 2 rfl) (rg_recv hT G (rk_wd hj9) (r_wd hj9) k_X10) dX11_fillingNow_53 ?_
          refine rg_i G (rg_runV (As := [.int r4, .ref (lay (33 + j8))]) (rest := []) hC hT G (c_X11_costOf l D cy lay Γ h hj9 _) (cwV 2 hC.2.2.2.2 gX11_fillingNow_X11_costOf rfl rfl rfl hdV_X11_costOf ⟨Nat.le_of_ble_eq_true rfl, Nat.le_of_ble_eq_true rfl⟩) (rg_recv hT G (by decide) r_mo k_X11) rfl hl.1 rfl (Nat.le_of_ble_eq_true rfl) dX11_fillingNow_56 ⟨Nat.le_of_ble_eq_true rfl, Nat.le_of_ble_eq_true rfl⟩) (fun r11 σ10 H locs h G => ?_)
          (try dsimp only at h)
          exact rg_iret hC hr hlocks G h dX11_fillingNow_59
        · replace h := h.1 c6
          refine lv_iload_n hC.1 hC.2.1 dX11_fillingNow_39 rfl (lv_at hl 0 rfl) ?_
          refine lv_goto (tgt := 59) hC.1 hC.2.1 dX11_fillingNow_40 (by decide) ?_
          exact rg_iret hC hr hlocks G h dX11_fillingNow_59
    · replace h := h.1 c2
      refine lv_aload_n hC.1 hC.2.1 dX11_fillingNow_16 rfl (lv_at hl 0 rfl) ?_
      refine lv_iload_n hC.1 hC.2.1 dX11_fillingNow_17 rfl (lv_at hl 1 rfl) ?_
      refine rg_i G (rg_runV (As := [.int a1]) (rest := []) hC hT G (c_X11_why l D cy lay Γ h _) (cwV 1 hC.2.2.2.2 gX11_fillingNow_X11_why rfl rfl rfl hdV_X11_why ⟨Nat.le_of_ble_eq_true rfl, Nat.le_of_ble_eq_true rfl⟩) (rg_recv hT G (by decide) r_mo k_X11) rfl hl.1 rfl (Nat.le_of_ble_eq_true rfl) dX11_fillingNow_18 ⟨Nat.le_of_ble_eq_true rfl, Nat.le_of_ble_eq_true rfl⟩) (fun r13 σ12 H locs h G => ?_)
      (try dsimp only at h)
      exact rg_iret hC hr hlocks G h dX11_fillingNow_21
  · replace h := h.1 c1
    refine lv_aload_n hC.1 hC.2.1 dX11_fillingNow_5 rfl (lv_at hl 0 rfl) ?_
    refine lv_iload_n hC.1 hC.2.1 dX11_fillingNow_6 rfl (lv_at hl 1 rfl) ?_
    refine rg_i G (rg_runV (As := [.int a1]) (rest := []) hC hT G (c_X11_fillings l D cy lay Γ h _) (cwV 1 hC.2.2.2.2 gX11_fillingNow_X11_fillings rfl rfl rfl hdV_X11_fillings ⟨Nat.le_of_ble_eq_true rfl, Nat.le_of_ble_eq_true rfl⟩) (rg_recv hT G (by decide) r_mo k_X11) rfl hl.1 rfl (Nat.le_of_ble_eq_true rfl) dX11_fillingNow_7 ⟨Nat.le_of_ble_eq_true rfl, Nat.le_of_ble_eq_true rfl⟩) (fun r15 σ14 H locs h G => ?_)
    (try dsimp only at h)
    exact rg_iret hC hr hlocks G h dX11_fillingNow_10
theorem hdV_X11_fillingNow : yX11_fillingNow.cls = RX11 ∧ yX11_fillingNow.cls ≠ "java/lang/invoke/MethodHandle" ∧ yX11_fillingNow.cls ≠ "java/lang/invoke/VarHandle" ∧ (parseMethodDescriptor yX11_fillingNow.desc).map (fun d => d.parameters.length) = some 2 := by decide +kernel
abbrev rm_X11_filling : Room := { frames := 14, cells := 0, slots := 0, locals := 360 }
theorem i_X11_filling_X11 : ∀ w ∈ wsX110, w ∈ wsX11_filling := fun _ h => List.mem_cons_of_mem _ (List.mem_append_left _ (List.mem_append_left _ (List.mem_append_left _ (List.mem_append_left _ (List.mem_append_right _ h)))))
def w_X11_filling (Γ : RG) (post : Int32 → MS → Prop) (σ : MS) (a1 : Int32) (a2 : Int32) : Prop := w_X11_isWedding Γ (fun r2 σ1 => ((r2 = 0 → w_X11_refuse Γ (fun r12 σ11 => post r12 σ11) σ1 1) ∧ (¬ r2 = 0 → w_X11_is Γ (fun r5 σ4 => ((r5 = 0 → w_X11_refuse Γ (fun r8 σ7 => post r8 σ7) σ4 2) ∧ (¬ r5 = 0 → w_X11_fillingNow Γ (fun r10 σ9 => post r10 σ9) σ4 a1 a2))) σ1 a2 0 3))) (up2 σ 0 0 0) a1
set_option maxHeartbeats 4000000 in
set_option maxRecDepth 100000 in
theorem c_X11_filling (l : Launch) (D : va_G) (cy : Nat → ClassId) (lay : Nat → Nat) (Γ : RG) {σ : MS} {post : Int32 → MS → Prop} {a1 : Int32} {a2 : Int32} (h : w_X11_filling Γ post σ a1 a2) (sz : Nat) : Met l yX11_filling wsX11_filling rm_X11_filling (va_Pc [.ref (lay 0), .int a1, .int a2] (rI D cy lay Γ σ sz)) (va_Qi post (rO D cy lay Γ) (rA cy lay Γ sz)) 0 0 (rA cy lay Γ sz) := by
  refine rg_ofW (cc := cX11_filling) (maxL := 3) (ret := some .int) (own := RX11) (Qc := fun sz => va_Qi post (rO D cy lay Γ) (rA cy lay Γ sz)) (by decide) rfl (Nat.le_of_ble_eq_true rfl) rfl ?_
  intro p e s m args below meth c ls hC hr hlocks hT G hl
  unfold w_X11_filling at h
  have hl : lv_has ls 3 [(0, .ref (lay 0)), (1, .int a1), (2, .int a2)] := hl
  refine lv_aload_n hC.1 hC.2.1 dX11_filling_0 rfl (lv_at hl 0 rfl) ?_
  refine lv_iconst (v := 0) hC.1 hC.2.1 dX11_filling_1 (by decide) ?_
  refine rg_put hC hT G (by decide) r_mo k_X11 i_X11_filling_X11 0 (by decide) (wm 1 rfl) rfl rfl (by simp) r_mo (by rw [up2_eq]; rfl) dX11_filling_2 (fun H locs G => ?_)
  refine lv_aload_n hC.1 hC.2.1 dX11_filling_5 rfl (lv_at hl 0 rfl) ?_
  refine lv_iload_n hC.1 hC.2.1 dX11_filling_6 rfl (lv_at hl 1 rfl) ?_
  refine rg_i G (rg_runV (As := [.int a1]) (rest := []) hC hT G (c_X11_isWedding l D cy lay Γ h _) (cwV 1 hC.2.2.2.2 gX11_filling_X11_isWedding rfl rfl rfl hdV_X11_isWedding ⟨Nat.le_of_ble_eq_true rfl, Nat.le_of_ble_eq_true rfl⟩) (rg_recv hT G (by decide) r_mo k_X11) rfl hl.1 rfl (Nat.le_of_ble_eq_true rfl) dX11_filling_7 ⟨Nat.le_of_ble_eq_true rfl, Nat.le_of_ble_eq_true rfl⟩) (fun r2 σ1 H locs h G => ?_)
  (try dsimp only at h)
  refine lv_if_ne (tgt := 19) hC.1 hC.2.1 dX11_filling_10 (by decide) (fun c3 => ?_) (fun c3 => ?_)
  · replace h := h.2 c3
    refine lv_iload_n hC.1 hC.2.1 dX11_filling_19 rfl (lv_at hl 2 rfl) ?_
    refine lv_iconst (v := 0) hC.1 hC.2.1 dX11_filling_20 (by decide) ?_
    refine lv_iconst (v := 3) hC.1 hC.2.1 dX11_filling_21 (by decide) ?_
    refine rg_i G (rg_runS (As := [.int a2, .int 0, .int 3]) (rest := []) hC hT G (c_X11_is l D cy lay Γ h _) (va_cwS 3 hC.2.2.2.2 gX11_filling_X11_is rfl rfl rfl hdS_X11_is ⟨Nat.le_of_ble_eq_true rfl, Nat.le_of_ble_eq_true rfl⟩) rfl hl.1 rfl (Nat.le_of_ble_eq_true rfl) dX11_filling_22 ⟨Nat.le_of_ble_eq_true rfl, Nat.le_of_ble_eq_true rfl⟩) (fun r5 σ4 H locs h G => ?_)
    (try dsimp only at h)
    refine lv_if_eq (tgt := 37) hC.1 hC.2.1 dX11_filling_25 (by decide) (fun c6 => ?_) (fun c6 => ?_)
    · replace h := h.1 c6
      refine lv_aload_n hC.1 hC.2.1 dX11_filling_37 rfl (lv_at hl 0 rfl) ?_
      refine lv_iconst (v := 2) hC.1 hC.2.1 dX11_filling_38 (by decide) ?_
      refine rg_i G (rg_runV (As := [.int 2]) (rest := []) hC hT G (c_X11_refuse l D cy lay Γ h _) (cwV 1 hC.2.2.2.2 gX11_filling_X11_refuse rfl rfl rfl hdV_X11_refuse ⟨Nat.le_of_ble_eq_true rfl, Nat.le_of_ble_eq_true rfl⟩) (rg_recv hT G (by decide) r_mo k_X11) rfl hl.1 rfl (Nat.le_of_ble_eq_true rfl) dX11_filling_39 ⟨Nat.le_of_ble_eq_true rfl, Nat.le_of_ble_eq_true rfl⟩) (fun r8 σ7 H locs h G => ?_)
      (try dsimp only at h)
      exact rg_iret hC hr hlocks G h dX11_filling_42
    · replace h := h.2 c6
      refine lv_aload_n hC.1 hC.2.1 dX11_filling_28 rfl (lv_at hl 0 rfl) ?_
      refine lv_iload_n hC.1 hC.2.1 dX11_filling_29 rfl (lv_at hl 1 rfl) ?_
      refine lv_iload_n hC.1 hC.2.1 dX11_filling_30 rfl (lv_at hl 2 rfl) ?_
      refine rg_i G (rg_runV (As := [.int a1, .int a2]) (rest := []) hC hT G (c_X11_fillingNow l D cy lay Γ h _) (cwV 2 hC.2.2.2.2 gX11_filling_X11_fillingNow rfl rfl rfl hdV_X11_fillingNow ⟨Nat.le_of_ble_eq_true rfl, Nat.le_of_ble_eq_true rfl⟩) (rg_recv hT G (by decide) r_mo k_X11) rfl hl.1 rfl (Nat.le_of_ble_eq_true rfl) dX11_filling_31 ⟨Nat.le_of_ble_eq_true rfl, Nat.le_of_ble_eq_true rfl⟩) (fun r10 σ9 H locs h G => ?_)
      (try dsimp only at h)
      refine lv_goto (tgt := 42) hC.1 hC.2.1 dX11_filling_34 (by decide) ?_
      exact rg_iret hC hr hlocks G h dX11_filling_42
  · replace h := h.1 c3
    refine lv_aload_n hC.1 hC.2.1 dX11_filling_13 rfl (lv_at hl 0 rfl) ?_
    refine lv_iconst (v := 1) hC.1 hC.2.1 dX11_filling_14 (by decide) ?_
    refine rg_i G (rg_runV (As := [.int 1]) (rest := []) hC hT G (c_X11_refuse l D cy lay Γ h _) (cwV 1 hC.2.2.2.2 gX11_filling_X11_refuse rfl rfl rfl hdV_X11_refuse ⟨Nat.le_of_ble_eq_true rfl, Nat.le_of_ble_eq_true rfl⟩) (rg_recv hT G (by decide) r_mo k_X11) rfl hl.1 rfl (Nat.le_of_ble_eq_true rfl) dX11_filling_15 ⟨Nat.le_of_ble_eq_true rfl, Nat.le_of_ble_eq_true rfl⟩) (fun r12 σ11 H locs h G => ?_)
    (try dsimp only at h)
    exact rg_iret hC hr hlocks G h dX11_filling_18
theorem hdV_X11_filling : yX11_filling.cls = RX11 ∧ yX11_filling.cls ≠ "java/lang/invoke/MethodHandle" ∧ yX11_filling.cls ≠ "java/lang/invoke/VarHandle" ∧ (parseMethodDescriptor yX11_filling.desc).map (fun d => d.parameters.length) = some 2 := by decide +kernel
abbrev rm_X11_wouldCancel : Room := { frames := 6, cells := 0, slots := 0, locals := 133 }
theorem i_X11_wouldCancel_X11 : ∀ w ∈ wsX110, w ∈ wsX11_wouldCancel := fun _ h => List.mem_cons_of_mem _ (List.mem_append_left _ (List.mem_append_left _ (List.mem_append_left _ (List.mem_append_right _ h))))
theorem i_X11_wouldCancel_X10 : ∀ w ∈ wsX100, w ∈ wsX11_wouldCancel := fun _ h => List.mem_cons_of_mem _ (List.mem_append_left _ (List.mem_append_left _ (List.mem_append_right _ h)))
def w_X11_wouldCancel (Γ : RG) (post : Int32 → MS → Prop) (σ : MS) (a1 : Int32) : Prop := w_X11_isWedding Γ (fun r2 σ1 => ((r2 = 0 → w_X11_refuse Γ (fun r15 σ14 => post r15 σ14) σ1 1) ∧ (¬ r2 = 0 → w_lw_Jx4a65c_get_915e3 Γ (fun j5 σ4 => ((j5 < 14 ∧ j5 < Γ.2.2.1) ∧ (((σ4 (33 + j5) 7) = 1 → w_X11_owed Γ (fun r11 σ10 => w_X11_gain Γ (fun r13 σ12 => post ((if 0 < (r11 - (σ10 (33 + j5) 11)) then (r11 - (σ10 (33 + j5) 11)) else 0) - r13) σ12) σ10 j5) σ4 j5) ∧ (¬ (σ4 (33 + j5) 7) = 1 → w_X11_refuse Γ (fun r9 σ8 => post r9 σ8) σ4 2)))) σ1 a1))) (up2 σ 0 0 0) a1
set_option maxHeartbeats 4000000 in
set_option maxRecDepth 100000 in
theorem c_X11_wouldCancel (l : Launch) (D : va_G) (cy : Nat → ClassId) (lay : Nat → Nat) (Γ : RG) {σ : MS} {post : Int32 → MS → Prop} {a1 : Int32} (h : w_X11_wouldCancel Γ post σ a1) (sz : Nat) : Met l yX11_wouldCancel wsX11_wouldCancel rm_X11_wouldCancel (va_Pc [.ref (lay 0), .int a1] (rI D cy lay Γ σ sz)) (va_Qi post (rO D cy lay Γ) (rA cy lay Γ sz)) 0 0 (rA cy lay Γ sz) := by
  refine rg_ofW (cc := cX11_wouldCancel) (maxL := 3) (ret := some .int) (own := RX11) (Qc := fun sz => va_Qi post (rO D cy lay Γ) (rA cy lay Γ sz)) (by decide) rfl (Nat.le_of_ble_eq_true rfl) rfl ?_
  intro p e s m args below meth c ls hC hr hlocks hT G hl
  unfold w_X11_wouldCancel at h
  have hl : lv_has ls 3 [(0, .ref (lay 0)), (1, .int a1)] := hl
  refine lv_aload_n hC.1 hC.2.1 dX11_wouldCancel_0 rfl (lv_at hl 0 rfl) ?_
  refine lv_iconst (v := 0) hC.1 hC.2.1 dX11_wouldCancel_1 (by decide) ?_
  refine rg_put hC hT G (by decide) r_mo k_X11 i_X11_wouldCancel_X11 0 (by decide) (wm 1 rfl) rfl rfl (by simp) r_mo (by rw [up2_eq]; rfl) dX11_wouldCancel_2 (fun H locs G => ?_)
  refine lv_aload_n hC.1 hC.2.1 dX11_wouldCancel_5 rfl (lv_at hl 0 rfl) ?_
  refine lv_iload_n hC.1 hC.2.1 dX11_wouldCancel_6 rfl (lv_at hl 1 rfl) ?_
  refine rg_i G (rg_runV (As := [.int a1]) (rest := []) hC hT G (c_X11_isWedding l D cy lay Γ h _) (cwV 1 hC.2.2.2.2 gX11_wouldCancel_X11_isWedding rfl rfl rfl hdV_X11_isWedding ⟨Nat.le_of_ble_eq_true rfl, Nat.le_of_ble_eq_true rfl⟩) (rg_recv hT G (by decide) r_mo k_X11) rfl hl.1 rfl (Nat.le_of_ble_eq_true rfl) dX11_wouldCancel_7 ⟨Nat.le_of_ble_eq_true rfl, Nat.le_of_ble_eq_true rfl⟩) (fun r2 σ1 H locs h G => ?_)
  (try dsimp only at h)
  refine lv_if_ne (tgt := 19) hC.1 hC.2.1 dX11_wouldCancel_10 (by decide) (fun c3 => ?_) (fun c3 => ?_)
  · replace h := h.2 c3
    refine lv_aload_n hC.1 hC.2.1 dX11_wouldCancel_19 rfl (lv_at hl 0 rfl) ?_
    refine rg_get hC hT G (by decide) r_mo k_X11 i_X11_wouldCancel_X11 5 (by decide) (wm 2 rfl) rfl dX11_wouldCancel_20 ?_
    refine lv_iload_n hC.1 hC.2.1 dX11_wouldCancel_23 rfl (lv_at hl 1 rfl) ?_
    refine rg_r (f := fun i => lay (33 + i)) G (rg_runV (As := [.int a1]) (rest := []) hC hT G (c_lw_Jx4a65c_get_915e3 l D cy lay Γ h _) (cwV 1 hC.2.2.2.2 gX11_wouldCancel_Jx4a65c_get_915e3 rfl rfl rfl hdV_Jx4a65c_get_915e3 ⟨Nat.le_of_ble_eq_true rfl, Nat.le_of_ble_eq_true rfl⟩) (rg_recv hT G (by decide) r_lw k_AL) rfl hl.1 rfl (Nat.le_of_ble_eq_true rfl) dX11_wouldCancel_24 ⟨Nat.le_of_ble_eq_true rfl, Nat.le_of_ble_eq_true rfl⟩) (fun j5 σ4 H locs h G => ?_)
    (try dsimp only at h)
    obtain ⟨hj6, h⟩ := h
    refine rg_cast hC hT k_X10 (wm 3 rfl) (rg_recv hT G (rk_wd hj6) (r_wd hj6) k_X10) dX11_wouldCancel_27 ?_
    refine lv_astore_n (lv' := [(2, .ref (lay (33 + j5))), (0, .ref (lay 0)), (1, .int a1)]) hC.1 hC.2.1 dX11_wouldCancel_30 rfl hl (by decide) rfl (fun ls hl => ?_)
    refine lv_aload_n hC.1 hC.2.1 dX11_wouldCancel_31 rfl (lv_at hl 0 rfl) ?_
    refine rg_getN hC hT G (rk_wd hj6) (r_wd hj6) k_X10 i_X11_wouldCancel_X10 7 (by decide) 17 rfl rfl dX11_wouldCancel_32 ?_
    refine lv_iconst (v := 1) hC.1 hC.2.1 dX11_wouldCancel_35 (by decide) ?_
    refine lv_icmp_ne (tgt := 62) hC.1 hC.2.1 dX11_wouldCancel_36 (by decide) (fun c7 => ?_) (fun c7 => ?_)
    · replace h := h.2 c7
      refine lv_aload_n hC.1 hC.2.1 dX11_wouldCancel_62 rfl (lv_at hl 1 rfl) ?_
      refine lv_iconst (v := 2) hC.1 hC.2.1 dX11_wouldCancel_63 (by decide) ?_
      refine rg_i G (rg_runV (As := [.int 2]) (rest := []) hC hT G (c_X11_refuse l D cy lay Γ h _) (cwV 1 hC.2.2.2.2 gX11_wouldCancel_X11_refuse rfl rfl rfl hdV_X11_refuse ⟨Nat.le_of_ble_eq_true rfl, Nat.le_of_ble_eq_true rfl⟩) (rg_recv hT G (by decide) r_mo k_X11) rfl hl.1 rfl (Nat.le_of_ble_eq_true rfl) dX11_wouldCancel_64 ⟨Nat.le_of_ble_eq_true rfl, Nat.le_of_ble_eq_true rfl⟩) (fun r9 σ8 H locs h G => ?_)
      (try dsimp only at h)
      exact rg_iret hC hr hlocks G h dX11_wouldCancel_67
    · replace h := h.1 c7
      refine lv_iconst (v := 0) hC.1 hC.2.1 dX11_wouldCancel_39 (by decide) ?_
      refine lv_aload_n hC.1 hC.2.1 dX11_wouldCancel_40 rfl (lv_at hl 1 rfl) ?_
      refine lv_aload_n hC.1 hC.2.1 dX11_wouldCancel_41 rfl (lv_at hl 0 rfl) ?_
      refine rg_i G (rg_runV (As := [.ref (lay (33 + j5))]) (rest := [.int 0]) hC hT G (c_X11_owed l D cy lay Γ h hj6 _) (cwV 1 hC.2.2.2.2 gX11_wouldCancel_X11_owed rfl rfl rfl hdV_X11_owed ⟨Nat.le_of_ble_eq_true rfl, Nat.le_of_ble_eq_true rfl⟩) (rg_recv hT G (by decide) r_mo k_X11) rfl hl.1 rfl (Nat.le_of_ble_eq_true rfl) dX11_wouldCancel_42 ⟨Nat.le_of_ble_eq_true rfl, Nat.le_of_ble_eq_true rfl⟩) (fun r11 σ10 H locs h G => ?_)
      (try dsimp only at h)
      refine lv_aload_n hC.1 hC.2.1 dX11_wouldCancel_45 rfl (lv_at hl 0 rfl) ?_
      refine rg_getN hC hT G (rk_wd hj6) (r_wd hj6) k_X10 i_X11_wouldCancel_X10 11 (by decide) 21 rfl rfl dX11_wouldCancel_46 ?_
      refine lv_isub hC.1 hC.2.1 dX11_wouldCancel_49 ?_
      refine va_mmax hC.1 hC.2.1 (hC.2.2.1.trans hl.1.symm) hC.2.2.2.1 (hC.2.2.2.2 _ (wm 4 rfl)) (hC.2.2.2.2 _ (wm 5 rfl)) (hC.2.2.2.2 _ (wm 6 rfl)) (hC.2.2.2.2 _ (wm 7 rfl)) (Nat.le_of_ble_eq_true rfl) (Nat.le_of_ble_eq_true rfl) (Nat.le_of_ble_eq_true rfl) (Nat.le_of_ble_eq_true rfl) dX11_wouldCancel_50 ?_
      refine lv_aload_n hC.1 hC.2.1 dX11_wouldCancel_53 rfl (lv_at hl 1 rfl) ?_
      refine lv_aload_n hC.1 hC.2.1 dX11_wouldCancel_54 rfl (lv_at hl 0 rfl) ?_
      refine rg_i G (rg_runV (As := [.ref (lay (33 + j5))]) (rest := [.int (if 0 < (r11 - (σ10 (33 + j5) 11)) then (r11 - (σ10 (33 + j5) 11)) else 0)]) hC hT G (c_X11_gain l D cy lay Γ h hj6 _) (cwV 1 hC.2.2.2.2 gX11_wouldCancel_X11_gain rfl rfl rfl hdV_X11_gain ⟨Nat.le_of_ble_eq_true rfl, Nat.le_of_ble_eq_true rfl⟩) (rg_recv hT G (by decide) r_mo k_X11) rfl hl.1 rfl (Nat.le_of_ble_eq_true rfl) dX11_wouldCancel_55 ⟨Nat.le_of_ble_eq_true rfl, Nat.le_of_ble_eq_true rfl⟩) (fun r13 σ12 H locs h G => ?_)
      (try dsimp only at h)
      refine lv_isub hC.1 hC.2.1 dX11_wouldCancel_58 ?_
      refine lv_goto (tgt := 67) hC.1 hC.2.1 dX11_wouldCancel_59 (by decide) ?_
      exact rg_iret hC hr hlocks G h dX11_wouldCancel_67
  · replace h := h.1 c3
    refine lv_aload_n hC.1 hC.2.1 dX11_wouldCancel_13 rfl (lv_at hl 0 rfl) ?_
    refine lv_iconst (v := 1) hC.1 hC.2.1 dX11_wouldCancel_14 (by decide) ?_
    refine rg_i G (rg_runV (As := [.int 1]) (rest := []) hC hT G (c_X11_refuse l D cy lay Γ h _) (cwV 1 hC.2.2.2.2 gX11_wouldCancel_X11_refuse rfl rfl rfl hdV_X11_refuse ⟨Nat.le_of_ble_eq_true rfl, Nat.le_of_ble_eq_true rfl⟩) (rg_recv hT G (by decide) r_mo k_X11) rfl hl.1 rfl (Nat.le_of_ble_eq_true rfl) dX11_wouldCancel_15 ⟨Nat.le_of_ble_eq_true rfl, Nat.le_of_ble_eq_true rfl⟩) (fun r15 σ14 H locs h G => ?_)
    (try dsimp only at h)
    exact rg_iret hC hr hlocks G h dX11_wouldCancel_18
theorem hdV_X11_wouldCancel : yX11_wouldCancel.cls = RX11 ∧ yX11_wouldCancel.cls ≠ "java/lang/invoke/MethodHandle" ∧ yX11_wouldCancel.cls ≠ "java/lang/invoke/VarHandle" ∧ (parseMethodDescriptor yX11_wouldCancel.desc).map (fun d => d.parameters.length) = some 1 := by decide +kernel
abbrev rm_X11_key : Room := { frames := 12, cells := 0, slots := 0, locals := 311 }
theorem i_X11_key_X11 : ∀ w ∈ wsX110, w ∈ wsX11_key := fun _ h => List.mem_cons_of_mem _ (List.mem_append_left _ (List.mem_append_left _ (List.mem_append_left _ (List.mem_append_left _ (List.mem_append_right _ h)))))
def u_X11_key_34 (Γ : RG) (post : Int32 → MS → Prop) (a1 : Int32) : Nat → MS → Int32 → Prop
  | 0, _, _ => False
  | n + 1, σ, v2 => w_lp_Jx4a65c_size_8abf5 Γ (fun r8 σ7 => ((r8 ≤ v2 → post (-1) σ7) ∧ (¬ r8 ≤ v2 → w_X11_best Γ (fun r11 σ10 => ((r11 = (-1) → post v2 σ10) ∧ (¬ r11 = (-1) → u_X11_key_34 Γ post a1 n σ10 (v2 + 1)))) σ7 a1 (1 <<< (v2 &&& 31)) 0))) σ
set_option maxHeartbeats 4000000 in
set_option maxRecDepth 100000 in
theorem l_X11_key_34 {p : Program} {l : Launch} {e : Env} {s : State} {m : MethodId} {args : Array Value} {below : List Frame} {meth : Method} {c : Code} {D : va_G} {cy : Nat → ClassId} {lay : Nat → Nat} {Γ : RG} {post : Int32 → MS → Prop} (a1 : Int32) (hC : CallFix p m c cX11_key 3 s args wsX11_key RX11) (hr : meth.sig.returnType = some .int) (hlocks : meth.locks = false) (hT : rT D cy lay Γ s) : ∀ (n : Nat), ∀ (σ : MS) (v2 : Int32), u_X11_key_34 Γ post a1 n σ v2 → ∀ (H : Heap) (locs : List Loc) (ls : Array Slot), rG D cy lay Γ tn σ (rA cy lay Γ s.heap.size) s.heap H locs → lv_has ls 3 [(0, .ref (lay 0)), (1, .int a1), (2, .int v2)] → W p l e rm_X11_key s m args below meth c H locs 0 0 (MQ below (va_Qi post (rO D cy lay Γ) (rA cy lay Γ s.heap.size)) args s 0 0 (rA cy lay Γ s.heap.size)) (F0 m 34 ls []) := by
  intro n
  induction n with
  | zero =>
    intro σ v2 h
    exact h.elim
  | succ n ih =>
    intro σ v2 h H locs ls G hl
    rw [u_X11_key_34] at h
    refine lv_iload_n hC.1 hC.2.1 dX11_key_34 rfl (lv_at hl 2 rfl) ?_
    refine lv_aload_n hC.1 hC.2.1 dX11_key_35 rfl (lv_at hl 0 rfl) ?_
    refine rg_get hC hT G (by decide) r_mo k_X11 i_X11_key_X11 3 (by decide) (wm 2 rfl) rfl dX11_key_36 ?_
    refine rg_i G (rg_runV (As := []) (rest := [.int v2]) hC hT G (c_lp_Jx4a65c_size_8abf5 l D cy lay Γ h _) (cwV 0 hC.2.2.2.2 gX11_key_Jx4a65c_size_8abf5 rfl rfl rfl hdV_Jx4a65c_size_8abf5 ⟨Nat.le_of_ble_eq_true rfl, Nat.le_of_ble_eq_true rfl⟩) (rg_recv hT G (by decide) r_lp k_AL) rfl hl.1 rfl (Nat.le_of_ble_eq_true rfl) dX11_key_39 ⟨Nat.le_of_ble_eq_true rfl, Nat.le_of_ble_eq_true rfl⟩) (fun r8 σ7 H locs h G => ?_)
    (try dsimp only at h)
    refine lv_icmp_ge (tgt := 66) hC.1 hC.2.1 dX11_key_42 (by decide) (fun c9 => ?_) (fun c9 => ?_)
    · replace h := h.1 c9
      refine lv_iconst (v := (-1)) hC.1 hC.2.1 dX11_key_66 (by decide) ?_
      exact rg_iret hC hr hlocks G h dX11_key_67
    · replace h := h.2 c9
      refine lv_aload_n hC.1 hC.2.1 dX11_key_45 rfl (lv_at hl 0 rfl) ?_
      refine lv_iload_n hC.1 hC.2.1 dX11_key_46 rfl (lv_at hl 1 rfl) ?_
      refine lv_iconst (v := 1) hC.1 hC.2.1 dX11_key_47 (by decide) ?_
      refine lv_iload_n hC.1 hC.2.1 dX11_key_48 rfl (lv_at hl 2 rfl) ?_
      refine lv_ishl hC.1 hC.2.1 dX11_key_49 ?_
      refine lv_iconst (v := 0) hC.1 hC.2.1 dX11_key_50 (by decide) ?_
      refine rg_i G (rg_runV (As := [.int a1, .int (1 <<< (v2 &&& 31)), .int 0]) (rest := []) hC hT G (c_X11_best l D cy lay Γ h _) (cwV 3 hC.2.2.2.2 gX11_key_X11_best rfl rfl rfl hdV_X11_best ⟨Nat.le_of_ble_eq_true rfl, Nat.le_of_ble_eq_true rfl⟩) (rg_recv hT G (by decide) r_mo k_X11) rfl hl.1 rfl (Nat.le_of_ble_eq_true rfl) dX11_key_51 ⟨Nat.le_of_ble_eq_true rfl, Nat.le_of_ble_eq_true rfl⟩) (fun r11 σ10 H locs h G => ?_)
      (try dsimp only at h)
      refine lv_iconst (v := (-1)) hC.1 hC.2.1 dX11_key_54 (by decide) ?_
      refine lv_icmp_ne (tgt := 60) hC.1 hC.2.1 dX11_key_55 (by decide) (fun c12 => ?_) (fun c12 => ?_)
      · replace h := h.2 c12
        refine lv_iinc (v := v2 + 1) (lv' := [(2, .int (v2 + 1)), (0, .ref (lay 0)), (1, .int a1)]) hC.1 hC.2.1 dX11_key_60 hl (k := 2) rfl rfl (by decide) rfl (fun ls hl => ?_)
        refine lv_goto (tgt := 34) hC.1 hC.2.1 dX11_key_63 (by decide) ?_
        exact ih _ _ h _ _ _ G (lv_sub hl [1, 2, 0] rfl)
      · replace h := h.1 c12
        refine lv_iload_n hC.1 hC.2.1 dX11_key_58 rfl (lv_at hl 2 rfl) ?_
        exact rg_iret hC hr hlocks G h dX11_key_59
def w_X11_key (Γ : RG) (post : Int32 → MS → Prop) (σ : MS) (a1 : Int32) : Prop := w_X11_isWedding Γ (fun r2 σ1 => ((r2 = 0 → w_X11_refuse Γ (fun r14 σ13 => post r14 σ13) σ1 1) ∧ (¬ r2 = 0 → w_X11_best Γ (fun r5 σ4 => ((r5 = (-1) → post (-1) σ4) ∧ (¬ r5 = (-1) → (∃ k, u_X11_key_34 Γ post a1 k σ4 0)))) σ1 a1 0 0))) (up2 σ 0 0 0) a1
set_option maxHeartbeats 4000000 in
set_option maxRecDepth 100000 in
theorem c_X11_key (l : Launch) (D : va_G) (cy : Nat → ClassId) (lay : Nat → Nat) (Γ : RG) {σ : MS} {post : Int32 → MS → Prop} {a1 : Int32} (h : w_X11_key Γ post σ a1) (sz : Nat) : Met l yX11_key wsX11_key rm_X11_key (va_Pc [.ref (lay 0), .int a1] (rI D cy lay Γ σ sz)) (va_Qi post (rO D cy lay Γ) (rA cy lay Γ sz)) 0 0 (rA cy lay Γ sz) := by
  refine rg_ofW (cc := cX11_key) (maxL := 3) (ret := some .int) (own := RX11) (Qc := fun sz => va_Qi post (rO D cy lay Γ) (rA cy lay Γ sz)) (by decide) rfl (Nat.le_of_ble_eq_true rfl) rfl ?_
  intro p e s m args below meth c ls hC hr hlocks hT G hl
  unfold w_X11_key at h
  have hl : lv_has ls 3 [(0, .ref (lay 0)), (1, .int a1)] := hl
  refine lv_aload_n hC.1 hC.2.1 dX11_key_0 rfl (lv_at hl 0 rfl) ?_
  refine lv_iconst (v := 0) hC.1 hC.2.1 dX11_key_1 (by decide) ?_
  refine rg_put hC hT G (by decide) r_mo k_X11 i_X11_key_X11 0 (by decide) (wm 1 rfl) rfl rfl (by simp) r_mo (by rw [up2_eq]; rfl) dX11_key_2 (fun H locs G => ?_)
  refine lv_aload_n hC.1 hC.2.1 dX11_key_5 rfl (lv_at hl 0 rfl) ?_
  refine lv_iload_n hC.1 hC.2.1 dX11_key_6 rfl (lv_at hl 1 rfl) ?_
  refine rg_i G (rg_runV (As := [.int a1]) (rest := []) hC hT G (c_X11_isWedding l D cy lay Γ h _) (cwV 1 hC.2.2.2.2 gX11_key_X11_isWedding rfl rfl rfl hdV_X11_isWedding ⟨Nat.le_of_ble_eq_true rfl, Nat.le_of_ble_eq_true rfl⟩) (rg_recv hT G (by decide) r_mo k_X11) rfl hl.1 rfl (Nat.le_of_ble_eq_true rfl) dX11_key_7 ⟨Nat.le_of_ble_eq_true rfl, Nat.le_of_ble_eq_true rfl⟩) (fun r2 σ1 H locs h G => ?_)
  (try dsimp only at h)
  refine lv_if_ne (tgt := 19) hC.1 hC.2.1 dX11_key_10 (by decide) (fun c3 => ?_) (fun c3 => ?_)
  · replace h := h.2 c3
    refine lv_aload_n hC.1 hC.2.1 dX11_key_19 rfl (lv_at hl 0 rfl) ?_
    refine lv_iload_n hC.1 hC.2.1 dX11_key_20 rfl (lv_at hl 1 rfl) ?_
    refine lv_iconst (v := 0) hC.1 hC.2.1 dX11_key_21 (by decide) ?_
    refine lv_iconst (v := 0) hC.1 hC.2.1 dX11_key_22 (by decide) ?_
    refine rg_i G (rg_runV (As := [.int a1, .int 0, .int 0]) (rest := []) hC hT G (c_X11_best l D cy lay Γ h _) (cwV 3 hC.2.2.2.2 gX11_key_X11_best rfl rfl rfl hdV_X11_best ⟨Nat.le_of_ble_eq_true rfl, Nat.le_of_ble_eq_true rfl⟩) (rg_recv hT G (by decide) r_mo k_X11) rfl hl.1 rfl (Nat.le_of_ble_eq_true rfl) dX11_key_23 ⟨Nat.le_of_ble_eq_true rfl, Nat.le_of_ble_eq_true rfl⟩) (fun r5 σ4 H locs h G => ?_)
    (try dsimp only at h)
    refine lv_iconst (v := (-1)) hC.1 hC.2.1 dX11_key_26 (by decide) ?_
    refine lv_icmp_ne (tgt := 32) hC.1 hC.2.1 dX11_key_27 (by decide) (fun c6 => ?_) (fun c6 => ?_)
    · replace h := h.2 c6
      refine lv_iconst (v := 0) hC.1 hC.2.1 dX11_key_32 (by decide) ?_
      refine lv_istore_n (lv' := [(2, .int 0), (0, .ref (lay 0)), (1, .int a1)]) hC.1 hC.2.1 dX11_key_33 rfl hl (by decide) rfl (fun ls hl => ?_)
      obtain ⟨n1, h⟩ := h
      exact l_X11_key_34 a1 hC hr hlocks hT n1 _ _ h _ _ _ G (lv_sub hl [1, 2, 0] rfl)
    · replace h := h.1 c6
      refine lv_iconst (v := (-1)) hC.1 hC.2.1 dX11_key_30 (by decide) ?_
      exact rg_iret hC hr hlocks G h dX11_key_31
  · replace h := h.1 c3
    refine lv_aload_n hC.1 hC.2.1 dX11_key_13 rfl (lv_at hl 0 rfl) ?_
    refine lv_iconst (v := 1) hC.1 hC.2.1 dX11_key_14 (by decide) ?_
    refine rg_i G (rg_runV (As := [.int 1]) (rest := []) hC hT G (c_X11_refuse l D cy lay Γ h _) (cwV 1 hC.2.2.2.2 gX11_key_X11_refuse rfl rfl rfl hdV_X11_refuse ⟨Nat.le_of_ble_eq_true rfl, Nat.le_of_ble_eq_true rfl⟩) (rg_recv hT G (by decide) r_mo k_X11) rfl hl.1 rfl (Nat.le_of_ble_eq_true rfl) dX11_key_15 ⟨Nat.le_of_ble_eq_true rfl, Nat.le_of_ble_eq_true rfl⟩) (fun r14 σ13 H locs h G => ?_)
    (try dsimp only at h)
    exact rg_iret hC hr hlocks G h dX11_key_18
theorem hdV_X11_key : yX11_key.cls = RX11 ∧ yX11_key.cls ≠ "java/lang/invoke/MethodHandle" ∧ yX11_key.cls ≠ "java/lang/invoke/VarHandle" ∧ (parseMethodDescriptor yX11_key.desc).map (fun d => d.parameters.length) = some 1 := by decide +kernel
abbrev rm_X11_add : Room := { frames := 0, cells := 0, slots := 0, locals := 0 }
theorem i_X11_add_X11 : ∀ w ∈ wsX110, w ∈ wsX11_add := fun _ h => List.mem_cons_of_mem _ (List.mem_append_right _ h)
def w_X11_add (Γ : RG) (post : MS → Prop) (σ : MS) (a1 : Int64) : Prop := post (up2 (up2 σ 0 12 (hi32 (((m64 (σ 0 12) (σ 0 13)) * 31) + a1))) 0 13 (lo32 (((m64 (σ 0 12) (σ 0 13)) * 31) + a1)))
set_option maxHeartbeats 4000000 in
set_option maxRecDepth 100000 in
theorem c_X11_add (l : Launch) (D : va_G) (cy : Nat → ClassId) (lay : Nat → Nat) (Γ : RG) {σ : MS} {post : MS → Prop} {a1 : Int64} (h : w_X11_add Γ post σ a1) (sz : Nat) : Met l yX11_add wsX11_add rm_X11_add (va_Pc [.ref (lay 0), .long a1] (rI D cy lay Γ σ sz)) (va_Qv post (rO D cy lay Γ) (rA cy lay Γ sz)) 0 0 (rA cy lay Γ sz) := by
  refine rg_ofW (cc := cX11_add) (maxL := 3) (ret := none) (own := RX11) (Qc := fun sz => va_Qv post (rO D cy lay Γ) (rA cy lay Γ sz)) (by decide) rfl (Nat.le_of_ble_eq_true rfl) rfl ?_
  intro p e s m args below meth c ls hC hr hlocks hT G hl
  unfold w_X11_add at h
  have hl : lv_has ls 3 [(0, .ref (lay 0)), (1, .long a1)] := hl
  refine lv_aload_n hC.1 hC.2.1 dX11_add_0 rfl (lv_at hl 0 rfl) ?_
  refine lv_aload_n hC.1 hC.2.1 dX11_add_1 rfl (lv_at hl 0 rfl) ?_
  refine rg_get hC hT G (by decide) r_mo k_X11 i_X11_add_X11 12 (by decide) (wm 1 rfl) rfl dX11_add_2 ?_
  refine lv_ldc2 (v := 31) hC.1 hC.2.1 hC.2.2.2.1 (hC.2.2.2.2 _ (wm 2 rfl)) dX11_add_5 ?_
  refine lv_lmul hC.1 hC.2.1 dX11_add_8 ?_
  refine lv_lload_n hC.1 hC.2.1 dX11_add_9 rfl (lv_at hl 1 rfl) ?_
  refine lv_ladd hC.1 hC.2.1 dX11_add_10 ?_
  refine rg_putS hC hT G i_X11_add_X11 (wm 1 rfl) dX11_add_11 (fun H locs G => ?_)
  exact rg_vret hC hr hlocks G h dX11_add_14
theorem hdV_X11_add : yX11_add.cls = RX11 ∧ yX11_add.cls ≠ "java/lang/invoke/MethodHandle" ∧ yX11_add.cls ≠ "java/lang/invoke/VarHandle" ∧ (parseMethodDescriptor yX11_add.desc).map (fun d => d.parameters.length) = some 1 := by decide +kernel
abbrev rm_X11_weddingsOf : Room := { frames := 3, cells := 1, slots := 16, locals := 64 }
theorem i_X11_weddingsOf_X11 : ∀ w ∈ wsX110, w ∈ wsX11_weddingsOf := fun _ h => List.mem_cons_of_mem _ (List.mem_append_left _ (List.mem_append_left _ (List.mem_append_right _ h)))
theorem i_X11_weddingsOf_X10 : ∀ w ∈ wsX100, w ∈ wsX11_weddingsOf := fun _ h => List.mem_cons_of_mem _ (List.mem_append_left _ (List.mem_append_right _ h))
def u_X11_weddingsOf_83 (Γ : RG) (post : Nat → (Nat → Int32) → MS → Prop) (a1 : Int32) (K6 : MS → Int32 → Prop) (σ : MS) (v3 : Int32) (v4 : Nat) (t0 : Int32) (t1 : Int32) (t2 : Int32) : Prop := (vp_in t2 3 ∧ (vp_in 2 3 ∧ ((((up2 σ 64 (Int32.toNatClampNeg t2) (t1 + t0)) (33 + v4) 7) = 2 → (vp_in 2 3 ∧ K6 (up2 (up2 σ 64 (Int32.toNatClampNeg t2) (t1 + t0)) 64 (Int32.toNatClampNeg 2) (((up2 σ 64 (Int32.toNatClampNeg t2) (t1 + t0)) 64 (Int32.toNatClampNeg 2)) + ((up2 σ 64 (Int32.toNatClampNeg t2) (t1 + t0)) (33 + v4) 4))) (v3 + 1))) ∧ (¬ ((up2 σ 64 (Int32.toNatClampNeg t2) (t1 + t0)) (33 + v4) 7) = 2 → (vp_in 2 3 ∧ K6 (up2 (up2 σ 64 (Int32.toNatClampNeg t2) (t1 + t0)) 64 (Int32.toNatClampNeg 2) (((up2 σ 64 (Int32.toNatClampNeg t2) (t1 + t0)) 64 (Int32.toNatClampNeg 2)) + 0)) (v3 + 1))))))
set_option maxHeartbeats 4000000 in
set_option maxRecDepth 100000 in
theorem l_X11_weddingsOf_83 {p : Program} {l : Launch} {e : Env} {s : State} {m : MethodId} {args : Array Value} {below : List Frame} {meth : Method} {c : Code} {D : va_G} {cy : Nat → ClassId} {lay : Nat → Nat} {Γ : RG} {post : Nat → (Nat → Int32) → MS → Prop} (a1 : Int32) (K6 : MS → Int32 → Prop) (hC : CallFix p m c cX11_weddingsOf 5 s args wsX11_weddingsOf RX11) (hr : meth.sig.returnType = some (.array .int)) (hlocks : meth.locks = false) (hT : rT D cy lay Γ s) (hK6 : ∀ (σ : MS) (v3 : Int32), K6 σ v3 → ∀ (H : Heap) (locs : List Loc) (ls : Array Slot), rG D cy lay Γ (gU tn 64 (some (0, 3))) σ (rA cy lay Γ s.heap.size) s.heap H locs → lv_has ls 5 [(0, .ref (lay 0)), (1, .int a1), (2, .ref (lay 64)), (3, .int v3)] → W p l e rm_X11_weddingsOf s m args below meth c H locs 1 16 (MQ below (rQA post D cy lay Γ s.heap.size (rA cy lay Γ s.heap.size)) args s 1 16 (rA cy lay Γ s.heap.size)) (F0 m 6 ls [])) : ∀ (σ : MS) (v3 : Int32) (v4 : Nat) (t0 : Int32) (t1 : Int32) (t2 : Int32), u_X11_weddingsOf_83 Γ post a1 K6 σ v3 v4 t0 t1 t2 → ∀ (hv4 : v4 < 14 ∧ v4 < Γ.2.2.1), ∀ (H : Heap) (locs : List Loc) (ls : Array Slot), rG D cy lay Γ (gU tn 64 (some (0, 3))) σ (rA cy lay Γ s.heap.size) s.heap H locs → lv_has ls 5 [(0, .ref (lay 0)), (1, .int a1), (2, .ref (lay 64)), (3, .int v3), (4, .ref (lay (33 + v4)))] → W p l e rm_X11_weddingsOf s m args below meth c H locs 1 16 (MQ below (rQA post D cy lay Γ s.heap.size (rA cy lay Γ s.heap.size)) args s 1 16 (rA cy lay Γ s.heap.size)) (F0 m 83 ls [.int t0, .int t1, .int t2, .ref (lay 64)]) := by
  intro σ v3 v4 t0 t1 t2 h hv4 H locs ls G hl
  unfold u_X11_weddingsOf_83 at h
  refine lv_iadd hC.1 hC.2.1 dX11_weddingsOf_83 ?_
  obtain ⟨hn15, h⟩ := h
  refine rg_iast hC hT G (by decide) (fun _ => (r_ti (by decide) rfl)) hn15 dX11_weddingsOf_84 (fun H locs G => ?_)
  refine lv_aload_n hC.1 hC.2.1 dX11_weddingsOf_85 rfl (lv_at hl 2 rfl) ?_
  refine lv_iconst (v := 2) hC.1 hC.2.1 dX11_weddingsOf_86 (by decide) ?_
  refine lv_dup2_11 hC.1 hC.2.1 dX11_weddingsOf_87 rfl rfl ?_
  obtain ⟨hn16, h⟩ := h
  refine rg_iald hC hT G (by decide) (r_ti (by decide) rfl) hn16 dX11_weddingsOf_88 ?_
  refine lv_aload hC.1 hC.2.1 dX11_weddingsOf_89 (lv_at hl 4 rfl) ?_
  refine rg_getN hC hT G (rk_wd hv4) (r_wd hv4) k_X10 i_X11_weddingsOf_X10 7 (by decide) 17 rfl rfl dX11_weddingsOf_91 ?_
  refine lv_iconst (v := 2) hC.1 hC.2.1 dX11_weddingsOf_94 (by decide) ?_
  refine lv_icmp_ne (tgt := 106) hC.1 hC.2.1 dX11_weddingsOf_95 (by decide) (fun c17 => ?_) (fun c17 => ?_)
  · replace h := h.2 c17
    refine lv_iconst (v := 0) hC.1 hC.2.1 dX11_weddingsOf_106 (by decide) ?_
    refine lv_iadd hC.1 hC.2.1 dX11_weddingsOf_107 ?_
    obtain ⟨hn18, h⟩ := h
    refine rg_iast hC hT G (by decide) (fun _ => (r_ti (by decide) rfl)) hn18 dX11_weddingsOf_108 (fun H locs G => ?_)
    refine lv_iinc (v := v3 + 1) (lv' := [(3, .int (v3 + 1)), (0, .ref (lay 0)), (1, .int a1), (2, .ref (lay 64)), (4, .ref (lay (33 + v4)))]) hC.1 hC.2.1 dX11_weddingsOf_109 hl (k := 3) rfl rfl (by decide) rfl (fun ls hl => ?_)
    refine lv_goto (tgt := 6) hC.1 hC.2.1 dX11_weddingsOf_112 (by decide) ?_
    exact hK6 _ _ h _ _ _ G (lv_sub hl [1, 2, 3, 0] rfl)
  · replace h := h.1 c17
    refine lv_aload hC.1 hC.2.1 dX11_weddingsOf_98 (lv_at hl 4 rfl) ?_
    refine rg_getN hC hT G (rk_wd hv4) (r_wd hv4) k_X10 i_X11_weddingsOf_X10 4 (by decide) 14 rfl rfl dX11_weddingsOf_100 ?_
    refine lv_goto (tgt := 107) hC.1 hC.2.1 dX11_weddingsOf_103 (by decide) ?_
    refine lv_iadd hC.1 hC.2.1 dX11_weddingsOf_107 ?_
    obtain ⟨hn19, h⟩ := h
    refine rg_iast hC hT G (by decide) (fun _ => (r_ti (by decide) rfl)) hn19 dX11_weddingsOf_108 (fun H locs G => ?_)
    refine lv_iinc (v := v3 + 1) (lv' := [(3, .int (v3 + 1)), (0, .ref (lay 0)), (1, .int a1), (2, .ref (lay 64)), (4, .ref (lay (33 + v4)))]) hC.1 hC.2.1 dX11_weddingsOf_109 hl (k := 3) rfl rfl (by decide) rfl (fun ls hl => ?_)
    refine lv_goto (tgt := 6) hC.1 hC.2.1 dX11_weddingsOf_112 (by decide) ?_
    exact hK6 _ _ h _ _ _ G (lv_sub hl [1, 2, 3, 0] rfl)
def u_X11_weddingsOf_63 (Γ : RG) (post : Nat → (Nat → Int32) → MS → Prop) (a1 : Int32) (K6 : MS → Int32 → Prop) (σ : MS) (v3 : Int32) (v4 : Nat) (t0 : Int32) (t1 : Int32) (t2 : Int32) : Prop := (vp_in t2 3 ∧ (vp_in 1 3 ∧ ((((up2 σ 64 (Int32.toNatClampNeg t2) (t1 + t0)) (33 + v4) 7) = 2 → u_X11_weddingsOf_83 Γ post a1 K6 (up2 σ 64 (Int32.toNatClampNeg t2) (t1 + t0)) v3 v4 1 ((up2 σ 64 (Int32.toNatClampNeg t2) (t1 + t0)) 64 (Int32.toNatClampNeg 1)) 1) ∧ (¬ ((up2 σ 64 (Int32.toNatClampNeg t2) (t1 + t0)) (33 + v4) 7) = 2 → u_X11_weddingsOf_83 Γ post a1 K6 (up2 σ 64 (Int32.toNatClampNeg t2) (t1 + t0)) v3 v4 0 ((up2 σ 64 (Int32.toNatClampNeg t2) (t1 + t0)) 64 (Int32.toNatClampNeg 1)) 1))))
set_option maxHeartbeats 4000000 in
set_option maxRecDepth 100000 in
theorem l_X11_weddingsOf_63 {p : Program} {l : Launch} {e : Env} {s : State} {m : MethodId} {args : Array Value} {below : List Frame} {meth : Method} {c : Code} {D : va_G} {cy : Nat → ClassId} {lay : Nat → Nat} {Γ : RG} {post : Nat → (Nat → Int32) → MS → Prop} (a1 : Int32) (K6 : MS → Int32 → Prop) (hC : CallFix p m c cX11_weddingsOf 5 s args wsX11_weddingsOf RX11) (hr : meth.sig.returnType = some (.array .int)) (hlocks : meth.locks = false) (hT : rT D cy lay Γ s) (hK6 : ∀ (σ : MS) (v3 : Int32), K6 σ v3 → ∀ (H : Heap) (locs : List Loc) (ls : Array Slot), rG D cy lay Γ (gU tn 64 (some (0, 3))) σ (rA cy lay Γ s.heap.size) s.heap H locs → lv_has ls 5 [(0, .ref (lay 0)), (1, .int a1), (2, .ref (lay 64)), (3, .int v3)] → W p l e rm_X11_weddingsOf s m args below meth c H locs 1 16 (MQ below (rQA post D cy lay Γ s.heap.size (rA cy lay Γ s.heap.size)) args s 1 16 (rA cy lay Γ s.heap.size)) (F0 m 6 ls [])) : ∀ (σ : MS) (v3 : Int32) (v4 : Nat) (t0 : Int32) (t1 : Int32) (t2 : Int32), u_X11_weddingsOf_63 Γ post a1 K6 σ v3 v4 t0 t1 t2 → ∀ (hv4 : v4 < 14 ∧ v4 < Γ.2.2.1), ∀ (H : Heap) (locs : List Loc) (ls : Array Slot), rG D cy lay Γ (gU tn 64 (some (0, 3))) σ (rA cy lay Γ s.heap.size) s.heap H locs → lv_has ls 5 [(0, .ref (lay 0)), (1, .int a1), (2, .ref (lay 64)), (3, .int v3), (4, .ref (lay (33 + v4)))] → W p l e rm_X11_weddingsOf s m args below meth c H locs 1 16 (MQ below (rQA post D cy lay Γ s.heap.size (rA cy lay Γ s.heap.size)) args s 1 16 (rA cy lay Γ s.heap.size)) (F0 m 63 ls [.int t0, .int t1, .int t2, .ref (lay 64)]) := by
  intro σ v3 v4 t0 t1 t2 h hv4 H locs ls G hl
  unfold u_X11_weddingsOf_63 at h
  refine lv_iadd hC.1 hC.2.1 dX11_weddingsOf_63 ?_
  obtain ⟨hn12, h⟩ := h
  refine rg_iast hC hT G (by decide) (fun _ => (r_ti (by decide) rfl)) hn12 dX11_weddingsOf_64 (fun H locs G => ?_)
  refine lv_aload_n hC.1 hC.2.1 dX11_weddingsOf_65 rfl (lv_at hl 2 rfl) ?_
  refine lv_iconst (v := 1) hC.1 hC.2.1 dX11_weddingsOf_66 (by decide) ?_
  refine lv_dup2_11 hC.1 hC.2.1 dX11_weddingsOf_67 rfl rfl ?_
  obtain ⟨hn13, h⟩ := h
  refine rg_iald hC hT G (by decide) (r_ti (by decide) rfl) hn13 dX11_weddingsOf_68 ?_
  refine lv_aload hC.1 hC.2.1 dX11_weddingsOf_69 (lv_at hl 4 rfl) ?_
  refine rg_getN hC hT G (rk_wd hv4) (r_wd hv4) k_X10 i_X11_weddingsOf_X10 7 (by decide) 17 rfl rfl dX11_weddingsOf_71 ?_
  refine lv_iconst (v := 2) hC.1 hC.2.1 dX11_weddingsOf_74 (by decide) ?_
  refine lv_icmp_ne (tgt := 82) hC.1 hC.2.1 dX11_weddingsOf_75 (by decide) (fun c14 => ?_) (fun c14 => ?_)
  · replace h := h.2 c14
    refine lv_iconst (v := 0) hC.1 hC.2.1 dX11_weddingsOf_82 (by decide) ?_
    exact l_X11_weddingsOf_83 a1 K6 hC hr hlocks hT hK6 _ _ _ _ _ _ h hv4 _ _ _ G (lv_sub hl [0, 1, 2, 3, 4] rfl)
  · replace h := h.1 c14
    refine lv_iconst (v := 1) hC.1 hC.2.1 dX11_weddingsOf_78 (by decide) ?_
    refine lv_goto (tgt := 83) hC.1 hC.2.1 dX11_weddingsOf_79 (by decide) ?_
    exact l_X11_weddingsOf_83 a1 K6 hC hr hlocks hT hK6 _ _ _ _ _ _ h hv4 _ _ _ G (lv_sub hl [0, 1, 2, 3, 4] rfl)
def u_X11_weddingsOf_6 (Γ : RG) (post : Nat → (Nat → Int32) → MS → Prop) (a1 : Int32) : Nat → MS → Int32 → Prop
  | 0, _, _ => False
  | n + 1, σ, v3 => w_lw_Jx4a65c_size_8abf5 Γ (fun r2 σ1 => ((r2 ≤ v3 → post 3 ((mrg σ1 σ) 64) (mrg σ1 σ)) ∧ (¬ r2 ≤ v3 → w_lw_Jx4a65c_get_915e3 Γ (fun j5 σ4 => ((j5 < 14 ∧ j5 < Γ.2.2.1) ∧ w_X11_isIn Γ (fun r8 σ7 => ((r8 = 0 → u_X11_weddingsOf_6 Γ post a1 n (mrg σ7 (mrg σ4 (mrg σ1 σ))) (v3 + 1)) ∧ (¬ r8 = 0 → (vp_in 0 3 ∧ ((((mrg σ7 (mrg σ4 (mrg σ1 σ))) (33 + j5) 7) = 1 → u_X11_weddingsOf_63 Γ post a1 (fun σ w0 => u_X11_weddingsOf_6 Γ post a1 n σ w0) (mrg σ7 (mrg σ4 (mrg σ1 σ))) v3 j5 1 ((mrg σ7 (mrg σ4 (mrg σ1 σ))) 64 (Int32.toNatClampNeg 0)) 0) ∧ (¬ ((mrg σ7 (mrg σ4 (mrg σ1 σ))) (33 + j5) 7) = 1 → u_X11_weddingsOf_63 Γ post a1 (fun σ w0 => u_X11_weddingsOf_6 Γ post a1 n σ w0) (mrg σ7 (mrg σ4 (mrg σ1 σ))) v3 j5 0 ((mrg σ7 (mrg σ4 (mrg σ1 σ))) 64 (Int32.toNatClampNeg 0)) 0)))))) (mrg σ4 (mrg σ1 σ)) ((mrg σ4 (mrg σ1 σ)) (33 + j5) 8) a1)) (mrg σ1 σ) v3))) σ
set_option maxHeartbeats 4000000 in
set_option maxRecDepth 100000 in
theorem l_X11_weddingsOf_6 {p : Program} {l : Launch} {e : Env} {s : State} {m : MethodId} {args : Array Value} {below : List Frame} {meth : Method} {c : Code} {D : va_G} {cy : Nat → ClassId} {lay : Nat → Nat} {Γ : RG} {post : Nat → (Nat → Int32) → MS → Prop} (a1 : Int32) (hC : CallFix p m c cX11_weddingsOf 5 s args wsX11_weddingsOf RX11) (hr : meth.sig.returnType = some (.array .int)) (hlocks : meth.locks = false) (hT : rT D cy lay Γ s) : ∀ (n : Nat), ∀ (σ : MS) (v3 : Int32), u_X11_weddingsOf_6 Γ post a1 n σ v3 → ∀ (H : Heap) (locs : List Loc) (ls : Array Slot), rG D cy lay Γ (gU tn 64 (some (0, 3))) σ (rA cy lay Γ s.heap.size) s.heap H locs → lv_has ls 5 [(0, .ref (lay 0)), (1, .int a1), (2, .ref (lay 64)), (3, .int v3)] → W p l e rm_X11_weddingsOf s m args below meth c H locs 1 16 (MQ below (rQA post D cy lay Γ s.heap.size (rA cy lay Γ s.heap.size)) args s 1 16 (rA cy lay Γ s.heap.size)) (F0 m 6 ls []) := by
  intro n
  induction n with
  | zero =>
    intro σ v3 h
    exact h.elim
  | succ n ih =>
    intro σ v3 h H locs ls G hl
    rw [u_X11_weddingsOf_6] at h
    refine lv_iload_n hC.1 hC.2.1 dX11_weddingsOf_6 rfl (lv_at hl 3 rfl) ?_
    refine lv_aload_n hC.1 hC.2.1 dX11_weddingsOf_7 rfl (lv_at hl 0 rfl) ?_
    refine rg_get hC hT G (by decide) r_mo k_X11 i_X11_weddingsOf_X11 5 (by decide) (wm 2 rfl) rfl dX11_weddingsOf_8 ?_
    refine rg_iM hT G (rg_runV (As := []) (rest := [.int v3]) hC hT (rG_drop G hT.2.2.2) (c_lw_Jx4a65c_size_8abf5 l D cy lay Γ h _) (cwV 0 hC.2.2.2.2 gX11_weddingsOf_Jx4a65c_size_8abf5 rfl rfl rfl hdV_Jx4a65c_size_8abf5 ⟨Nat.le_of_ble_eq_true rfl, Nat.le_of_ble_eq_true rfl⟩) (rg_recv hT (rG_drop G hT.2.2.2) (by decide) r_lw k_AL) rfl hl.1 rfl (Nat.le_of_ble_eq_true rfl) dX11_weddingsOf_11 ⟨Nat.le_of_ble_eq_true rfl, Nat.le_of_ble_eq_true rfl⟩) (fun r2 σ1 H locs h G => ?_)
    (try dsimp only at h)
    refine lv_icmp_ge (tgt := 115) hC.1 hC.2.1 dX11_weddingsOf_14 (by decide) (fun c3 => ?_) (fun c3 => ?_)
    · replace h := h.1 c3
      refine lv_aload_n hC.1 hC.2.1 dX11_weddingsOf_115 rfl (lv_at hl 2 rfl) ?_
      refine W.widen (k := 1) (n := 16) (by decide) (by decide) ?_
      exact rg_aret hC hr (Or.inr ⟨_, rfl⟩) hlocks hT G (by decide) (by decide) rfl h dX11_weddingsOf_116
    · replace h := h.2 c3
      refine lv_aload_n hC.1 hC.2.1 dX11_weddingsOf_17 rfl (lv_at hl 0 rfl) ?_
      refine rg_get hC hT G (by decide) r_mo k_X11 i_X11_weddingsOf_X11 5 (by decide) (wm 2 rfl) rfl dX11_weddingsOf_18 ?_
      refine lv_iload_n hC.1 hC.2.1 dX11_weddingsOf_21 rfl (lv_at hl 3 rfl) ?_
      refine rg_rM (f := fun i => lay (33 + i)) hT G (rg_runV (As := [.int v3]) (rest := []) hC hT (rG_drop G hT.2.2.2) (c_lw_Jx4a65c_get_915e3 l D cy lay Γ h _) (cwV 1 hC.2.2.2.2 gX11_weddingsOf_Jx4a65c_get_915e3 rfl rfl rfl hdV_Jx4a65c_get_915e3 ⟨Nat.le_of_ble_eq_true rfl, Nat.le_of_ble_eq_true rfl⟩) (rg_recv hT (rG_drop G hT.2.2.2) (by decide) r_lw k_AL) rfl hl.1 rfl (Nat.le_of_ble_eq_true rfl) dX11_weddingsOf_22 ⟨Nat.le_of_ble_eq_true rfl, Nat.le_of_ble_eq_true rfl⟩) (fun j5 σ4 H locs h G => ?_)
      (try dsimp only at h)
      obtain ⟨hj6, h⟩ := h
      refine rg_cast hC hT k_X10 (wm 3 rfl) (rg_recv hT G (rk_wd hj6) (r_wd hj6) k_X10) dX11_weddingsOf_25 ?_
      refine lv_astore (lv' := [(4, .ref (lay (33 + j5))), (0, .ref (lay 0)), (1, .int a1), (2, .ref (lay 64)), (3, .int v3)]) hC.1 hC.2.1 dX11_weddingsOf_28 hl (by decide) rfl (fun ls hl => ?_)
      refine lv_aload hC.1 hC.2.1 dX11_weddingsOf_30 (lv_at hl 0 rfl) ?_
      refine rg_getN hC hT G (rk_wd hj6) (r_wd hj6) k_X10 i_X11_weddingsOf_X10 8 (by decide) 18 rfl rfl dX11_weddingsOf_32 ?_
      refine lv_iload_n hC.1 hC.2.1 dX11_weddingsOf_35 rfl (lv_at hl 2 rfl) ?_
      refine rg_iM hT G (rg_runS (As := [.int ((mrg σ4 (mrg σ1 σ)) (33 + j5) 8), .int a1]) (rest := []) hC hT (rG_drop G hT.2.2.2) (c_X11_isIn l D cy lay Γ h _) (va_cwS 2 hC.2.2.2.2 gX11_weddingsOf_X11_isIn rfl rfl rfl hdS_X11_isIn ⟨Nat.le_of_ble_eq_true rfl, Nat.le_of_ble_eq_true rfl⟩) rfl hl.1 rfl (Nat.le_of_ble_eq_true rfl) dX11_weddingsOf_36 ⟨Nat.le_of_ble_eq_true rfl, Nat.le_of_ble_eq_true rfl⟩) (fun r8 σ7 H locs h G => ?_)
      (try dsimp only at h)
      refine lv_if_ne (tgt := 45) hC.1 hC.2.1 dX11_weddingsOf_39 (by decide) (fun c9 => ?_) (fun c9 => ?_)
      · replace h := h.2 c9
        refine lv_aload_n hC.1 hC.2.1 dX11_weddingsOf_45 rfl (lv_at hl 3 rfl) ?_
        refine lv_iconst (v := 0) hC.1 hC.2.1 dX11_weddingsOf_46 (by decide) ?_
        refine lv_dup2_11 hC.1 hC.2.1 dX11_weddingsOf_47 rfl rfl ?_
        obtain ⟨hn10, h⟩ := h
        refine rg_iald hC hT G (by decide) (r_ti (by decide) rfl) hn10 dX11_weddingsOf_48 ?_
        refine lv_aload hC.1 hC.2.1 dX11_weddingsOf_49 (lv_at hl 0 rfl) ?_
        refine rg_getN hC hT G (rk_wd hj6) (r_wd hj6) k_X10 i_X11_weddingsOf_X10 7 (by decide) 17 rfl rfl dX11_weddingsOf_51 ?_
        refine lv_iconst (v := 1) hC.1 hC.2.1 dX11_weddingsOf_54 (by decide) ?_
        refine lv_icmp_ne (tgt := 62) hC.1 hC.2.1 dX11_weddingsOf_55 (by decide) (fun c11 => ?_) (fun c11 => ?_)
        · replace h := h.2 c11
          refine lv_iconst (v := 0) hC.1 hC.2.1 dX11_weddingsOf_62 (by decide) ?_
          exact l_X11_weddingsOf_63 a1 (fun σ w0 => u_X11_weddingsOf_6 Γ post a1 n σ w0) hC hr hlocks hT ih _ _ _ _ _ _ h hj6 _ _ _ G (lv_sub hl [1, 2, 3, 4, 0] rfl)
        · replace h := h.1 c11
          refine lv_iconst (v := 1) hC.1 hC.2.1 dX11_weddingsOf_58 (by decide) ?_
          refine lv_goto (tgt := 63) hC.1 hC.2.1 dX11_weddingsOf_59 (by decide) ?_
          exact l_X11_weddingsOf_63 a1 (fun σ w0 => u_X11_weddingsOf_6 Γ post a1 n σ w0) hC hr hlocks hT ih _ _ _ _ _ _ h hj6 _ _ _ G (lv_sub hl [1, 2, 3, 4, 0] rfl)
      · replace h := h.1 c9
        refine lv_goto (tgt := 109) hC.1 hC.2.1 dX11_weddingsOf_42 (by decide) ?_
        refine lv_iinc (v := v3 + 1) (lv' := [(3, .int (v3 + 1)), (4, .ref (lay (33 + j5))), (0, .ref (lay 0)), (1, .int a1), (2, .ref (lay 64))]) hC.1 hC.2.1 dX11_weddingsOf_109 hl (k := 4) rfl rfl (by decide) rfl (fun ls hl => ?_)
        refine lv_goto (tgt := 6) hC.1 hC.2.1 dX11_weddingsOf_112 (by decide) ?_
        exact ih _ _ h _ _ _ G (lv_sub hl [2, 3, 4, 0] rfl)
def w_X11_weddingsOf (Γ : RG) (post : Nat → (Nat → Int32) → MS → Prop) (σ : MS) (a1 : Int32) : Prop := (∃ k, u_X11_weddingsOf_6 Γ post a1 k (rw0 σ 64 (fun _ => 0)) 0)
set_option maxHeartbeats 4000000 in
set_option maxRecDepth 100000 in
theorem c_X11_weddingsOf (l : Launch) (D : va_G) (cy : Nat → ClassId) (lay : Nat → Nat) (Γ : RG) {σ : MS} {post : Nat → (Nat → Int32) → MS → Prop} {a1 : Int32} (h : w_X11_weddingsOf Γ post σ a1) (sz : Nat) : Met l yX11_weddingsOf wsX11_weddingsOf rm_X11_weddingsOf (va_Pc [.ref (lay 0), .int a1] (rI D cy lay Γ σ sz)) (rQA post D cy lay Γ sz (rA cy lay Γ sz)) 1 16 (rA cy lay Γ sz) := by
  refine rg_ofW (cc := cX11_weddingsOf) (maxL := 5) (ret := some (.array .int)) (own := RX11) (Qc := fun sz => rQA post D cy lay Γ sz (rA cy lay Γ sz)) (by decide) rfl (Nat.le_of_ble_eq_true rfl) rfl ?_
  intro p e s m args below meth c ls hC hr hlocks hT G hl
  unfold w_X11_weddingsOf at h
  have hl : lv_has ls 5 [(0, .ref (lay 0)), (1, .int a1)] := hl
  refine lv_iconst (v := 3) hC.1 hC.2.1 dX11_weddingsOf_0 (by decide) ?_
  refine rg_newi (Q := fun lay => MQ below (rQA post D cy lay Γ s.heap.size (rA cy lay Γ s.heap.size)) args s 1 16 (rA cy lay Γ s.heap.size)) (ql_a hT.2.2.2) hC hT G tmO_n (k := 64) (by decide) (by decide) rfl (wm 1 rfl) (N := 3) (by decide) rfl (by decide) (Nat.le_of_ble_eq_true rfl) (Nat.le_of_ble_eq_true rfl) dX11_weddingsOf_1 (fun lay hly hT H G => ?_)
  refine W.widen (k := 1) (n := 16) (by decide) (by decide) ?_
  replace hl : lv_has ls 5 [(0, .ref (lay 0)), (1, .int a1)] := by rw [hly 0 (by decide)]; exact hl
  refine lv_astore_n (lv' := [(2, .ref (lay 64)), (0, .ref (lay 0)), (1, .int a1)]) hC.1 hC.2.1 dX11_weddingsOf_3 rfl hl (by decide) rfl (fun ls hl => ?_)
  refine lv_iconst (v := 0) hC.1 hC.2.1 dX11_weddingsOf_4 (by decide) ?_
  refine lv_istore_n (lv' := [(3, .int 0), (2, .ref (lay 64)), (0, .ref (lay 0)), (1, .int a1)]) hC.1 hC.2.1 dX11_weddingsOf_5 rfl hl (by decide) rfl (fun ls hl => ?_)
  obtain ⟨n1, h⟩ := h
  exact l_X11_weddingsOf_6 a1 hC hr hlocks hT n1 _ _ h _ _ _ G (lv_sub hl [2, 3, 1, 0] rfl)
theorem hdV_X11_weddingsOf : yX11_weddingsOf.cls = RX11 ∧ yX11_weddingsOf.cls ≠ "java/lang/invoke/MethodHandle" ∧ yX11_weddingsOf.cls ≠ "java/lang/invoke/VarHandle" ∧ (parseMethodDescriptor yX11_weddingsOf.desc).map (fun d => d.parameters.length) = some 1 := by decide +kernel
abbrev rm_X11_bestSet : Room := { frames := 4, cells := 4, slots := 64, locals := 88 }
theorem i_X11_bestSet_X11 : ∀ w ∈ wsX110, w ∈ wsX11_bestSet := fun _ h => List.mem_cons_of_mem _ (List.mem_append_left _ (List.mem_append_left _ (List.mem_append_right _ h)))
def u_X11_bestSet_262 (Γ : RG) (post : Nat → (Nat → Int32) → MS → Prop) (a1 : Int32) (K222 : MS → Int32 → Int32 → Int32 → Prop) (σ : MS) (v4 : Int32) (v6 : Int32) (v8 : Int32) : Prop := (vp_in v6 16 ∧ (vp_in v8 16 ∧ K222 (up2 σ 66 (Int32.toNatClampNeg v6) v8) (v4 - ((up2 σ 66 (Int32.toNatClampNeg v6) v8) 9 (Int32.toNatClampNeg v8))) (v6 + 1) v8))
set_option maxHeartbeats 4000000 in
set_option maxRecDepth 100000 in
theorem l_X11_bestSet_262 {p : Program} {l : Launch} {e : Env} {s : State} {m : MethodId} {args : Array Value} {below : List Frame} {meth : Method} {c : Code} {D : va_G} {cy : Nat → ClassId} {lay : Nat → Nat} {Γ : RG} {post : Nat → (Nat → Int32) → MS → Prop} (a1 : Int32) (K222 : MS → Int32 → Int32 → Int32 → Prop) (hC : CallFix p m c cX11_bestSet 9 s args wsX11_bestSet RX11) (hr : meth.sig.returnType = some (.array .int)) (hlocks : meth.locks = false) (hT : rT D cy lay Γ s) (hK222 : ∀ (σ : MS) (v4 : Int32) (v6 : Int32) (v7 : Int32), K222 σ v4 v6 v7 → ∀ (H : Heap) (locs : List Loc) (ls : Array Slot), rG D cy lay Γ (gU (gU (gU tn 64 (some (0, 16))) 65 (some (1, 16))) 66 (some (0, 16))) σ (rA cy lay Γ s.heap.size) s.heap H locs → lv_has ls 9 [(0, .ref (lay 0)), (1, .int a1), (2, .ref (lay 64)), (4, .int v4), (5, .ref (lay 66)), (6, .int v6), (7, .int v7)] → W p l e rm_X11_bestSet s m args below meth c H locs 3 48 (MQ below (rQA post D cy lay Γ s.heap.size (rA cy lay Γ s.heap.size)) args s 4 64 (rA cy lay Γ s.heap.size)) (F0 m 222 ls [])) : ∀ (σ : MS) (v4 : Int32) (v6 : Int32) (v8 : Int32), u_X11_bestSet_262 Γ post a1 K222 σ v4 v6 v8 → ∀ (H : Heap) (locs : List Loc) (ls : Array Slot), rG D cy lay Γ (gU (gU (gU tn 64 (some (0, 16))) 65 (some (1, 16))) 66 (some (0, 16))) σ (rA cy lay Γ s.heap.size) s.heap H locs → lv_has ls 9 [(0, .ref (lay 0)), (1, .int a1), (2, .ref (lay 64)), (4, .int v4), (5, .ref (lay 66)), (6, .int v6), (8, .int v8)] → W p l e rm_X11_bestSet s m args below meth c H locs 3 48 (MQ below (rQA post D cy lay Γ s.heap.size (rA cy lay Γ s.heap.size)) args s 4 64 (rA cy lay Γ s.heap.size)) (F0 m 262 ls []) := by
  intro σ v4 v6 v8 h H locs ls G hl
  unfold u_X11_bestSet_262 at h
  refine lv_aload hC.1 hC.2.1 dX11_bestSet_262 (lv_at hl 4 rfl) ?_
  refine lv_iload hC.1 hC.2.1 dX11_bestSet_264 (lv_at hl 5 rfl) ?_
  refine lv_iload hC.1 hC.2.1 dX11_bestSet_266 (lv_at hl 6 rfl) ?_
  obtain ⟨hn10, h⟩ := h
  refine rg_iast hC hT G (by decide) (fun _ => (r_ti (by decide) rfl)) hn10 dX11_bestSet_268 (fun H locs G => ?_)
  refine lv_iinc (v := v6 + 1) (lv' := [(6, .int (v6 + 1)), (0, .ref (lay 0)), (1, .int a1), (2, .ref (lay 64)), (4, .int v4), (5, .ref (lay 66)), (8, .int v8)]) hC.1 hC.2.1 dX11_bestSet_269 hl (k := 5) rfl rfl (by decide) rfl (fun ls hl => ?_)
  refine lv_iload hC.1 hC.2.1 dX11_bestSet_272 (lv_at hl 4 rfl) ?_
  refine lv_aload_n hC.1 hC.2.1 dX11_bestSet_274 rfl (lv_at hl 1 rfl) ?_
  refine rg_get hC hT G (by decide) r_mo k_X11 i_X11_bestSet_X11 8 (by decide) (wm 4 rfl) rfl dX11_bestSet_275 ?_
  refine lv_iload hC.1 hC.2.1 dX11_bestSet_278 (lv_at hl 6 rfl) ?_
  obtain ⟨hn11, h⟩ := h
  refine rg_iald hC hT G (by decide) r_mi hn11 dX11_bestSet_280 ?_
  refine lv_isub hC.1 hC.2.1 dX11_bestSet_281 ?_
  refine lv_istore (lv' := [(4, .int (v4 - ((up2 σ 66 (Int32.toNatClampNeg v6) v8) 9 (Int32.toNatClampNeg v8)))), (6, .int (v6 + 1)), (0, .ref (lay 0)), (1, .int a1), (2, .ref (lay 64)), (5, .ref (lay 66)), (8, .int v8)]) hC.1 hC.2.1 dX11_bestSet_282 hl (by decide) rfl (fun ls hl => ?_)
  refine lv_iload hC.1 hC.2.1 dX11_bestSet_284 (lv_at hl 6 rfl) ?_
  refine lv_istore (lv' := [(7, .int v8), (4, .int (v4 - ((up2 σ 66 (Int32.toNatClampNeg v6) v8) 9 (Int32.toNatClampNeg v8)))), (6, .int (v6 + 1)), (0, .ref (lay 0)), (1, .int a1), (2, .ref (lay 64)), (5, .ref (lay 66)), (8, .int v8)]) hC.1 hC.2.1 dX11_bestSet_286 hl (by decide) rfl (fun ls hl => ?_)
  refine lv_goto (tgt := 222) hC.1 hC.2.1 dX11_bestSet_288 (by decide) ?_
  exact hK222 _ _ _ _ h _ _ _ G (lv_sub hl [3, 4, 5, 1, 6, 2, 0] rfl)
def u_X11_bestSet_230 (Γ : RG) (post : Nat → (Nat → Int32) → MS → Prop) (a1 : Int32) (K222 : MS → Int32 → Int32 → Int32 → Prop) : Nat → MS → Int32 → Int32 → Int32 → Int32 → Prop
  | 0, _, _, _, _, _ => False
  | n + 1, σ, v4, v6, v7, v8 => (vp_in v8 16 ∧ (((σ 64 (Int32.toNatClampNeg v8)) = v4 → ((v7 = (-1) → u_X11_bestSet_262 Γ post a1 K222 σ v4 v6 v8) ∧ (¬ v7 = (-1) → w_X11_isBehind Γ (fun r13 σ12 => ((r13 = 0 → u_X11_bestSet_230 Γ post a1 K222 n (mrg σ12 σ) v4 v6 v7 (v8 + 1)) ∧ (¬ r13 = 0 → u_X11_bestSet_262 Γ post a1 K222 (mrg σ12 σ) v4 v6 v8))) σ v7 v8))) ∧ (¬ (σ 64 (Int32.toNatClampNeg v8)) = v4 → u_X11_bestSet_230 Γ post a1 K222 n σ v4 v6 v7 (v8 + 1))))
set_option maxHeartbeats 4000000 in
set_option maxRecDepth 100000 in
theorem l_X11_bestSet_230 {p : Program} {l : Launch} {e : Env} {s : State} {m : MethodId} {args : Array Value} {below : List Frame} {meth : Method} {c : Code} {D : va_G} {cy : Nat → ClassId} {lay : Nat → Nat} {Γ : RG} {post : Nat → (Nat → Int32) → MS → Prop} (a1 : Int32) (K222 : MS → Int32 → Int32 → Int32 → Prop) (hC : CallFix p m c cX11_bestSet 9 s args wsX11_bestSet RX11) (hr : meth.sig.returnType = some (.array .int)) (hlocks : meth.locks = false) (hT : rT D cy lay Γ s) (hK222 : ∀ (σ : MS) (v4 : Int32) (v6 : Int32) (v7 : Int32), K222 σ v4 v6 v7 → ∀ (H : Heap) (locs : List Loc) (ls : Array Slot), rG D cy lay Γ (gU (gU (gU tn 64 (some (0, 16))) 65 (some (1, 16))) 66 (some (0, 16))) σ (rA cy lay Γ s.heap.size) s.heap H locs → lv_has ls 9 [(0, .ref (lay 0)), (1, .int a1), (2, .ref (lay 64)), (4, .int v4), (5, .ref (lay 66)), (6, .int v6), (7, .int v7)] → W p l e rm_X11_bestSet s m args below meth c H locs 3 48 (MQ below (rQA post D cy lay Γ s.heap.size (rA cy lay Γ s.heap.size)) args s 4 64 (rA cy lay Γ s.heap.size)) (F0 m 222 ls [])) : ∀ (n : Nat), ∀ (σ : MS) (v4 : Int32) (v6 : Int32) (v7 : Int32) (v8 : Int32), u_X11_bestSet_230 Γ post a1 K222 n σ v4 v6 v7 v8 → ∀ (H : Heap) (locs : List Loc) (ls : Array Slot), rG D cy lay Γ (gU (gU (gU tn 64 (some (0, 16))) 65 (some (1, 16))) 66 (some (0, 16))) σ (rA cy lay Γ s.heap.size) s.heap H locs → lv_has ls 9 [(0, .ref (lay 0)), (1, .int a1), (2, .ref (lay 64)), (4, .int v4), (5, .ref (lay 66)), (6, .int v6), (7, .int v7), (8, .int v8)] → W p l e rm_X11_bestSet s m args below meth c H locs 3 48 (MQ below (rQA post D cy lay Γ s.heap.size (rA cy lay Γ s.heap.size)) args s 4 64 (rA cy lay Γ s.heap.size)) (F0 m 230 ls []) := by
  intro n
  induction n with
  | zero =>
    intro σ v4 v6 v7 v8 h
    exact h.elim
  | succ n ih =>
    intro σ v4 v6 v7 v8 h H locs ls G hl
    rw [u_X11_bestSet_230] at h
    refine lv_aload_n hC.1 hC.2.1 dX11_bestSet_230 rfl (lv_at hl 2 rfl) ?_
    refine lv_iload hC.1 hC.2.1 dX11_bestSet_231 (lv_at hl 7 rfl) ?_
    obtain ⟨hn7, h⟩ := h
    refine rg_iald hC hT G (by decide) (r_ti (by decide) rfl) hn7 dX11_bestSet_233 ?_
    refine lv_iload hC.1 hC.2.1 dX11_bestSet_234 (lv_at hl 3 rfl) ?_
    refine lv_icmp_ne (tgt := 256) hC.1 hC.2.1 dX11_bestSet_236 (by decide) (fun c8 => ?_) (fun c8 => ?_)
    · replace h := h.2 c8
      refine lv_iinc (v := v8 + 1) (lv' := [(8, .int (v8 + 1)), (0, .ref (lay 0)), (1, .int a1), (2, .ref (lay 64)), (4, .int v4), (5, .ref (lay 66)), (6, .int v6), (7, .int v7)]) hC.1 hC.2.1 dX11_bestSet_256 hl (k := 7) rfl rfl (by decide) rfl (fun ls hl => ?_)
      refine lv_goto (tgt := 230) hC.1 hC.2.1 dX11_bestSet_259 (by decide) ?_
      exact ih _ _ _ _ _ h _ _ _ G (lv_sub hl [1, 2, 3, 4, 5, 6, 7, 0] rfl)
    · replace h := h.1 c8
      refine lv_iload hC.1 hC.2.1 dX11_bestSet_239 (lv_at hl 6 rfl) ?_
      refine lv_iconst (v := (-1)) hC.1 hC.2.1 dX11_bestSet_241 (by decide) ?_
      refine lv_icmp_eq (tgt := 262) hC.1 hC.2.1 dX11_bestSet_242 (by decide) (fun c9 => ?_) (fun c9 => ?_)
      · replace h := h.1 c9
        exact l_X11_bestSet_262 a1 K222 hC hr hlocks hT hK222 _ _ _ _ h _ _ _ G (lv_sub hl [0, 1, 2, 3, 4, 5, 7] rfl)
      · replace h := h.2 c9
        refine lv_aload_n hC.1 hC.2.1 dX11_bestSet_245 rfl (lv_at hl 0 rfl) ?_
        refine lv_iload hC.1 hC.2.1 dX11_bestSet_246 (lv_at hl 6 rfl) ?_
        refine lv_iload hC.1 hC.2.1 dX11_bestSet_248 (lv_at hl 7 rfl) ?_
        refine rg_iM hT G (rg_runV (As := [.int v7, .int v8]) (rest := []) hC hT (rG_drop G hT.2.2.2) (c_X11_isBehind l D cy lay Γ h _) (cwV 2 hC.2.2.2.2 gX11_bestSet_X11_isBehind rfl rfl rfl hdV_X11_isBehind ⟨Nat.le_of_ble_eq_true rfl, Nat.le_of_ble_eq_true rfl⟩) (rg_recv hT (rG_drop G hT.2.2.2) (by decide) r_mo k_X11) rfl hl.1 rfl (Nat.le_of_ble_eq_true rfl) dX11_bestSet_250 ⟨Nat.le_of_ble_eq_true rfl, Nat.le_of_ble_eq_true rfl⟩) (fun r13 σ12 H locs h G => ?_)
        (try dsimp only at h)
        refine lv_if_ne (tgt := 262) hC.1 hC.2.1 dX11_bestSet_253 (by decide) (fun c14 => ?_) (fun c14 => ?_)
        · replace h := h.2 c14
          exact l_X11_bestSet_262 a1 K222 hC hr hlocks hT hK222 _ _ _ _ h _ _ _ G (lv_sub hl [0, 1, 2, 3, 4, 5, 7] rfl)
        · replace h := h.1 c14
          refine lv_iinc (v := v8 + 1) (lv' := [(8, .int (v8 + 1)), (0, .ref (lay 0)), (1, .int a1), (2, .ref (lay 64)), (4, .int v4), (5, .ref (lay 66)), (6, .int v6), (7, .int v7)]) hC.1 hC.2.1 dX11_bestSet_256 hl (k := 7) rfl rfl (by decide) rfl (fun ls hl => ?_)
          refine lv_goto (tgt := 230) hC.1 hC.2.1 dX11_bestSet_259 (by decide) ?_
          exact ih _ _ _ _ _ h _ _ _ G (lv_sub hl [1, 2, 3, 4, 5, 6, 7, 0] rfl)
def u_X11_bestSet_222 (Γ : RG) (post : Nat → (Nat → Int32) → MS → Prop) (a1 : Int32) : Nat → MS → Int32 → Int32 → Int32 → Prop
  | 0, _, _, _, _ => False
  | n + 1, σ, v4, v6, v7 => ((v4 ≤ 0 → (∃ len4 : Nat, v6 = nI len4 ∧ len4 ≤ 16 ∧ ((¬ v6 < 0 ∧ Int32.toNatClampNeg v6 ≤ 16 ∧ Int32.toNatClampNeg v6 ≤ len4) ∧ post len4 ((rw0 (rw0 σ 67 (fun _ => 0)) 67 (va_cpy ((rw0 σ 67 (fun _ => 0)) 66) ((rw0 σ 67 (fun _ => 0)) 67) 0 0 (Int32.toNatClampNeg v6))) 67) (rw0 (rw0 σ 67 (fun _ => 0)) 67 (va_cpy ((rw0 σ 67 (fun _ => 0)) 66) ((rw0 σ 67 (fun _ => 0)) 67) 0 0 (Int32.toNatClampNeg v6)))))) ∧ (¬ v4 ≤ 0 → (∃ k, u_X11_bestSet_230 Γ post a1 (fun σ w0 w1 w2 => u_X11_bestSet_222 Γ post a1 n σ w0 w1 w2) k σ v4 v6 v7 0)))
set_option maxHeartbeats 4000000 in
set_option maxRecDepth 100000 in
theorem l_X11_bestSet_222 {p : Program} {l : Launch} {e : Env} {s : State} {m : MethodId} {args : Array Value} {below : List Frame} {meth : Method} {c : Code} {D : va_G} {cy : Nat → ClassId} {lay : Nat → Nat} {Γ : RG} {post : Nat → (Nat → Int32) → MS → Prop} (a1 : Int32) (hC : CallFix p m c cX11_bestSet 9 s args wsX11_bestSet RX11) (hr : meth.sig.returnType = some (.array .int)) (hlocks : meth.locks = false) (hT : rT D cy lay Γ s) : ∀ (n : Nat), ∀ (σ : MS) (v4 : Int32) (v6 : Int32) (v7 : Int32), u_X11_bestSet_222 Γ post a1 n σ v4 v6 v7 → ∀ (H : Heap) (locs : List Loc) (ls : Array Slot), rG D cy lay Γ (gU (gU (gU tn 64 (some (0, 16))) 65 (some (1, 16))) 66 (some (0, 16))) σ (rA cy lay Γ s.heap.size) s.heap H locs → lv_has ls 9 [(0, .ref (lay 0)), (1, .int a1), (2, .ref (lay 64)), (4, .int v4), (5, .ref (lay 66)), (6, .int v6), (7, .int v7)] → W p l e rm_X11_bestSet s m args below meth c H locs 3 48 (MQ below (rQA post D cy lay Γ s.heap.size (rA cy lay Γ s.heap.size)) args s 4 64 (rA cy lay Γ s.heap.size)) (F0 m 222 ls []) := by
  intro n
  induction n with
  | zero =>
    intro σ v4 v6 v7 h
    exact h.elim
  | succ n ih =>
    intro σ v4 v6 v7 h H locs ls G hl
    rw [u_X11_bestSet_222] at h
    refine lv_iload hC.1 hC.2.1 dX11_bestSet_222 (lv_at hl 3 rfl) ?_
    refine lv_if_le (tgt := 291) hC.1 hC.2.1 dX11_bestSet_224 (by decide) (fun c3 => ?_) (fun c3 => ?_)
    · replace h := h.1 c3
      refine lv_iload hC.1 hC.2.1 dX11_bestSet_291 (lv_at hl 5 rfl) ?_
      obtain ⟨len4, hs5a, hs5b, h⟩ := h
      refine rg_newi (Q := fun lay => MQ below (rQA post D cy lay Γ s.heap.size (rA cy lay Γ s.heap.size)) args s 4 64 (rA cy lay Γ s.heap.size)) (ql_a hT.2.2.2) hC hT G (tmO_u (tmO_u (tmO_u tmO_n (Or.inl (Nat.le_of_ble_eq_true rfl))) (Or.inl (Nat.le_of_ble_eq_true rfl))) (Or.inl (Nat.le_of_ble_eq_true rfl))) (k := 67) (by decide) (by decide) rfl (wm 1 rfl) (N := len4) (by rw [hs5a]; exact nI_pos (by omega)) (by rw [hs5a]; exact nI_clamp (by omega)) (by omega) (Nat.le_of_ble_eq_true rfl) (by show _ + len4 ≤ 64; omega) dX11_bestSet_293 (fun lay hly hT H G => ?_)
      refine W.widen (k := 4) (n := 64) (by decide) (by show _ + len4 ≤ _; omega) ?_
      replace hl : lv_has ls 9 [(0, .ref (lay 0)), (1, .int a1), (2, .ref (lay 64)), (4, .int v4), (5, .ref (lay 66)), (6, .int v6), (7, .int v7)] := by rw [hly 0 (by decide), hly 64 (by decide), hly 66 (by decide)]; exact hl
      refine lv_astore (lv' := [(8, .ref (lay 67)), (0, .ref (lay 0)), (1, .int a1), (2, .ref (lay 64)), (4, .int v4), (5, .ref (lay 66)), (6, .int v6), (7, .int v7)]) hC.1 hC.2.1 dX11_bestSet_295 hl (by decide) rfl (fun ls hl => ?_)
      refine lv_aload hC.1 hC.2.1 dX11_bestSet_297 (lv_at hl 5 rfl) ?_
      refine lv_iconst (v := 0) hC.1 hC.2.1 dX11_bestSet_299 (by decide) ?_
      refine lv_aload hC.1 hC.2.1 dX11_bestSet_300 (lv_at hl 0 rfl) ?_
      refine lv_iconst (v := 0) hC.1 hC.2.1 dX11_bestSet_302 (by decide) ?_
      refine lv_iload hC.1 hC.2.1 dX11_bestSet_303 (lv_at hl 6 rfl) ?_
      obtain ⟨ha6, h⟩ := h
      refine rg_copy (k0 := 66) (k1 := 67) hC hl.1 hT G (wm 9 rfl) (wm 10 rfl) (wm 11 rfl) (wm 12 rfl) (by decide) (by decide) rfl rfl ha6.1 ha6.2.1 ha6.2.2 (Nat.le_of_ble_eq_true rfl) (Nat.le_of_ble_eq_true rfl) dX11_bestSet_305 (fun H locs G => ?_)
      refine lv_aload hC.1 hC.2.1 dX11_bestSet_308 (lv_at hl 0 rfl) ?_
      refine W.widen (k := 4) (n := 64) (by decide) (by decide) ?_
      exact rg_aret hC hr (Or.inr ⟨_, rfl⟩) hlocks hT G (by decide) (by decide) rfl h dX11_bestSet_310
    · replace h := h.2 c3
      refine lv_iconst (v := 0) hC.1 hC.2.1 dX11_bestSet_227 (by decide) ?_
      refine lv_istore (lv' := [(8, .int 0), (0, .ref (lay 0)), (1, .int a1), (2, .ref (lay 64)), (4, .int v4), (5, .ref (lay 66)), (6, .int v6), (7, .int v7)]) hC.1 hC.2.1 dX11_bestSet_228 hl (by decide) rfl (fun ls hl => ?_)
      obtain ⟨n1, h⟩ := h
      exact l_X11_bestSet_230 a1 (fun σ w0 w1 w2 => u_X11_bestSet_222 Γ post a1 n σ w0 w1 w2) hC hr hlocks hT ih n1 _ _ _ _ _ h _ _ _ G (lv_sub hl [1, 2, 3, 4, 5, 6, 7, 0] rfl)
def u_X11_bestSet_186 (Γ : RG) (post : Nat → (Nat → Int32) → MS → Prop) (a1 : Int32) : Nat → MS → Int32 → Int32 → Prop
  | 0, _, _, _ => False
  | n + 1, σ, v4, v5 => ((16 ≤ v5 → (∃ k, u_X11_bestSet_222 Γ post a1 k (rw0 σ 66 (fun _ => 0)) v4 0 (-1))) ∧ (¬ 16 ≤ v5 → (vp_in v5 16 ∧ u_X11_bestSet_186 Γ post a1 n σ (if v4 < (σ 64 (Int32.toNatClampNeg v5)) then (σ 64 (Int32.toNatClampNeg v5)) else v4) (v5 + 1))))
set_option maxHeartbeats 4000000 in
set_option maxRecDepth 100000 in
theorem l_X11_bestSet_186 {p : Program} {l : Launch} {e : Env} {s : State} {m : MethodId} {args : Array Value} {below : List Frame} {meth : Method} {c : Code} {D : va_G} {cy : Nat → ClassId} {lay : Nat → Nat} {Γ : RG} {post : Nat → (Nat → Int32) → MS → Prop} (a1 : Int32) (hC : CallFix p m c cX11_bestSet 9 s args wsX11_bestSet RX11) (hr : meth.sig.returnType = some (.array .int)) (hlocks : meth.locks = false) (hT : rT D cy lay Γ s) : ∀ (n : Nat), ∀ (σ : MS) (v4 : Int32) (v5 : Int32), u_X11_bestSet_186 Γ post a1 n σ v4 v5 → ∀ (H : Heap) (locs : List Loc) (ls : Array Slot), rG D cy lay Γ (gU (gU tn 64 (some (0, 16))) 65 (some (1, 16))) σ (rA cy lay Γ s.heap.size) s.heap H locs → lv_has ls 9 [(0, .ref (lay 0)), (1, .int a1), (2, .ref (lay 64)), (4, .int v4), (5, .int v5)] → W p l e rm_X11_bestSet s m args below meth c H locs 2 32 (MQ below (rQA post D cy lay Γ s.heap.size (rA cy lay Γ s.heap.size)) args s 4 64 (rA cy lay Γ s.heap.size)) (F0 m 186 ls []) := by
  intro n
  induction n with
  | zero =>
    intro σ v4 v5 h
    exact h.elim
  | succ n ih =>
    intro σ v4 v5 h H locs ls G hl
    rw [u_X11_bestSet_186] at h
    refine lv_iload hC.1 hC.2.1 dX11_bestSet_186 (lv_at hl 4 rfl) ?_
    refine lv_bipush (v := 16) hC.1 hC.2.1 dX11_bestSet_188 (by decide) ?_
    refine lv_icmp_ge (tgt := 210) hC.1 hC.2.1 dX11_bestSet_190 (by decide) (fun c2 => ?_) (fun c2 => ?_)
    · replace h := h.1 c2
      refine lv_bipush (v := 16) hC.1 hC.2.1 dX11_bestSet_210 (by decide) ?_
      refine rg_newi (Q := fun lay => MQ below (rQA post D cy lay Γ s.heap.size (rA cy lay Γ s.heap.size)) args s 4 64 (rA cy lay Γ s.heap.size)) (ql_a hT.2.2.2) hC hT G (tmO_u (tmO_u tmO_n (Or.inl (Nat.le_of_ble_eq_true rfl))) (Or.inl (Nat.le_of_ble_eq_true rfl))) (k := 66) (by decide) (by decide) rfl (wm 1 rfl) (N := 16) (by decide) rfl (by decide) (Nat.le_of_ble_eq_true rfl) (Nat.le_of_ble_eq_true rfl) dX11_bestSet_212 (fun lay hly hT H G => ?_)
      refine W.widen (k := 3) (n := 48) (by decide) (by decide) ?_
      replace hl : lv_has ls 9 [(0, .ref (lay 0)), (1, .int a1), (2, .ref (lay 64)), (4, .int v4), (5, .int v5)] := by rw [hly 0 (by decide), hly 64 (by decide)]; exact hl
      refine lv_astore (lv' := [(5, .ref (lay 66)), (0, .ref (lay 0)), (1, .int a1), (2, .ref (lay 64)), (4, .int v4)]) hC.1 hC.2.1 dX11_bestSet_214 hl (by decide) rfl (fun ls hl => ?_)
      refine lv_iconst (v := 0) hC.1 hC.2.1 dX11_bestSet_216 (by decide) ?_
      refine lv_istore (lv' := [(6, .int 0), (5, .ref (lay 66)), (0, .ref (lay 0)), (1, .int a1), (2, .ref (lay 64)), (4, .int v4)]) hC.1 hC.2.1 dX11_bestSet_217 hl (by decide) rfl (fun ls hl => ?_)
      refine lv_iconst (v := (-1)) hC.1 hC.2.1 dX11_bestSet_219 (by decide) ?_
      refine lv_istore (lv' := [(7, .int (-1)), (6, .int 0), (5, .ref (lay 66)), (0, .ref (lay 0)), (1, .int a1), (2, .ref (lay 64)), (4, .int v4)]) hC.1 hC.2.1 dX11_bestSet_220 hl (by decide) rfl (fun ls hl => ?_)
      obtain ⟨n1, h⟩ := h
      exact l_X11_bestSet_222 a1 hC hr hlocks hT n1 _ _ _ _ h _ _ _ G (lv_sub hl [3, 4, 5, 6, 2, 1, 0] rfl)
    · replace h := h.2 c2
      refine lv_iload hC.1 hC.2.1 dX11_bestSet_193 (lv_at hl 3 rfl) ?_
      refine lv_aload_n hC.1 hC.2.1 dX11_bestSet_195 rfl (lv_at hl 2 rfl) ?_
      refine lv_iload hC.1 hC.2.1 dX11_bestSet_196 (lv_at hl 4 rfl) ?_
      obtain ⟨hn15, h⟩ := h
      refine rg_iald hC hT G (by decide) (r_ti (by decide) rfl) hn15 dX11_bestSet_198 ?_
      refine va_mmax hC.1 hC.2.1 (hC.2.2.1.trans hl.1.symm) hC.2.2.2.1 (hC.2.2.2.2 _ (wm 5 rfl)) (hC.2.2.2.2 _ (wm 6 rfl)) (hC.2.2.2.2 _ (wm 7 rfl)) (hC.2.2.2.2 _ (wm 8 rfl)) (Nat.le_of_ble_eq_true rfl) (Nat.le_of_ble_eq_true rfl) (Nat.le_of_ble_eq_true rfl) (Nat.le_of_ble_eq_true rfl) dX11_bestSet_199 ?_
      refine lv_istore (lv' := [(4, .int (if v4 < (σ 64 (Int32.toNatClampNeg v5)) then (σ 64 (Int32.toNatClampNeg v5)) else v4)), (0, .ref (lay 0)), (1, .int a1), (2, .ref (lay 64)), (5, .int v5)]) hC.1 hC.2.1 dX11_bestSet_202 hl (by decide) rfl (fun ls hl => ?_)
      refine lv_iinc (v := v5 + 1) (lv' := [(5, .int (v5 + 1)), (4, .int (if v4 < (σ 64 (Int32.toNatClampNeg v5)) then (σ 64 (Int32.toNatClampNeg v5)) else v4)), (0, .ref (lay 0)), (1, .int a1), (2, .ref (lay 64))]) hC.1 hC.2.1 dX11_bestSet_204 hl (k := 4) rfl rfl (by decide) rfl (fun ls hl => ?_)
      refine lv_goto (tgt := 186) hC.1 hC.2.1 dX11_bestSet_207 (by decide) ?_
      exact ih _ _ _ h _ _ _ G (lv_sub hl [2, 3, 4, 1, 0] rfl)
def u_X11_bestSet_121 (Γ : RG) (post : Nat → (Nat → Int32) → MS → Prop) (a1 : Int32) (K13 : MS → Int32 → Prop) : Nat → MS → Int32 → Int32 → Int32 → Int32 → Prop
  | 0, _, _, _, _, _ => False
  | n + 1, σ, v4, v5, v6, v7 => ((16 ≤ v7 → (vp_in v5 16 ∧ (vp_in v5 16 ∧ K13 (up2 σ 64 (Int32.toNatClampNeg v5) ((σ 9 (Int32.toNatClampNeg v5)) + v6)) (v4 + 1)))) ∧ (¬ 16 ≤ v7 → (vp_in v7 16 ∧ (((σ 64 (Int32.toNatClampNeg v7)) ≤ v6 → u_X11_bestSet_121 Γ post a1 K13 n σ v4 v5 v6 (v7 + 1)) ∧ (¬ (σ 64 (Int32.toNatClampNeg v7)) ≤ v6 → w_X11_isBehind Γ (fun r27 σ26 => ((r27 = 0 → u_X11_bestSet_121 Γ post a1 K13 n (mrg σ26 σ) v4 v5 v6 (v7 + 1)) ∧ (¬ r27 = 0 → (vp_in v7 16 ∧ u_X11_bestSet_121 Γ post a1 K13 n (mrg σ26 σ) v4 v5 ((mrg σ26 σ) 64 (Int32.toNatClampNeg v7)) (v7 + 1))))) σ v5 v7)))))
set_option maxHeartbeats 4000000 in
set_option maxRecDepth 100000 in
theorem l_X11_bestSet_121 {p : Program} {l : Launch} {e : Env} {s : State} {m : MethodId} {args : Array Value} {below : List Frame} {meth : Method} {c : Code} {D : va_G} {cy : Nat → ClassId} {lay : Nat → Nat} {Γ : RG} {post : Nat → (Nat → Int32) → MS → Prop} (a1 : Int32) (K13 : MS → Int32 → Prop) (hC : CallFix p m c cX11_bestSet 9 s args wsX11_bestSet RX11) (hr : meth.sig.returnType = some (.array .int)) (hlocks : meth.locks = false) (hT : rT D cy lay Γ s) (hK13 : ∀ (σ : MS) (v4 : Int32), K13 σ v4 → ∀ (H : Heap) (locs : List Loc) (ls : Array Slot), rG D cy lay Γ (gU (gU tn 64 (some (0, 16))) 65 (some (1, 16))) σ (rA cy lay Γ s.heap.size) s.heap H locs → lv_has ls 9 [(0, .ref (lay 0)), (1, .int a1), (2, .ref (lay 64)), (3, .ref (lay 65)), (4, .int v4)] → W p l e rm_X11_bestSet s m args below meth c H locs 2 32 (MQ below (rQA post D cy lay Γ s.heap.size (rA cy lay Γ s.heap.size)) args s 4 64 (rA cy lay Γ s.heap.size)) (F0 m 13 ls [])) : ∀ (n : Nat), ∀ (σ : MS) (v4 : Int32) (v5 : Int32) (v6 : Int32) (v7 : Int32), u_X11_bestSet_121 Γ post a1 K13 n σ v4 v5 v6 v7 → ∀ (H : Heap) (locs : List Loc) (ls : Array Slot), rG D cy lay Γ (gU (gU tn 64 (some (0, 16))) 65 (some (1, 16))) σ (rA cy lay Γ s.heap.size) s.heap H locs → lv_has ls 9 [(0, .ref (lay 0)), (1, .int a1), (2, .ref (lay 64)), (3, .ref (lay 65)), (4, .int v4), (5, .int v5), (6, .int v6), (7, .int v7)] → W p l e rm_X11_bestSet s m args below meth c H locs 2 32 (MQ below (rQA post D cy lay Γ s.heap.size (rA cy lay Γ s.heap.size)) args s 4 64 (rA cy lay Γ s.heap.size)) (F0 m 121 ls []) := by
  intro n
  induction n with
  | zero =>
    intro σ v4 v5 v6 v7 h
    exact h.elim
  | succ n ih =>
    intro σ v4 v5 v6 v7 h H locs ls G hl
    rw [u_X11_bestSet_121] at h
    refine lv_iload hC.1 hC.2.1 dX11_bestSet_121 (lv_at hl 7 rfl) ?_
    refine lv_bipush (v := 16) hC.1 hC.2.1 dX11_bestSet_123 (by decide) ?_
    refine lv_icmp_ge (tgt := 160) hC.1 hC.2.1 dX11_bestSet_125 (by decide) (fun c21 => ?_) (fun c21 => ?_)
    · replace h := h.1 c21
      refine lv_aload_n hC.1 hC.2.1 dX11_bestSet_160 rfl (lv_at hl 2 rfl) ?_
      refine lv_iload hC.1 hC.2.1 dX11_bestSet_161 (lv_at hl 5 rfl) ?_
      refine lv_aload_n hC.1 hC.2.1 dX11_bestSet_163 rfl (lv_at hl 0 rfl) ?_
      refine rg_get hC hT G (by decide) r_mo k_X11 i_X11_bestSet_X11 8 (by decide) (wm 4 rfl) rfl dX11_bestSet_164 ?_
      refine lv_iload hC.1 hC.2.1 dX11_bestSet_167 (lv_at hl 5 rfl) ?_
      obtain ⟨hn22, h⟩ := h
      refine rg_iald hC hT G (by decide) r_mi hn22 dX11_bestSet_169 ?_
      refine lv_iload hC.1 hC.2.1 dX11_bestSet_170 (lv_at hl 6 rfl) ?_
      refine lv_iadd hC.1 hC.2.1 dX11_bestSet_172 ?_
      obtain ⟨hn23, h⟩ := h
      refine rg_iast hC hT G (by decide) (fun _ => (r_ti (by decide) rfl)) hn23 dX11_bestSet_173 (fun H locs G => ?_)
      refine lv_iinc (v := v4 + 1) (lv' := [(4, .int (v4 + 1)), (0, .ref (lay 0)), (1, .int a1), (2, .ref (lay 64)), (3, .ref (lay 65)), (5, .int v5), (6, .int v6), (7, .int v7)]) hC.1 hC.2.1 dX11_bestSet_174 hl (k := 4) rfl rfl (by decide) rfl (fun ls hl => ?_)
      refine lv_goto (tgt := 13) hC.1 hC.2.1 dX11_bestSet_177 (by decide) ?_
      exact hK13 _ _ h _ _ _ G (lv_sub hl [1, 2, 3, 4, 0] rfl)
    · replace h := h.2 c21
      refine lv_aload_n hC.1 hC.2.1 dX11_bestSet_128 rfl (lv_at hl 2 rfl) ?_
      refine lv_iload hC.1 hC.2.1 dX11_bestSet_129 (lv_at hl 7 rfl) ?_
      obtain ⟨hn24, h⟩ := h
      refine rg_iald hC hT G (by decide) (r_ti (by decide) rfl) hn24 dX11_bestSet_131 ?_
      refine lv_iload hC.1 hC.2.1 dX11_bestSet_132 (lv_at hl 6 rfl) ?_
      refine lv_icmp_le (tgt := 154) hC.1 hC.2.1 dX11_bestSet_134 (by decide) (fun c25 => ?_) (fun c25 => ?_)
      · replace h := h.1 c25
        refine lv_iinc (v := v7 + 1) (lv' := [(7, .int (v7 + 1)), (0, .ref (lay 0)), (1, .int a1), (2, .ref (lay 64)), (3, .ref (lay 65)), (4, .int v4), (5, .int v5), (6, .int v6)]) hC.1 hC.2.1 dX11_bestSet_154 hl (k := 7) rfl rfl (by decide) rfl (fun ls hl => ?_)
        refine lv_goto (tgt := 121) hC.1 hC.2.1 dX11_bestSet_157 (by decide) ?_
        exact ih _ _ _ _ _ h _ _ _ G (lv_sub hl [1, 2, 3, 4, 5, 6, 7, 0] rfl)
      · replace h := h.2 c25
        refine lv_aload_n hC.1 hC.2.1 dX11_bestSet_137 rfl (lv_at hl 0 rfl) ?_
        refine lv_iload hC.1 hC.2.1 dX11_bestSet_138 (lv_at hl 5 rfl) ?_
        refine lv_iload hC.1 hC.2.1 dX11_bestSet_140 (lv_at hl 7 rfl) ?_
        refine rg_iM hT G (rg_runV (As := [.int v5, .int v7]) (rest := []) hC hT (rG_drop G hT.2.2.2) (c_X11_isBehind l D cy lay Γ h _) (cwV 2 hC.2.2.2.2 gX11_bestSet_X11_isBehind rfl rfl rfl hdV_X11_isBehind ⟨Nat.le_of_ble_eq_true rfl, Nat.le_of_ble_eq_true rfl⟩) (rg_recv hT (rG_drop G hT.2.2.2) (by decide) r_mo k_X11) rfl hl.1 rfl (Nat.le_of_ble_eq_true rfl) dX11_bestSet_142 ⟨Nat.le_of_ble_eq_true rfl, Nat.le_of_ble_eq_true rfl⟩) (fun r27 σ26 H locs h G => ?_)
        (try dsimp only at h)
        refine lv_if_eq (tgt := 154) hC.1 hC.2.1 dX11_bestSet_145 (by decide) (fun c28 => ?_) (fun c28 => ?_)
        · replace h := h.1 c28
          refine lv_iinc (v := v7 + 1) (lv' := [(7, .int (v7 + 1)), (0, .ref (lay 0)), (1, .int a1), (2, .ref (lay 64)), (3, .ref (lay 65)), (4, .int v4), (5, .int v5), (6, .int v6)]) hC.1 hC.2.1 dX11_bestSet_154 hl (k := 7) rfl rfl (by decide) rfl (fun ls hl => ?_)
          refine lv_goto (tgt := 121) hC.1 hC.2.1 dX11_bestSet_157 (by decide) ?_
          exact ih _ _ _ _ _ h _ _ _ G (lv_sub hl [1, 2, 3, 4, 5, 6, 7, 0] rfl)
        · replace h := h.2 c28
          refine lv_aload_n hC.1 hC.2.1 dX11_bestSet_148 rfl (lv_at hl 2 rfl) ?_
          refine lv_iload hC.1 hC.2.1 dX11_bestSet_149 (lv_at hl 7 rfl) ?_
          obtain ⟨hn29, h⟩ := h
          refine rg_iald hC hT G (by decide) (r_ti (by decide) rfl) hn29 dX11_bestSet_151 ?_
          refine lv_istore (lv' := [(6, .int ((mrg σ26 σ) 64 (Int32.toNatClampNeg v7))), (0, .ref (lay 0)), (1, .int a1), (2, .ref (lay 64)), (3, .ref (lay 65)), (4, .int v4), (5, .int v5), (7, .int v7)]) hC.1 hC.2.1 dX11_bestSet_152 hl (by decide) rfl (fun ls hl => ?_)
          refine lv_iinc (v := v7 + 1) (lv' := [(7, .int (v7 + 1)), (6, .int ((mrg σ26 σ) 64 (Int32.toNatClampNeg v7))), (0, .ref (lay 0)), (1, .int a1), (2, .ref (lay 64)), (3, .ref (lay 65)), (4, .int v4), (5, .int v5)]) hC.1 hC.2.1 dX11_bestSet_154 hl (k := 7) rfl rfl (by decide) rfl (fun ls hl => ?_)
          refine lv_goto (tgt := 121) hC.1 hC.2.1 dX11_bestSet_157 (by decide) ?_
          exact ih _ _ _ _ _ h _ _ _ G (lv_sub hl [2, 3, 4, 5, 6, 7, 1, 0] rfl)
def u_X11_bestSet_26 (Γ : RG) (post : Nat → (Nat → Int32) → MS → Prop) (a1 : Int32) (K13 : MS → Int32 → Prop) : Nat → MS → Int32 → Int32 → Int32 → Prop
  | 0, _, _, _, _ => False
  | n + 1, σ, v4, v5, v6 => ((16 ≤ v6 → (vp_in v5 16 ∧ w_X11_isKnown Γ (fun r19 σ18 => ((r19 = 0 → K13 (mrg σ18 (up2 σ 65 (Int32.toNatClampNeg v5) (vp_nar .boolean 1))) (v4 + 1)) ∧ (¬ r19 = 0 → (∃ k, u_X11_bestSet_121 Γ post a1 K13 k (mrg σ18 (up2 σ 65 (Int32.toNatClampNeg v5) (vp_nar .boolean 1))) v4 v5 0 0)))) (up2 σ 65 (Int32.toNatClampNeg v5) (vp_nar .boolean 1)) a1 v5)) ∧ (¬ 16 ≤ v6 → (vp_in v6 16 ∧ (((σ 65 (Int32.toNatClampNeg v6)) = 0 → ((v5 = (-1) → u_X11_bestSet_26 Γ post a1 K13 n σ v4 v6 (v6 + 1)) ∧ (¬ v5 = (-1) → (vp_in v6 16 ∧ (vp_in v5 16 ∧ (((σ 8 (Int32.toNatClampNeg v5)) < (σ 8 (Int32.toNatClampNeg v6)) → u_X11_bestSet_26 Γ post a1 K13 n σ v4 v6 (v6 + 1)) ∧ (¬ (σ 8 (Int32.toNatClampNeg v5)) < (σ 8 (Int32.toNatClampNeg v6)) → (vp_in v6 16 ∧ (vp_in v5 16 ∧ (((σ 8 (Int32.toNatClampNeg v6)) = (σ 8 (Int32.toNatClampNeg v5)) → ((v6 ≤ v5 → u_X11_bestSet_26 Γ post a1 K13 n σ v4 v5 (v6 + 1)) ∧ (¬ v6 ≤ v5 → u_X11_bestSet_26 Γ post a1 K13 n σ v4 v6 (v6 + 1)))) ∧ (¬ (σ 8 (Int32.toNatClampNeg v6)) = (σ 8 (Int32.toNatClampNeg v5)) → u_X11_bestSet_26 Γ post a1 K13 n σ v4 v5 (v6 + 1)))))))))))) ∧ (¬ (σ 65 (Int32.toNatClampNeg v6)) = 0 → u_X11_bestSet_26 Γ post a1 K13 n σ v4 v5 (v6 + 1))))))
set_option maxHeartbeats 4000000 in
set_option maxRecDepth 100000 in
theorem l_X11_bestSet_26 {p : Program} {l : Launch} {e : Env} {s : State} {m : MethodId} {args : Array Value} {below : List Frame} {meth : Method} {c : Code} {D : va_G} {cy : Nat → ClassId} {lay : Nat → Nat} {Γ : RG} {post : Nat → (Nat → Int32) → MS → Prop} (a1 : Int32) (K13 : MS → Int32 → Prop) (hC : CallFix p m c cX11_bestSet 9 s args wsX11_bestSet RX11) (hr : meth.sig.returnType = some (.array .int)) (hlocks : meth.locks = false) (hT : rT D cy lay Γ s) (hK13 : ∀ (σ : MS) (v4 : Int32), K13 σ v4 → ∀ (H : Heap) (locs : List Loc) (ls : Array Slot), rG D cy lay Γ (gU (gU tn 64 (some (0, 16))) 65 (some (1, 16))) σ (rA cy lay Γ s.heap.size) s.heap H locs → lv_has ls 9 [(0, .ref (lay 0)), (1, .int a1), (2, .ref (lay 64)), (3, .ref (lay 65)), (4, .int v4)] → W p l e rm_X11_bestSet s m args below meth c H locs 2 32 (MQ below (rQA post D cy lay Γ s.heap.size (rA cy lay Γ s.heap.size)) args s 4 64 (rA cy lay Γ s.heap.size)) (F0 m 13 ls [])) : ∀ (n : Nat), ∀ (σ : MS) (v4 : Int32) (v5 : Int32) (v6 : Int32), u_X11_bestSet_26 Γ post a1 K13 n σ v4 v5 v6 → ∀ (H : Heap) (locs : List Loc) (ls : Array Slot), rG D cy lay Γ (gU (gU tn 64 (some (0, 16))) 65 (some (1, 16))) σ (rA cy lay Γ s.heap.size) s.heap H locs → lv_has ls 9 [(0, .ref (lay 0)), (1, .int a1), (2, .ref (lay 64)), (3, .ref (lay 65)), (4, .int v4), (5, .int v5), (6, .int v6)] → W p l e rm_X11_bestSet s m args below meth c H locs 2 32 (MQ below (rQA post D cy lay Γ s.heap.size (rA cy lay Γ s.heap.size)) args s 4 64 (rA cy lay Γ s.heap.size)) (F0 m 26 ls []) := by
  intro n
  induction n with
  | zero =>
    intro σ v4 v5 v6 h
    exact h.elim
  | succ n ih =>
    intro σ v4 v5 v6 h H locs ls G hl
    rw [u_X11_bestSet_26] at h
    refine lv_iload hC.1 hC.2.1 dX11_bestSet_26 (lv_at hl 6 rfl) ?_
    refine lv_bipush (v := 16) hC.1 hC.2.1 dX11_bestSet_28 (by decide) ?_
    refine lv_icmp_ge (tgt := 97) hC.1 hC.2.1 dX11_bestSet_30 (by decide) (fun c16 => ?_) (fun c16 => ?_)
    · replace h := h.1 c16
      refine lv_aload_n hC.1 hC.2.1 dX11_bestSet_97 rfl (lv_at hl 3 rfl) ?_
      refine lv_iload hC.1 hC.2.1 dX11_bestSet_98 (lv_at hl 5 rfl) ?_
      refine lv_iconst (v := 1) hC.1 hC.2.1 dX11_bestSet_100 (by decide) ?_
      obtain ⟨hn17, h⟩ := h
      refine rg_zast hC hT G (by decide) (fun _ => (r_tz (by decide) rfl)) hn17 dX11_bestSet_101 (fun H locs G => ?_)
      refine lv_aload_n hC.1 hC.2.1 dX11_bestSet_102 rfl (lv_at hl 0 rfl) ?_
      refine lv_iload_n hC.1 hC.2.1 dX11_bestSet_103 rfl (lv_at hl 1 rfl) ?_
      refine lv_iload hC.1 hC.2.1 dX11_bestSet_104 (lv_at hl 5 rfl) ?_
      refine rg_iM hT G (rg_runV (As := [.int a1, .int v5]) (rest := []) hC hT (rG_drop G hT.2.2.2) (c_X11_isKnown l D cy lay Γ h _) (cwV 2 hC.2.2.2.2 gX11_bestSet_X11_isKnown rfl rfl rfl hdV_X11_isKnown ⟨Nat.le_of_ble_eq_true rfl, Nat.le_of_ble_eq_true rfl⟩) (rg_recv hT (rG_drop G hT.2.2.2) (by decide) r_mo k_X11) rfl hl.1 rfl (Nat.le_of_ble_eq_true rfl) dX11_bestSet_106 ⟨Nat.le_of_ble_eq_true rfl, Nat.le_of_ble_eq_true rfl⟩) (fun r19 σ18 H locs h G => ?_)
      (try dsimp only at h)
      refine lv_if_ne (tgt := 115) hC.1 hC.2.1 dX11_bestSet_109 (by decide) (fun c20 => ?_) (fun c20 => ?_)
      · replace h := h.2 c20
        refine lv_iconst (v := 0) hC.1 hC.2.1 dX11_bestSet_115 (by decide) ?_
        refine lv_istore (lv' := [(6, .int 0), (0, .ref (lay 0)), (1, .int a1), (2, .ref (lay 64)), (3, .ref (lay 65)), (4, .int v4), (5, .int v5)]) hC.1 hC.2.1 dX11_bestSet_116 hl (by decide) rfl (fun ls hl => ?_)
        refine lv_iconst (v := 0) hC.1 hC.2.1 dX11_bestSet_118 (by decide) ?_
        refine lv_istore (lv' := [(7, .int 0), (6, .int 0), (0, .ref (lay 0)), (1, .int a1), (2, .ref (lay 64)), (3, .ref (lay 65)), (4, .int v4), (5, .int v5)]) hC.1 hC.2.1 dX11_bestSet_119 hl (by decide) rfl (fun ls hl => ?_)
        obtain ⟨n1, h⟩ := h
        exact l_X11_bestSet_121 a1 K13 hC hr hlocks hT hK13 n1 _ _ _ _ _ h _ _ _ G (lv_sub hl [2, 3, 4, 5, 6, 7, 1, 0] rfl)
      · replace h := h.1 c20
        refine lv_goto (tgt := 174) hC.1 hC.2.1 dX11_bestSet_112 (by decide) ?_
        refine lv_iinc (v := v4 + 1) (lv' := [(4, .int (v4 + 1)), (0, .ref (lay 0)), (1, .int a1), (2, .ref (lay 64)), (3, .ref (lay 65)), (5, .int v5), (6, .int v6)]) hC.1 hC.2.1 dX11_bestSet_174 hl (k := 4) rfl rfl (by decide) rfl (fun ls hl => ?_)
        refine lv_goto (tgt := 13) hC.1 hC.2.1 dX11_bestSet_177 (by decide) ?_
        exact hK13 _ _ h _ _ _ G (lv_sub hl [1, 2, 3, 4, 0] rfl)
    · replace h := h.2 c16
      refine lv_aload_n hC.1 hC.2.1 dX11_bestSet_33 rfl (lv_at hl 3 rfl) ?_
      refine lv_iload hC.1 hC.2.1 dX11_bestSet_34 (lv_at hl 6 rfl) ?_
      obtain ⟨hn30, h⟩ := h
      refine rg_zald hC hT G (by decide) (r_tz (by decide) rfl) hn30 dX11_bestSet_36 ?_
      refine lv_if_ne (tgt := 91) hC.1 hC.2.1 dX11_bestSet_37 (by decide) (fun c31 => ?_) (fun c31 => ?_)
      · replace h := h.2 c31
        refine lv_iinc (v := v6 + 1) (lv' := [(6, .int (v6 + 1)), (0, .ref (lay 0)), (1, .int a1), (2, .ref (lay 64)), (3, .ref (lay 65)), (4, .int v4), (5, .int v5)]) hC.1 hC.2.1 dX11_bestSet_91 hl (k := 6) rfl rfl (by decide) rfl (fun ls hl => ?_)
        refine lv_goto (tgt := 26) hC.1 hC.2.1 dX11_bestSet_94 (by decide) ?_
        exact ih _ _ _ _ h _ _ _ G (lv_sub hl [1, 2, 3, 4, 5, 6, 0] rfl)
      · replace h := h.1 c31
        refine lv_iload hC.1 hC.2.1 dX11_bestSet_40 (lv_at hl 5 rfl) ?_
        refine lv_iconst (v := (-1)) hC.1 hC.2.1 dX11_bestSet_42 (by decide) ?_
        refine lv_icmp_eq (tgt := 87) hC.1 hC.2.1 dX11_bestSet_43 (by decide) (fun c32 => ?_) (fun c32 => ?_)
        · replace h := h.1 c32
          refine lv_iload hC.1 hC.2.1 dX11_bestSet_87 (lv_at hl 6 rfl) ?_
          refine lv_istore (lv' := [(5, .int v6), (0, .ref (lay 0)), (1, .int a1), (2, .ref (lay 64)), (3, .ref (lay 65)), (4, .int v4), (6, .int v6)]) hC.1 hC.2.1 dX11_bestSet_89 hl (by decide) rfl (fun ls hl => ?_)
          refine lv_iinc (v := v6 + 1) (lv' := [(6, .int (v6 + 1)), (5, .int v6), (0, .ref (lay 0)), (1, .int a1), (2, .ref (lay 64)), (3, .ref (lay 65)), (4, .int v4)]) hC.1 hC.2.1 dX11_bestSet_91 hl (k := 6) rfl rfl (by decide) rfl (fun ls hl => ?_)
          refine lv_goto (tgt := 26) hC.1 hC.2.1 dX11_bestSet_94 (by decide) ?_
          exact ih _ _ _ _ h _ _ _ G (lv_sub hl [2, 3, 4, 5, 6, 1, 0] rfl)
        · replace h := h.2 c32
          refine lv_aload_n hC.1 hC.2.1 dX11_bestSet_46 rfl (lv_at hl 0 rfl) ?_
          refine rg_get hC hT G (by decide) r_mo k_X11 i_X11_bestSet_X11 7 (by decide) (wm 3 rfl) rfl dX11_bestSet_47 ?_
          refine lv_iload hC.1 hC.2.1 dX11_bestSet_50 (lv_at hl 6 rfl) ?_
          obtain ⟨hn33, h⟩ := h
          refine rg_iald hC hT G (by decide) r_en hn33 dX11_bestSet_52 ?_
          refine lv_aload_n hC.1 hC.2.1 dX11_bestSet_53 rfl (lv_at hl 0 rfl) ?_
          refine rg_get hC hT G (by decide) r_mo k_X11 i_X11_bestSet_X11 7 (by decide) (wm 3 rfl) rfl dX11_bestSet_54 ?_
          refine lv_iload hC.1 hC.2.1 dX11_bestSet_57 (lv_at hl 5 rfl) ?_
          obtain ⟨hn34, h⟩ := h
          refine rg_iald hC hT G (by decide) r_en hn34 dX11_bestSet_59 ?_
          refine lv_icmp_gt (tgt := 87) hC.1 hC.2.1 dX11_bestSet_60 (by decide) (fun c35 => ?_) (fun c35 => ?_)
          · replace h := h.1 c35
            refine lv_iload hC.1 hC.2.1 dX11_bestSet_87 (lv_at hl 6 rfl) ?_
            refine lv_istore (lv' := [(5, .int v6), (0, .ref (lay 0)), (1, .int a1), (2, .ref (lay 64)), (3, .ref (lay 65)), (4, .int v4), (6, .int v6)]) hC.1 hC.2.1 dX11_bestSet_89 hl (by decide) rfl (fun ls hl => ?_)
            refine lv_iinc (v := v6 + 1) (lv' := [(6, .int (v6 + 1)), (5, .int v6), (0, .ref (lay 0)), (1, .int a1), (2, .ref (lay 64)), (3, .ref (lay 65)), (4, .int v4)]) hC.1 hC.2.1 dX11_bestSet_91 hl (k := 6) rfl rfl (by decide) rfl (fun ls hl => ?_)
            refine lv_goto (tgt := 26) hC.1 hC.2.1 dX11_bestSet_94 (by decide) ?_
            exact ih _ _ _ _ h _ _ _ G (lv_sub hl [2, 3, 4, 5, 6, 1, 0] rfl)
          · replace h := h.2 c35
            refine lv_aload_n hC.1 hC.2.1 dX11_bestSet_63 rfl (lv_at hl 0 rfl) ?_
            refine rg_get hC hT G (by decide) r_mo k_X11 i_X11_bestSet_X11 7 (by decide) (wm 3 rfl) rfl dX11_bestSet_64 ?_
            refine lv_iload hC.1 hC.2.1 dX11_bestSet_67 (lv_at hl 6 rfl) ?_
            obtain ⟨hn36, h⟩ := h
            refine rg_iald hC hT G (by decide) r_en hn36 dX11_bestSet_69 ?_
            refine lv_aload_n hC.1 hC.2.1 dX11_bestSet_70 rfl (lv_at hl 0 rfl) ?_
            refine rg_get hC hT G (by decide) r_mo k_X11 i_X11_bestSet_X11 7 (by decide) (wm 3 rfl) rfl dX11_bestSet_71 ?_
            refine lv_iload hC.1 hC.2.1 dX11_bestSet_74 (lv_at hl 5 rfl) ?_
            obtain ⟨hn37, h⟩ := h
            refine rg_iald hC hT G (by decide) r_en hn37 dX11_bestSet_76 ?_
            refine lv_icmp_ne (tgt := 91) hC.1 hC.2.1 dX11_bestSet_77 (by decide) (fun c38 => ?_) (fun c38 => ?_)
            · replace h := h.2 c38
              refine lv_iinc (v := v6 + 1) (lv' := [(6, .int (v6 + 1)), (0, .ref (lay 0)), (1, .int a1), (2, .ref (lay 64)), (3, .ref (lay 65)), (4, .int v4), (5, .int v5)]) hC.1 hC.2.1 dX11_bestSet_91 hl (k := 6) rfl rfl (by decide) rfl (fun ls hl => ?_)
              refine lv_goto (tgt := 26) hC.1 hC.2.1 dX11_bestSet_94 (by decide) ?_
              exact ih _ _ _ _ h _ _ _ G (lv_sub hl [1, 2, 3, 4, 5, 6, 0] rfl)
            · replace h := h.1 c38
              refine lv_iload hC.1 hC.2.1 dX11_bestSet_80 (lv_at hl 6 rfl) ?_
              refine lv_iload hC.1 hC.2.1 dX11_bestSet_82 (lv_at hl 5 rfl) ?_
              refine lv_icmp_le (tgt := 91) hC.1 hC.2.1 dX11_bestSet_84 (by decide) (fun c39 => ?_) (fun c39 => ?_)
              · replace h := h.1 c39
                refine lv_iinc (v := v6 + 1) (lv' := [(6, .int (v6 + 1)), (0, .ref (lay 0)), (1, .int a1), (2, .ref (lay 64)), (3, .ref (lay 65)), (4, .int v4), (5, .int v5)]) hC.1 hC.2.1 dX11_bestSet_91 hl (k := 6) rfl rfl (by decide) rfl (fun ls hl => ?_)
                refine lv_goto (tgt := 26) hC.1 hC.2.1 dX11_bestSet_94 (by decide) ?_
                exact ih _ _ _ _ h _ _ _ G (lv_sub hl [1, 2, 3, 4, 5, 6, 0] rfl)
              · replace h := h.2 c39
                refine lv_iload hC.1 hC.2.1 dX11_bestSet_87 (lv_at hl 6 rfl) ?_
                refine lv_istore (lv' := [(5, .int v6), (0, .ref (lay 0)), (1, .int a1), (2, .ref (lay 64)), (3, .ref (lay 65)), (4, .int v4), (6, .int v6)]) hC.1 hC.2.1 dX11_bestSet_89 hl (by decide) rfl (fun ls hl => ?_)
                refine lv_iinc (v := v6 + 1) (lv' := [(6, .int (v6 + 1)), (5, .int v6), (0, .ref (lay 0)), (1, .int a1), (2, .ref (lay 64)), (3, .ref (lay 65)), (4, .int v4)]) hC.1 hC.2.1 dX11_bestSet_91 hl (k := 6) rfl rfl (by decide) rfl (fun ls hl => ?_)
                refine lv_goto (tgt := 26) hC.1 hC.2.1 dX11_bestSet_94 (by decide) ?_
                exact ih _ _ _ _ h _ _ _ G (lv_sub hl [2, 3, 4, 5, 6, 1, 0] rfl)
def u_X11_bestSet_13 (Γ : RG) (post : Nat → (Nat → Int32) → MS → Prop) (a1 : Int32) : Nat → MS → Int32 → Prop
  | 0, _, _ => False
  | n + 1, σ, v4 => ((16 ≤ v4 → (∃ k, u_X11_bestSet_186 Γ post a1 k σ 0 0)) ∧ (¬ 16 ≤ v4 → (∃ k, u_X11_bestSet_26 Γ post a1 (fun σ w0 => u_X11_bestSet_13 Γ post a1 n σ w0) k σ v4 (-1) 0)))
set_option maxHeartbeats 4000000 in
set_option maxRecDepth 100000 in
theorem l_X11_bestSet_13 {p : Program} {l : Launch} {e : Env} {s : State} {m : MethodId} {args : Array Value} {below : List Frame} {meth : Method} {c : Code} {D : va_G} {cy : Nat → ClassId} {lay : Nat → Nat} {Γ : RG} {post : Nat → (Nat → Int32) → MS → Prop} (a1 : Int32) (hC : CallFix p m c cX11_bestSet 9 s args wsX11_bestSet RX11) (hr : meth.sig.returnType = some (.array .int)) (hlocks : meth.locks = false) (hT : rT D cy lay Γ s) : ∀ (n : Nat), ∀ (σ : MS) (v4 : Int32), u_X11_bestSet_13 Γ post a1 n σ v4 → ∀ (H : Heap) (locs : List Loc) (ls : Array Slot), rG D cy lay Γ (gU (gU tn 64 (some (0, 16))) 65 (some (1, 16))) σ (rA cy lay Γ s.heap.size) s.heap H locs → lv_has ls 9 [(0, .ref (lay 0)), (1, .int a1), (2, .ref (lay 64)), (3, .ref (lay 65)), (4, .int v4)] → W p l e rm_X11_bestSet s m args below meth c H locs 2 32 (MQ below (rQA post D cy lay Γ s.heap.size (rA cy lay Γ s.heap.size)) args s 4 64 (rA cy lay Γ s.heap.size)) (F0 m 13 ls []) := by
  intro n
  induction n with
  | zero =>
    intro σ v4 h
    exact h.elim
  | succ n ih =>
    intro σ v4 h H locs ls G hl
    rw [u_X11_bestSet_13] at h
    refine lv_iload hC.1 hC.2.1 dX11_bestSet_13 (lv_at hl 4 rfl) ?_
    refine lv_bipush (v := 16) hC.1 hC.2.1 dX11_bestSet_15 (by decide) ?_
    refine lv_icmp_ge (tgt := 180) hC.1 hC.2.1 dX11_bestSet_17 (by decide) (fun c1 => ?_) (fun c1 => ?_)
    · replace h := h.1 c1
      refine lv_iconst (v := 0) hC.1 hC.2.1 dX11_bestSet_180 (by decide) ?_
      refine lv_istore (lv' := [(4, .int 0), (0, .ref (lay 0)), (1, .int a1), (2, .ref (lay 64)), (3, .ref (lay 65))]) hC.1 hC.2.1 dX11_bestSet_181 hl (by decide) rfl (fun ls hl => ?_)
      refine lv_iconst (v := 0) hC.1 hC.2.1 dX11_bestSet_183 (by decide) ?_
      refine lv_istore (lv' := [(5, .int 0), (4, .int 0), (0, .ref (lay 0)), (1, .int a1), (2, .ref (lay 64)), (3, .ref (lay 65))]) hC.1 hC.2.1 dX11_bestSet_184 hl (by decide) rfl (fun ls hl => ?_)
      obtain ⟨n1, h⟩ := h
      exact l_X11_bestSet_186 a1 hC hr hlocks hT n1 _ _ _ h _ _ _ G (lv_sub hl [2, 3, 4, 1, 0] rfl)
    · replace h := h.2 c1
      refine lv_iconst (v := (-1)) hC.1 hC.2.1 dX11_bestSet_20 (by decide) ?_
      refine lv_istore (lv' := [(5, .int (-1)), (0, .ref (lay 0)), (1, .int a1), (2, .ref (lay 64)), (3, .ref (lay 65)), (4, .int v4)]) hC.1 hC.2.1 dX11_bestSet_21 hl (by decide) rfl (fun ls hl => ?_)
      refine lv_iconst (v := 0) hC.1 hC.2.1 dX11_bestSet_23 (by decide) ?_
      refine lv_istore (lv' := [(6, .int 0), (5, .int (-1)), (0, .ref (lay 0)), (1, .int a1), (2, .ref (lay 64)), (3, .ref (lay 65)), (4, .int v4)]) hC.1 hC.2.1 dX11_bestSet_24 hl (by decide) rfl (fun ls hl => ?_)
      obtain ⟨n1, h⟩ := h
      exact l_X11_bestSet_26 a1 (fun σ w0 => u_X11_bestSet_13 Γ post a1 n σ w0) hC hr hlocks hT ih n1 _ _ _ _ h _ _ _ G (lv_sub hl [2, 3, 4, 5, 6, 1, 0] rfl)
def w_X11_bestSet (Γ : RG) (post : Nat → (Nat → Int32) → MS → Prop) (σ : MS) (a1 : Int32) : Prop := (∃ k, u_X11_bestSet_13 Γ post a1 k (rw0 (rw0 σ 64 (fun _ => 0)) 65 (fun _ => 0)) 0)
set_option maxHeartbeats 4000000 in
set_option maxRecDepth 100000 in
theorem c_X11_bestSet (l : Launch) (D : va_G) (cy : Nat → ClassId) (lay : Nat → Nat) (Γ : RG) {σ : MS} {post : Nat → (Nat → Int32) → MS → Prop} {a1 : Int32} (h : w_X11_bestSet Γ post σ a1) (sz : Nat) : Met l yX11_bestSet wsX11_bestSet rm_X11_bestSet (va_Pc [.ref (lay 0), .int a1] (rI D cy lay Γ σ sz)) (rQA post D cy lay Γ sz (rA cy lay Γ sz)) 4 64 (rA cy lay Γ sz) := by
  refine rg_ofW (cc := cX11_bestSet) (maxL := 9) (ret := some (.array .int)) (own := RX11) (Qc := fun sz => rQA post D cy lay Γ sz (rA cy lay Γ sz)) (by decide) rfl (Nat.le_of_ble_eq_true rfl) rfl ?_
  intro p e s m args below meth c ls hC hr hlocks hT G hl
  unfold w_X11_bestSet at h
  have hl : lv_has ls 9 [(0, .ref (lay 0)), (1, .int a1)] := hl
  refine lv_bipush (v := 16) hC.1 hC.2.1 dX11_bestSet_0 (by decide) ?_
  refine rg_newi (Q := fun lay => MQ below (rQA post D cy lay Γ s.heap.size (rA cy lay Γ s.heap.size)) args s 4 64 (rA cy lay Γ s.heap.size)) (ql_a hT.2.2.2) hC hT G tmO_n (k := 64) (by decide) (by decide) rfl (wm 1 rfl) (N := 16) (by decide) rfl (by decide) (Nat.le_of_ble_eq_true rfl) (Nat.le_of_ble_eq_true rfl) dX11_bestSet_2 (fun lay hly hT H G => ?_)
  refine W.widen (k := 1) (n := 16) (by decide) (by decide) ?_
  replace hl : lv_has ls 9 [(0, .ref (lay 0)), (1, .int a1)] := by rw [hly 0 (by decide)]; exact hl
  refine lv_astore_n (lv' := [(2, .ref (lay 64)), (0, .ref (lay 0)), (1, .int a1)]) hC.1 hC.2.1 dX11_bestSet_4 rfl hl (by decide) rfl (fun ls hl => ?_)
  refine lv_bipush (v := 16) hC.1 hC.2.1 dX11_bestSet_5 (by decide) ?_
  refine rg_newz (Q := fun lay => MQ below (rQA post D cy lay Γ s.heap.size (rA cy lay Γ s.heap.size)) args s 4 64 (rA cy lay Γ s.heap.size)) (ql_a hT.2.2.2) hC hT G (tmO_u tmO_n (Or.inl (Nat.le_of_ble_eq_true rfl))) (k := 65) (by decide) (by decide) rfl (wm 2 rfl) (N := 16) (by decide) rfl (by decide) (Nat.le_of_ble_eq_true rfl) (Nat.le_of_ble_eq_true rfl) dX11_bestSet_7 (fun lay hly hT H G => ?_)
  refine W.widen (k := 2) (n := 32) (by decide) (by decide) ?_
  replace hl : lv_has ls 9 [(2, .ref (lay 64)), (0, .ref (lay 0)), (1, .int a1)] := by rw [hly 64 (by decide), hly 0 (by decide)]; exact hl
  refine lv_astore_n (lv' := [(3, .ref (lay 65)), (2, .ref (lay 64)), (0, .ref (lay 0)), (1, .int a1)]) hC.1 hC.2.1 dX11_bestSet_9 rfl hl (by decide) rfl (fun ls hl => ?_)
  refine lv_iconst (v := 0) hC.1 hC.2.1 dX11_bestSet_10 (by decide) ?_
  refine lv_istore (lv' := [(4, .int 0), (3, .ref (lay 65)), (2, .ref (lay 64)), (0, .ref (lay 0)), (1, .int a1)]) hC.1 hC.2.1 dX11_bestSet_11 hl (by decide) rfl (fun ls hl => ?_)
  obtain ⟨n1, h⟩ := h
  exact l_X11_bestSet_13 a1 hC hr hlocks hT n1 _ _ h _ _ _ G (lv_sub hl [3, 4, 2, 1, 0] rfl)
theorem hdV_X11_bestSet : yX11_bestSet.cls = RX11 ∧ yX11_bestSet.cls ≠ "java/lang/invoke/MethodHandle" ∧ yX11_bestSet.cls ≠ "java/lang/invoke/VarHandle" ∧ (parseMethodDescriptor yX11_bestSet.desc).map (fun d => d.parameters.length) = some 1 := by decide +kernel
abbrev rm_X11_minutesOf : Room := { frames := 5, cells := 4, slots := 64, locals := 116 }
theorem i_X11_minutesOf_X11 : ∀ w ∈ wsX110, w ∈ wsX11_minutesOf := fun _ h => List.mem_cons_of_mem _ (List.mem_append_left _ (List.mem_append_left _ (List.mem_append_right _ h)))
def u_X11_minutesOf_15 (Γ : RG) (post : Int32 → MS → Prop) (a1 : Int32) : Nat → MS → Int32 → Int32 → Int32 → Nat → Prop
  | 0, _, _, _, _, _ => False
  | n + 1, σ, v2, v4, v5, len2 => ((v4 ≤ v5 → post v2 σ) ∧ (¬ v4 ≤ v5 → (vp_in v5 len2 ∧ (vp_in (σ 64 (Int32.toNatClampNeg v5)) 16 ∧ u_X11_minutesOf_15 Γ post a1 n σ (v2 + (σ 9 (Int32.toNatClampNeg (σ 64 (Int32.toNatClampNeg v5))))) v4 (v5 + 1) len2))))
set_option maxHeartbeats 4000000 in
set_option maxRecDepth 100000 in
theorem l_X11_minutesOf_15 {p : Program} {l : Launch} {e : Env} {s : State} {m : MethodId} {args : Array Value} {below : List Frame} {meth : Method} {c : Code} {D : va_G} {cy : Nat → ClassId} {lay : Nat → Nat} {Γ : RG} {post : Int32 → MS → Prop} (a1 : Int32) (hC : CallFix p m c cX11_minutesOf 7 s args wsX11_minutesOf RX11) (hr : meth.sig.returnType = some .int) (hlocks : meth.locks = false) (hT : rT D cy lay Γ s) : ∀ (n : Nat), ∀ (σ : MS) (v2 : Int32) (v4 : Int32) (v5 : Int32) (len2 : Nat), u_X11_minutesOf_15 Γ post a1 n σ v2 v4 v5 len2 → ∀ (H : Heap) (locs : List Loc) (ls : Array Slot), rG D cy lay Γ (gU tn 64 (some (0, len2))) σ (rA cy lay Γ s.heap.size) s.heap H locs → lv_has ls 7 [(0, .ref (lay 0)), (1, .int a1), (2, .int v2), (3, .ref (lay 64)), (4, .int v4), (5, .int v5)] → W p l e rm_X11_minutesOf s m args below meth c H locs 4 64 (MQ below (va_Qi post (rO D cy lay Γ) (rA cy lay Γ s.heap.size)) args s 4 64 (rA cy lay Γ s.heap.size)) (F0 m 15 ls []) := by
  intro n
  induction n with
  | zero =>
    intro σ v2 v4 v5 len2 h
    exact h.elim
  | succ n ih =>
    intro σ v2 v4 v5 len2 h H locs ls G hl
    rw [u_X11_minutesOf_15] at h
    refine lv_iload hC.1 hC.2.1 dX11_minutesOf_15 (lv_at hl 5 rfl) ?_
    refine lv_iload hC.1 hC.2.1 dX11_minutesOf_17 (lv_at hl 4 rfl) ?_
    refine lv_icmp_ge (tgt := 44) hC.1 hC.2.1 dX11_minutesOf_19 (by decide) (fun c5 => ?_) (fun c5 => ?_)
    · replace h := h.1 c5
      refine lv_iload_n hC.1 hC.2.1 dX11_minutesOf_44 rfl (lv_at hl 2 rfl) ?_
      refine W.widen (k := 4) (n := 64) (by decide) (by decide) ?_
      exact rg_iret hC hr hlocks (rG_drop G hT.2.2.2) h dX11_minutesOf_45
    · replace h := h.2 c5
      refine lv_aload_n hC.1 hC.2.1 dX11_minutesOf_22 rfl (lv_at hl 3 rfl) ?_
      refine lv_iload hC.1 hC.2.1 dX11_minutesOf_23 (lv_at hl 5 rfl) ?_
      obtain ⟨hn6, h⟩ := h
      refine rg_iald hC hT G (by decide) (r_ti (by decide) rfl) hn6 dX11_minutesOf_25 ?_
      refine lv_istore (lv' := [(6, .int (σ 64 (Int32.toNatClampNeg v5))), (0, .ref (lay 0)), (1, .int a1), (2, .int v2), (3, .ref (lay 64)), (4, .int v4), (5, .int v5)]) hC.1 hC.2.1 dX11_minutesOf_26 hl (by decide) rfl (fun ls hl => ?_)
      refine lv_iload_n hC.1 hC.2.1 dX11_minutesOf_28 rfl (lv_at hl 3 rfl) ?_
      refine lv_aload_n hC.1 hC.2.1 dX11_minutesOf_29 rfl (lv_at hl 1 rfl) ?_
      refine rg_get hC hT G (by decide) r_mo k_X11 i_X11_minutesOf_X11 8 (by decide) (wm 1 rfl) rfl dX11_minutesOf_30 ?_
      refine lv_iload hC.1 hC.2.1 dX11_minutesOf_33 (lv_at hl 0 rfl) ?_
      obtain ⟨hn7, h⟩ := h
      refine rg_iald hC hT G (by decide) r_mi hn7 dX11_minutesOf_35 ?_
      refine lv_iadd hC.1 hC.2.1 dX11_minutesOf_36 ?_
      refine lv_istore_n (lv' := [(2, .int (v2 + (σ 9 (Int32.toNatClampNeg (σ 64 (Int32.toNatClampNeg v5)))))), (6, .int (σ 64 (Int32.toNatClampNeg v5))), (0, .ref (lay 0)), (1, .int a1), (3, .ref (lay 64)), (4, .int v4), (5, .int v5)]) hC.1 hC.2.1 dX11_minutesOf_37 rfl hl (by decide) rfl (fun ls hl => ?_)
      refine lv_iinc (v := v5 + 1) (lv' := [(5, .int (v5 + 1)), (2, .int (v2 + (σ 9 (Int32.toNatClampNeg (σ 64 (Int32.toNatClampNeg v5)))))), (6, .int (σ 64 (Int32.toNatClampNeg v5))), (0, .ref (lay 0)), (1, .int a1), (3, .ref (lay 64)), (4, .int v4)]) hC.1 hC.2.1 dX11_minutesOf_38 hl (k := 6) rfl rfl (by decide) rfl (fun ls hl => ?_)
      refine lv_goto (tgt := 15) hC.1 hC.2.1 dX11_minutesOf_41 (by decide) ?_
      exact ih _ _ _ _ _ h _ _ _ G (lv_sub hl [3, 4, 1, 5, 6, 0] rfl)
def w_X11_minutesOf (Γ : RG) (post : Int32 → MS → Prop) (σ : MS) (a1 : Int32) : Prop := w_X11_bestSet Γ (fun len2 f3 σ1 => (∃ k, u_X11_minutesOf_15 Γ post a1 k (rw0 (mrg σ1 σ) 64 f3) 0 (nI len2) 0 len2)) σ a1
set_option maxHeartbeats 4000000 in
set_option maxRecDepth 100000 in
theorem c_X11_minutesOf (l : Launch) (D : va_G) (cy : Nat → ClassId) (lay : Nat → Nat) (Γ : RG) {σ : MS} {post : Int32 → MS → Prop} {a1 : Int32} (h : w_X11_minutesOf Γ post σ a1) (sz : Nat) : Met l yX11_minutesOf wsX11_minutesOf rm_X11_minutesOf (va_Pc [.ref (lay 0), .int a1] (rI D cy lay Γ σ sz)) (va_Qi post (rO D cy lay Γ) (rA cy lay Γ sz)) 4 64 (rA cy lay Γ sz) := by
  refine rg_ofW (cc := cX11_minutesOf) (maxL := 7) (ret := some .int) (own := RX11) (Qc := fun sz => va_Qi post (rO D cy lay Γ) (rA cy lay Γ sz)) (by decide) rfl (Nat.le_of_ble_eq_true rfl) rfl ?_
  intro p e s m args below meth c ls hC hr hlocks hT G hl
  unfold w_X11_minutesOf at h
  have hl : lv_has ls 7 [(0, .ref (lay 0)), (1, .int a1)] := hl
  refine lv_iconst (v := 0) hC.1 hC.2.1 dX11_minutesOf_0 (by decide) ?_
  refine lv_istore_n (lv' := [(2, .int 0), (0, .ref (lay 0)), (1, .int a1)]) hC.1 hC.2.1 dX11_minutesOf_1 rfl hl (by decide) rfl (fun ls hl => ?_)
  refine lv_aload_n hC.1 hC.2.1 dX11_minutesOf_2 rfl (lv_at hl 1 rfl) ?_
  refine lv_iload_n hC.1 hC.2.1 dX11_minutesOf_3 rfl (lv_at hl 2 rfl) ?_
  refine rg_aM (Q := fun lay => MQ below (va_Qi post (rO D cy lay Γ) (rA cy lay Γ s.heap.size)) args s 4 64 (rA cy lay Γ s.heap.size)) (ql_i hT.2.2.2) hT G tmO_n (k := 64) (by decide) (by decide) rfl (rg_runV (As := [.int a1]) (rest := []) hC hT G (c_X11_bestSet l D cy lay Γ h _) (cwV 1 hC.2.2.2.2 gX11_minutesOf_X11_bestSet rfl rfl rfl hdV_X11_bestSet ⟨Nat.le_of_ble_eq_true rfl, Nat.le_of_ble_eq_true rfl⟩) (rg_recv hT G (by decide) r_mo k_X11) rfl hl.1 rfl (Nat.le_of_ble_eq_true rfl) dX11_minutesOf_4 ⟨Nat.le_of_ble_eq_true rfl, Nat.le_of_ble_eq_true rfl⟩) (fun len2 f3 σ1 h lay hly hT H locs G => ?_)
  (try dsimp only at h)
  replace hl : lv_has ls 7 [(2, .int 0), (0, .ref (lay 0)), (1, .int a1)] := by rw [hly 0 (by decide)]; exact hl
  refine lv_astore_n (lv' := [(3, .ref (lay 64)), (2, .int 0), (0, .ref (lay 0)), (1, .int a1)]) hC.1 hC.2.1 dX11_minutesOf_7 rfl hl (by decide) rfl (fun ls hl => ?_)
  refine lv_aload_n hC.1 hC.2.1 dX11_minutesOf_8 rfl (lv_at hl 0 rfl) ?_
  refine rg_alen hC hT G (by decide) (r_ti (by decide) rfl) dX11_minutesOf_9 ?_
  refine lv_istore (lv' := [(4, .int (nI len2)), (3, .ref (lay 64)), (2, .int 0), (0, .ref (lay 0)), (1, .int a1)]) hC.1 hC.2.1 dX11_minutesOf_10 hl (by decide) rfl (fun ls hl => ?_)
  refine lv_iconst (v := 0) hC.1 hC.2.1 dX11_minutesOf_12 (by decide) ?_
  refine lv_istore (lv' := [(5, .int 0), (4, .int (nI len2)), (3, .ref (lay 64)), (2, .int 0), (0, .ref (lay 0)), (1, .int a1)]) hC.1 hC.2.1 dX11_minutesOf_13 hl (by decide) rfl (fun ls hl => ?_)
  obtain ⟨n1, h⟩ := h
  exact l_X11_minutesOf_15 a1 hC hr hlocks hT n1 _ _ _ _ _ h _ _ _ G (lv_sub hl [4, 5, 3, 2, 1, 0] rfl)
theorem hdV_X11_minutesOf : yX11_minutesOf.cls = RX11 ∧ yX11_minutesOf.cls ≠ "java/lang/invoke/MethodHandle" ∧ yX11_minutesOf.cls ≠ "java/lang/invoke/VarHandle" ∧ (parseMethodDescriptor yX11_minutesOf.desc).map (fun d => d.parameters.length) = some 1 := by decide +kernel
