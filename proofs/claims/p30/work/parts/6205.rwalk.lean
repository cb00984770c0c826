abbrev rm_X11_late : Room := { frames := 3, cells := 0, slots := 0, locals := 64 }
theorem i_X11_late_X11 : ∀ w ∈ wsX110, w ∈ wsX11_late := fun _ h => List.mem_cons_of_mem _ (List.mem_append_left _ (List.mem_append_left _ (List.mem_append_right _ h)))
theorem i_X11_late_X10 : ∀ w ∈ wsX100, w ∈ wsX11_late := fun _ h => List.mem_cons_of_mem _ (List.mem_append_left _ (List.mem_append_right _ h))
def w_X11_late (Γ : RG) (post : Int32 → MS → Prop) (σ : MS) (a1 : Int32) (a2 : Int32) : Prop := w_X11_isWedding Γ (fun r2 σ1 => ((r2 = 0 → w_X11_refuse Γ (fun r18 σ17 => post r18 σ17) σ1 1) ∧ (¬ r2 = 0 → w_X11_is Γ (fun r5 σ4 => ((r5 = 0 → w_X11_refuse Γ (fun r16 σ15 => post r16 σ15) σ4 2) ∧ (¬ r5 = 0 → w_lw_Jx4a65c_get_915e3 Γ (fun j8 σ7 => ((j8 < 14 ∧ j8 < Γ.2.2.1) ∧ (((σ7 (33 + j8) 7) = 1 → w_X10_quarters Γ (fun r12 σ11 => post r12 σ11) (up2 σ7 (33 + j8) 10 a2) j8) ∧ (¬ (σ7 (33 + j8) 7) = 1 → w_X11_refuse Γ (fun r14 σ13 => post r14 σ13) σ7 3)))) σ4 a1))) σ1 a2 0 240))) (up2 σ 0 0 0) a1
set_option maxHeartbeats 4000000 in
set_option maxRecDepth 100000 in
theorem c_X11_late (l : Launch) (D : va_G) (cy : Nat → ClassId) (lay : Nat → Nat) (Γ : RG) {σ : MS} {post : Int32 → MS → Prop} {a1 : Int32} {a2 : Int32} (h : w_X11_late Γ post σ a1 a2) (sz : Nat) : Met l yX11_late wsX11_late rm_X11_late (va_Pc [.ref (lay 0), .int a1, .int a2] (rI D cy lay Γ σ sz)) (va_Qi post (rO D cy lay Γ) (rA cy lay Γ sz)) 0 0 (rA cy lay Γ sz) := by
  refine rg_ofW (cc := cX11_late) (maxL := 4) (ret := some .int) (own := RX11) (Qc := fun sz => va_Qi post (rO D cy lay Γ) (rA cy lay Γ sz)) (by decide) rfl (Nat.le_of_ble_eq_true rfl) rfl ?_
  intro p e s m args below meth c ls hC hr hlocks hT G hl
  unfold w_X11_late at h
  have hl : lv_has ls 4 [(0, .ref (lay 0)), (1, .int a1), (2, .int a2)] := hl
  refine lv_aload_n hC.1 hC.2.1 dX11_late_0 rfl (lv_at hl 0 rfl) ?_
  refine lv_iconst (v := 0) hC.1 hC.2.1 dX11_late_1 (by decide) ?_
  refine rg_put hC hT G (by decide) r_mo k_X11 i_X11_late_X11 0 (by decide) (wm 1 rfl) rfl rfl (by simp) r_mo (by rw [up2_eq]; rfl) dX11_late_2 (fun H locs G => ?_)
  refine lv_aload_n hC.1 hC.2.1 dX11_late_5 rfl (lv_at hl 0 rfl) ?_
  refine lv_iload_n hC.1 hC.2.1 dX11_late_6 rfl (lv_at hl 1 rfl) ?_
  refine rg_i G (rg_runV (As := [.int a1]) (rest := []) hC hT G (c_X11_isWedding l D cy lay Γ h _) (cwV 1 hC.2.2.2.2 gX11_late_X11_isWedding rfl rfl rfl hdV_X11_isWedding ⟨Nat.le_of_ble_eq_true rfl, Nat.le_of_ble_eq_true rfl⟩) (rg_recv hT G (by decide) r_mo k_X11) rfl hl.1 rfl (Nat.le_of_ble_eq_true rfl) dX11_late_7 ⟨Nat.le_of_ble_eq_true rfl, Nat.le_of_ble_eq_true rfl⟩) (fun r2 σ1 H locs h G => ?_)
  (try dsimp only at h)
  refine lv_if_ne (tgt := 19) hC.1 hC.2.1 dX11_late_10 (by decide) (fun c3 => ?_) (fun c3 => ?_)
  · replace h := h.2 c3
    refine lv_iload_n hC.1 hC.2.1 dX11_late_19 rfl (lv_at hl 2 rfl) ?_
    refine lv_iconst (v := 0) hC.1 hC.2.1 dX11_late_20 (by decide) ?_
    refine lv_sipush (v := 240) hC.1 hC.2.1 dX11_late_21 (by decide) ?_
    refine rg_i G (rg_runS (As := [.int a2, .int 0, .int 240]) (rest := []) hC hT G (c_X11_is l D cy lay Γ h _) (va_cwS 3 hC.2.2.2.2 gX11_late_X11_is rfl rfl rfl hdS_X11_is ⟨Nat.le_of_ble_eq_true rfl, Nat.le_of_ble_eq_true rfl⟩) rfl hl.1 rfl (Nat.le_of_ble_eq_true rfl) dX11_late_24 ⟨Nat.le_of_ble_eq_true rfl, Nat.le_of_ble_eq_true rfl⟩) (fun r5 σ4 H locs h G => ?_)
    (try dsimp only at h)
    refine lv_if_ne (tgt := 36) hC.1 hC.2.1 dX11_late_27 (by decide) (fun c6 => ?_) (fun c6 => ?_)
    · replace h := h.2 c6
      refine lv_aload_n hC.1 hC.2.1 dX11_late_36 rfl (lv_at hl 0 rfl) ?_
      refine rg_get hC hT G (by decide) r_mo k_X11 i_X11_late_X11 5 (by decide) (wm 2 rfl) rfl dX11_late_37 ?_
      refine lv_iload_n hC.1 hC.2.1 dX11_late_40 rfl (lv_at hl 1 rfl) ?_
      refine rg_r (f := fun i => lay (33 + i)) G (rg_runV (As := [.int a1]) (rest := []) hC hT G (c_lw_Jx4a65c_get_915e3 l D cy lay Γ h _) (cwV 1 hC.2.2.2.2 gX11_late_Jx4a65c_get_915e3 rfl rfl rfl hdV_Jx4a65c_get_915e3 ⟨Nat.le_of_ble_eq_true rfl, Nat.le_of_ble_eq_true rfl⟩) (rg_recv hT G (by decide) r_lw k_AL) rfl hl.1 rfl (Nat.le_of_ble_eq_true rfl) dX11_late_41 ⟨Nat.le_of_ble_eq_true rfl, Nat.le_of_ble_eq_true rfl⟩) (fun j8 σ7 H locs h G => ?_)
      (try dsimp only at h)
      obtain ⟨hj9, h⟩ := h
      refine rg_cast hC hT k_X10 (wm 3 rfl) (rg_recv hT G (rk_wd hj9) (r_wd hj9) k_X10) dX11_late_44 ?_
      refine lv_astore_n (lv' := [(3, .ref (lay (33 + j8))), (0, .ref (lay 0)), (1, .int a1), (2, .int a2)]) hC.1 hC.2.1 dX11_late_47 rfl hl (by decide) rfl (fun ls hl => ?_)
      refine lv_aload_n hC.1 hC.2.1 dX11_late_48 rfl (lv_at hl 0 rfl) ?_
      refine rg_getN hC hT G (rk_wd hj9) (r_wd hj9) k_X10 i_X11_late_X10 7 (by decide) 17 rfl rfl dX11_late_49 ?_
      refine lv_iconst (v := 1) hC.1 hC.2.1 dX11_late_52 (by decide) ?_
      refine lv_icmp_eq (tgt := 62) hC.1 hC.2.1 dX11_late_53 (by decide) (fun c10 => ?_) (fun c10 => ?_)
      · replace h := h.1 c10
        refine lv_aload_n hC.1 hC.2.1 dX11_late_62 rfl (lv_at hl 0 rfl) ?_
        refine lv_iload_n hC.1 hC.2.1 dX11_late_63 rfl (lv_at hl 3 rfl) ?_
        refine rg_putN hC hT G (rk_wd hj9) (r_wd hj9) k_X10 i_X11_late_X10 10 (by decide) 20 rfl rfl rfl (by simp) (r_wd hj9) (by rw [up2_eq]; rfl) dX11_late_64 (fun H locs G => ?_)
        refine lv_aload_n hC.1 hC.2.1 dX11_late_67 rfl (lv_at hl 0 rfl) ?_
        refine rg_i G (rg_runV (As := []) (rest := []) hC hT G (c_X10_quarters l D cy lay Γ h hj9 _) (cwV 0 hC.2.2.2.2 gX11_late_X10_quarters rfl rfl rfl hdV_X10_quarters ⟨Nat.le_of_ble_eq_true rfl, Nat.le_of_ble_eq_true rfl⟩) (rg_recv hT G (rk_wd hj9) (r_wd hj9) k_X10) rfl hl.1 rfl (Nat.le_of_ble_eq_true rfl) dX11_late_68 ⟨Nat.le_of_ble_eq_true rfl, Nat.le_of_ble_eq_true rfl⟩) (fun r12 σ11 H locs h G => ?_)
        (try dsimp only at h)
        exact rg_iret hC hr hlocks G h dX11_late_71
      · replace h := h.2 c10
        refine lv_aload_n hC.1 hC.2.1 dX11_late_56 rfl (lv_at hl 1 rfl) ?_
        refine lv_iconst (v := 3) hC.1 hC.2.1 dX11_late_57 (by decide) ?_
        refine rg_i G (rg_runV (As := [.int 3]) (rest := []) hC hT G (c_X11_refuse l D cy lay Γ h _) (cwV 1 hC.2.2.2.2 gX11_late_X11_refuse rfl rfl rfl hdV_X11_refuse ⟨Nat.le_of_ble_eq_true rfl, Nat.le_of_ble_eq_true rfl⟩) (rg_recv hT G (by decide) r_mo k_X11) rfl hl.1 rfl (Nat.le_of_ble_eq_true rfl) dX11_late_58 ⟨Nat.le_of_ble_eq_true rfl, Nat.le_of_ble_eq_true rfl⟩) (fun r14 σ13 H locs h G => ?_)
        (try dsimp only at h)
        exact rg_iret hC hr hlocks G h dX11_late_61
    · replace h := h.1 c6
      refine lv_aload_n hC.1 hC.2.1 dX11_late_30 rfl (lv_at hl 0 rfl) ?_
      refine lv_iconst (v := 2) hC.1 hC.2.1 dX11_late_31 (by decide) ?_
      refine rg_i G (rg_runV (As := [.int 2]) (rest := []) hC hT G (c_X11_refuse l D cy lay Γ h _) (cwV 1 hC.2.2.2.2 gX11_late_X11_refuse rfl rfl rfl hdV_X11_refuse ⟨Nat.le_of_ble_eq_true rfl, Nat.le_of_ble_eq_true rfl⟩) (rg_recv hT G (by decide) r_mo k_X11) rfl hl.1 rfl (Nat.le_of_ble_eq_true rfl) dX11_late_32 ⟨Nat.le_of_ble_eq_true rfl, Nat.le_of_ble_eq_true rfl⟩) (fun r16 σ15 H locs h G => ?_)
      (try dsimp only at h)
      exact rg_iret hC hr hlocks G h dX11_late_35
  · replace h := h.1 c3
    refine lv_aload_n hC.1 hC.2.1 dX11_late_13 rfl (lv_at hl 0 rfl) ?_
    refine lv_iconst (v := 1) hC.1 hC.2.1 dX11_late_14 (by decide) ?_
    refine rg_i G (rg_runV (As := [.int 1]) (rest := []) hC hT G (c_X11_refuse l D cy lay Γ h _) (cwV 1 hC.2.2.2.2 gX11_late_X11_refuse rfl rfl rfl hdV_X11_refuse ⟨Nat.le_of_ble_eq_true rfl, Nat.le_of_ble_eq_true rfl⟩) (rg_recv hT G (by decide) r_mo k_X11) rfl hl.1 rfl (Nat.le_of_ble_eq_true rfl) dX11_late_15 ⟨Nat.le_of_ble_eq_true rfl, Nat.le_of_ble_eq_true rfl⟩) (fun r18 σ17 H locs h G => ?_)
    (try dsimp only at h)
    exact rg_iret hC hr hlocks G h dX11_late_18
theorem hdV_X11_late : yX11_late.cls = RX11 ∧ yX11_late.cls ≠ "java/lang/invoke/MethodHandle" ∧ yX11_late.cls ≠ "java/lang/invoke/VarHandle" ∧ (parseMethodDescriptor yX11_late.desc).map (fun d => d.parameters.length) = some 2 := by decide +kernel
abbrev rm_X11_fees : Room := { frames := 3, cells := 0, slots := 0, locals := 64 }
theorem i_X11_fees_X11 : ∀ w ∈ wsX110, w ∈ wsX11_fees := fun _ h => List.mem_cons_of_mem _ (List.mem_append_left _ (List.mem_append_left _ (List.mem_append_right _ h)))
theorem i_X11_fees_X9 : ∀ w ∈ wsX90, w ∈ wsX11_fees := fun _ h => List.mem_cons_of_mem _ (List.mem_append_left _ (List.mem_append_right _ h))
def u_X11_fees_4 (Γ : RG) (post : Int32 → MS → Prop) (a1 : Int32) : Nat → MS → Int32 → Int32 → Prop
  | 0, _, _, _ => False
  | n + 1, σ, v2, v3 => w_lp_Jx4a65c_size_8abf5 Γ (fun r2 σ1 => ((r2 ≤ v3 → post v2 σ1) ∧ (¬ r2 ≤ v3 → w_X11_isIn Γ (fun r5 σ4 => ((r5 = 0 → u_X11_fees_4 Γ post a1 n σ4 (v2 + 0) (v3 + 1)) ∧ (¬ r5 = 0 → w_lp_Jx4a65c_get_915e3 Γ (fun j8 σ7 => ((j8 < 10 ∧ j8 < Γ.1) ∧ u_X11_fees_4 Γ post a1 n σ7 (v2 + (σ7 (13 + j8) 3)) (v3 + 1))) σ4 v3))) σ1 a1 v3))) σ
set_option maxHeartbeats 4000000 in
set_option maxRecDepth 100000 in
theorem l_X11_fees_4 {p : Program} {l : Launch} {e : Env} {s : State} {m : MethodId} {args : Array Value} {below : List Frame} {meth : Method} {c : Code} {D : va_G} {cy : Nat → ClassId} {lay : Nat → Nat} {Γ : RG} {post : Int32 → MS → Prop} (a1 : Int32) (hC : CallFix p m c cX11_fees 4 s args wsX11_fees RX11) (hr : meth.sig.returnType = some .int) (hlocks : meth.locks = false) (hT : rT D cy lay Γ s) : ∀ (n : Nat), ∀ (σ : MS) (v2 : Int32) (v3 : Int32), u_X11_fees_4 Γ post a1 n σ v2 v3 → ∀ (H : Heap) (locs : List Loc) (ls : Array Slot), rG D cy lay Γ tn σ (rA cy lay Γ s.heap.size) s.heap H locs → lv_has ls 4 [(0, .ref (lay 0)), (1, .int a1), (2, .int v2), (3, .int v3)] → W p l e rm_X11_fees s m args below meth c H locs 0 0 (MQ below (va_Qi post (rO D cy lay Γ) (rA cy lay Γ s.heap.size)) args s 0 0 (rA cy lay Γ s.heap.size)) (F0 m 4 ls []) := by
  intro n
  induction n with
  | zero =>
    intro σ v2 v3 h
    exact h.elim
  | succ n ih =>
    intro σ v2 v3 h H locs ls G hl
    rw [u_X11_fees_4] at h
    refine lv_iload_n hC.1 hC.2.1 dX11_fees_4 rfl (lv_at hl 3 rfl) ?_
    refine lv_aload_n hC.1 hC.2.1 dX11_fees_5 rfl (lv_at hl 0 rfl) ?_
    refine rg_get hC hT G (by decide) r_mo k_X11 i_X11_fees_X11 3 (by decide) (wm 1 rfl) rfl dX11_fees_6 ?_
    refine rg_i G (rg_runV (As := []) (rest := [.int v3]) hC hT G (c_lp_Jx4a65c_size_8abf5 l D cy lay Γ h _) (cwV 0 hC.2.2.2.2 gX11_fees_Jx4a65c_size_8abf5 rfl rfl rfl hdV_Jx4a65c_size_8abf5 ⟨Nat.le_of_ble_eq_true rfl, Nat.le_of_ble_eq_true rfl⟩) (rg_recv hT G (by decide) r_lp k_AL) rfl hl.1 rfl (Nat.le_of_ble_eq_true rfl) dX11_fees_9 ⟨Nat.le_of_ble_eq_true rfl, Nat.le_of_ble_eq_true rfl⟩) (fun r2 σ1 H locs h G => ?_)
    (try dsimp only at h)
    refine lv_icmp_ge (tgt := 50) hC.1 hC.2.1 dX11_fees_12 (by decide) (fun c3 => ?_) (fun c3 => ?_)
    · replace h := h.1 c3
      refine lv_iload_n hC.1 hC.2.1 dX11_fees_50 rfl (lv_at hl 2 rfl) ?_
      exact rg_iret hC hr hlocks G h dX11_fees_51
    · replace h := h.2 c3
      refine lv_iload_n hC.1 hC.2.1 dX11_fees_15 rfl (lv_at hl 2 rfl) ?_
      refine lv_iload_n hC.1 hC.2.1 dX11_fees_16 rfl (lv_at hl 1 rfl) ?_
      refine lv_iload_n hC.1 hC.2.1 dX11_fees_17 rfl (lv_at hl 3 rfl) ?_
      refine rg_i G (rg_runS (As := [.int a1, .int v3]) (rest := [.int v2]) hC hT G (c_X11_isIn l D cy lay Γ h _) (va_cwS 2 hC.2.2.2.2 gX11_fees_X11_isIn rfl rfl rfl hdS_X11_isIn ⟨Nat.le_of_ble_eq_true rfl, Nat.le_of_ble_eq_true rfl⟩) rfl hl.1 rfl (Nat.le_of_ble_eq_true rfl) dX11_fees_18 ⟨Nat.le_of_ble_eq_true rfl, Nat.le_of_ble_eq_true rfl⟩) (fun r5 σ4 H locs h G => ?_)
      (try dsimp only at h)
      refine lv_if_eq (tgt := 41) hC.1 hC.2.1 dX11_fees_21 (by decide) (fun c6 => ?_) (fun c6 => ?_)
      · replace h := h.1 c6
        refine lv_iconst (v := 0) hC.1 hC.2.1 dX11_fees_41 (by decide) ?_
        refine lv_iadd hC.1 hC.2.1 dX11_fees_42 ?_
        refine lv_istore_n (lv' := [(2, .int (v2 + 0)), (0, .ref (lay 0)), (1, .int a1), (3, .int v3)]) hC.1 hC.2.1 dX11_fees_43 rfl hl (by decide) rfl (fun ls hl => ?_)
        refine lv_iinc (v := v3 + 1) (lv' := [(3, .int (v3 + 1)), (2, .int (v2 + 0)), (0, .ref (lay 0)), (1, .int a1)]) hC.1 hC.2.1 dX11_fees_44 hl (k := 3) rfl rfl (by decide) rfl (fun ls hl => ?_)
        refine lv_goto (tgt := 4) hC.1 hC.2.1 dX11_fees_47 (by decide) ?_
        exact ih _ _ _ h _ _ _ G (lv_sub hl [2, 3, 1, 0] rfl)
      · replace h := h.2 c6
        refine lv_aload_n hC.1 hC.2.1 dX11_fees_24 rfl (lv_at hl 0 rfl) ?_
        refine rg_get hC hT G (by decide) r_mo k_X11 i_X11_fees_X11 3 (by decide) (wm 1 rfl) rfl dX11_fees_25 ?_
        refine lv_iload_n hC.1 hC.2.1 dX11_fees_28 rfl (lv_at hl 3 rfl) ?_
        refine rg_r (f := fun i => lay (13 + i)) G (rg_runV (As := [.int v3]) (rest := [.int v2]) hC hT G (c_lp_Jx4a65c_get_915e3 l D cy lay Γ h _) (cwV 1 hC.2.2.2.2 gX11_fees_Jx4a65c_get_915e3 rfl rfl rfl hdV_Jx4a65c_get_915e3 ⟨Nat.le_of_ble_eq_true rfl, Nat.le_of_ble_eq_true rfl⟩) (rg_recv hT G (by decide) r_lp k_AL) rfl hl.1 rfl (Nat.le_of_ble_eq_true rfl) dX11_fees_29 ⟨Nat.le_of_ble_eq_true rfl, Nat.le_of_ble_eq_true rfl⟩) (fun j8 σ7 H locs h G => ?_)
        (try dsimp only at h)
        obtain ⟨hj9, h⟩ := h
        refine rg_cast hC hT k_X9 (wm 2 rfl) (rg_recv hT G (rk_pl hj9) (r_pl hj9) k_X9) dX11_fees_32 ?_
        refine rg_getN hC hT G (rk_pl hj9) (r_pl hj9) k_X9 i_X11_fees_X9 3 (by decide) 5 rfl rfl dX11_fees_35 ?_
        refine lv_goto (tgt := 42) hC.1 hC.2.1 dX11_fees_38 (by decide) ?_
        refine lv_iadd hC.1 hC.2.1 dX11_fees_42 ?_
        refine lv_istore_n (lv' := [(2, .int (v2 + (σ7 (13 + j8) 3))), (0, .ref (lay 0)), (1, .int a1), (3, .int v3)]) hC.1 hC.2.1 dX11_fees_43 rfl hl (by decide) rfl (fun ls hl => ?_)
        refine lv_iinc (v := v3 + 1) (lv' := [(3, .int (v3 + 1)), (2, .int (v2 + (σ7 (13 + j8) 3))), (0, .ref (lay 0)), (1, .int a1)]) hC.1 hC.2.1 dX11_fees_44 hl (k := 3) rfl rfl (by decide) rfl (fun ls hl => ?_)
        refine lv_goto (tgt := 4) hC.1 hC.2.1 dX11_fees_47 (by decide) ?_
        exact ih _ _ _ h _ _ _ G (lv_sub hl [2, 3, 1, 0] rfl)
def w_X11_fees (Γ : RG) (post : Int32 → MS → Prop) (σ : MS) (a1 : Int32) : Prop := (∃ k, u_X11_fees_4 Γ post a1 k σ 0 0)
set_option maxHeartbeats 4000000 in
set_option maxRecDepth 100000 in
theorem c_X11_fees (l : Launch) (D : va_G) (cy : Nat → ClassId) (lay : Nat → Nat) (Γ : RG) {σ : MS} {post : Int32 → MS → Prop} {a1 : Int32} (h : w_X11_fees Γ post σ a1) (sz : Nat) : Met l yX11_fees wsX11_fees rm_X11_fees (va_Pc [.ref (lay 0), .int a1] (rI D cy lay Γ σ sz)) (va_Qi post (rO D cy lay Γ) (rA cy lay Γ sz)) 0 0 (rA cy lay Γ sz) := by
  refine rg_ofW (cc := cX11_fees) (maxL := 4) (ret := some .int) (own := RX11) (Qc := fun sz => va_Qi post (rO D cy lay Γ) (rA cy lay Γ sz)) (by decide) rfl (Nat.le_of_ble_eq_true rfl) rfl ?_
  intro p e s m args below meth c ls hC hr hlocks hT G hl
  unfold w_X11_fees at h
  have hl : lv_has ls 4 [(0, .ref (lay 0)), (1, .int a1)] := hl
  refine lv_iconst (v := 0) hC.1 hC.2.1 dX11_fees_0 (by decide) ?_
  refine lv_istore_n (lv' := [(2, .int 0), (0, .ref (lay 0)), (1, .int a1)]) hC.1 hC.2.1 dX11_fees_1 rfl hl (by decide) rfl (fun ls hl => ?_)
  refine lv_iconst (v := 0) hC.1 hC.2.1 dX11_fees_2 (by decide) ?_
  refine lv_istore_n (lv' := [(3, .int 0), (2, .int 0), (0, .ref (lay 0)), (1, .int a1)]) hC.1 hC.2.1 dX11_fees_3 rfl hl (by decide) rfl (fun ls hl => ?_)
  obtain ⟨n1, h⟩ := h
  exact l_X11_fees_4 a1 hC hr hlocks hT n1 _ _ _ h _ _ _ G (lv_sub hl [2, 3, 1, 0] rfl)
theorem hdV_X11_fees : yX11_fees.cls = RX11 ∧ yX11_fees.cls ≠ "java/lang/invoke/MethodHandle" ∧ yX11_fees.cls ≠ "java/lang/invoke/VarHandle" ∧ (parseMethodDescriptor yX11_fees.desc).map (fun d => d.parameters.length) = some 1 := by decide +kernel
abbrev rm_X11_earnedAt : Room := { frames := 4, cells := 0, slots := 0, locals := 88 }
theorem i_X11_earnedAt_X11 : ∀ w ∈ wsX110, w ∈ wsX11_earnedAt := fun _ h => List.mem_cons_of_mem _ (List.mem_append_left _ (List.mem_append_left _ (List.mem_append_left _ (List.mem_append_right _ h))))
theorem i_X11_earnedAt_X9 : ∀ w ∈ wsX90, w ∈ wsX11_earnedAt := fun _ h => List.mem_cons_of_mem _ (List.mem_append_left _ (List.mem_append_left _ (List.mem_append_right _ h)))
def w_X11_earnedAt (Γ : RG) (post : Int32 → MS → Prop) (σ : MS) (a1 : Int32) (i2 : Nat) : Prop := w_X11_cost Γ (fun r2 σ1 => w_X10_quarters Γ (fun r4 σ3 => w_lp_Jx4a65c_get_915e3 Γ (fun j6 σ5 => ((j6 < 10 ∧ j6 < Γ.1) ∧ post (r2 + ((r4 * (σ5 (13 + j6) 3)) / 4)) σ5)) σ3 a1) σ1 i2) σ a1 i2
set_option maxHeartbeats 4000000 in
set_option maxRecDepth 100000 in
theorem c_X11_earnedAt (l : Launch) (D : va_G) (cy : Nat → ClassId) (lay : Nat → Nat) (Γ : RG) {σ : MS} {post : Int32 → MS → Prop} {a1 : Int32} {i2 : Nat} (h : w_X11_earnedAt Γ post σ a1 i2) (hi2 : i2 < 14 ∧ i2 < Γ.2.2.1) (sz : Nat) : Met l yX11_earnedAt wsX11_earnedAt rm_X11_earnedAt (va_Pc [.ref (lay 0), .int a1, .ref (lay (33 + i2))] (rI D cy lay Γ σ sz)) (va_Qi post (rO D cy lay Γ) (rA cy lay Γ sz)) 0 0 (rA cy lay Γ sz) := by
  refine rg_ofW (cc := cX11_earnedAt) (maxL := 3) (ret := some .int) (own := RX11) (Qc := fun sz => va_Qi post (rO D cy lay Γ) (rA cy lay Γ sz)) (by decide) rfl (Nat.le_of_ble_eq_true rfl) rfl ?_
  intro p e s m args below meth c ls hC hr hlocks hT G hl
  unfold w_X11_earnedAt at h
  have hl : lv_has ls 3 [(0, .ref (lay 0)), (1, .int a1), (2, .ref (lay (33 + i2)))] := hl
  refine lv_aload_n hC.1 hC.2.1 dX11_earnedAt_0 rfl (lv_at hl 0 rfl) ?_
  refine lv_iload_n hC.1 hC.2.1 dX11_earnedAt_1 rfl (lv_at hl 1 rfl) ?_
  refine lv_aload_n hC.1 hC.2.1 dX11_earnedAt_2 rfl (lv_at hl 2 rfl) ?_
  refine rg_i G (rg_runV (As := [.int a1, .ref (lay (33 + i2))]) (rest := []) hC hT G (c_X11_cost l D cy lay Γ h hi2 _) (cwV 2 hC.2.2.2.2 gX11_earnedAt_X11_cost rfl rfl rfl hdV_X11_cost ⟨Nat.le_of_ble_eq_true rfl, Nat.le_of_ble_eq_true rfl⟩) (rg_recv hT G (by decide) r_mo k_X11) rfl hl.1 rfl (Nat.le_of_ble_eq_true rfl) dX11_earnedAt_3 ⟨Nat.le_of_ble_eq_true rfl, Nat.le_of_ble_eq_true rfl⟩) (fun r2 σ1 H locs h G => ?_)
  (try dsimp only at h)
  refine lv_aload_n hC.1 hC.2.1 dX11_earnedAt_6 rfl (lv_at hl 2 rfl) ?_
  refine rg_i G (rg_runV (As := []) (rest := [.int r2]) hC hT G (c_X10_quarters l D cy lay Γ h hi2 _) (cwV 0 hC.2.2.2.2 gX11_earnedAt_X10_quarters rfl rfl rfl hdV_X10_quarters ⟨Nat.le_of_ble_eq_true rfl, Nat.le_of_ble_eq_true rfl⟩) (rg_recv hT G (rk_wd hi2) (r_wd hi2) k_X10) rfl hl.1 rfl (Nat.le_of_ble_eq_true rfl) dX11_earnedAt_7 ⟨Nat.le_of_ble_eq_true rfl, Nat.le_of_ble_eq_true rfl⟩) (fun r4 σ3 H locs h G => ?_)
  (try dsimp only at h)
  refine lv_aload_n hC.1 hC.2.1 dX11_earnedAt_10 rfl (lv_at hl 0 rfl) ?_
  refine rg_get hC hT G (by decide) r_mo k_X11 i_X11_earnedAt_X11 3 (by decide) (wm 1 rfl) rfl dX11_earnedAt_11 ?_
  refine lv_iload_n hC.1 hC.2.1 dX11_earnedAt_14 rfl (lv_at hl 1 rfl) ?_
  refine rg_r (f := fun i => lay (13 + i)) G (rg_runV (As := [.int a1]) (rest := [.int r4, .int r2]) hC hT G (c_lp_Jx4a65c_get_915e3 l D cy lay Γ h _) (cwV 1 hC.2.2.2.2 gX11_earnedAt_Jx4a65c_get_915e3 rfl rfl rfl hdV_Jx4a65c_get_915e3 ⟨Nat.le_of_ble_eq_true rfl, Nat.le_of_ble_eq_true rfl⟩) (rg_recv hT G (by decide) r_lp k_AL) rfl hl.1 rfl (Nat.le_of_ble_eq_true rfl) dX11_earnedAt_15 ⟨Nat.le_of_ble_eq_true rfl, Nat.le_of_ble_eq_true rfl⟩) (fun j6 σ5 H locs h G => ?_)
  (try dsimp only at h)
  obtain ⟨hj7, h⟩ := h
  refine rg_cast hC hT k_X9 (wm 2 rfl) (rg_recv hT G (rk_pl hj7) (r_pl hj7) k_X9) dX11_earnedAt_18 ?_
  refine rg_getN hC hT G (rk_pl hj7) (r_pl hj7) k_X9 i_X11_earnedAt_X9 3 (by decide) 5 rfl rfl dX11_earnedAt_21 ?_
  refine lv_imul hC.1 hC.2.1 dX11_earnedAt_24 ?_
  refine lv_iconst (v := 4) hC.1 hC.2.1 dX11_earnedAt_25 (by decide) ?_
  refine lv_idiv hC.1 hC.2.1 dX11_earnedAt_26 (by decide) ?_
  refine lv_iadd hC.1 hC.2.1 dX11_earnedAt_27 ?_
  exact rg_iret hC hr hlocks G h dX11_earnedAt_28
theorem hdV_X11_earnedAt : yX11_earnedAt.cls = RX11 ∧ yX11_earnedAt.cls ≠ "java/lang/invoke/MethodHandle" ∧ yX11_earnedAt.cls ≠ "java/lang/invoke/VarHandle" ∧ (parseMethodDescriptor yX11_earnedAt.desc).map (fun d => d.parameters.length) = some 2 := by decide +kernel
abbrev rm_X11_gain : Room := { frames := 5, cells := 0, slots := 0, locals := 110 }
theorem i_X11_gain_X10 : ∀ w ∈ wsX100, w ∈ wsX11_gain := fun _ h => List.mem_cons_of_mem _ (List.mem_append_left _ (List.mem_append_left _ (List.mem_append_left _ (List.mem_append_right _ h))))
theorem i_X11_gain_X11 : ∀ w ∈ wsX110, w ∈ wsX11_gain := fun _ h => List.mem_cons_of_mem _ (List.mem_append_left _ (List.mem_append_left _ (List.mem_append_right _ h)))
def u_X11_gain_28 (Γ : RG) (post : Int32 → MS → Prop) (i1 : Nat) : Nat → MS → Int32 → Int32 → Prop
  | 0, _, _, _ => False
  | n + 1, σ, v2, v3 => w_lp_Jx4a65c_size_8abf5 Γ (fun r6 σ5 => ((r6 ≤ v3 → post v2 σ5) ∧ (¬ r6 ≤ v3 → w_X11_isIn Γ (fun r9 σ8 => ((r9 = 0 → u_X11_gain_28 Γ post i1 n σ8 (v2 - 0) (v3 + 1)) ∧ (¬ r9 = 0 → w_X11_earnedAt Γ (fun r12 σ11 => u_X11_gain_28 Γ post i1 n σ11 (v2 - r12) (v3 + 1)) σ8 v3 i1))) σ5 (σ5 (33 + i1) 8) v3))) σ
set_option maxHeartbeats 4000000 in
set_option maxRecDepth 100000 in
theorem l_X11_gain_28 {p : Program} {l : Launch} {e : Env} {s : State} {m : MethodId} {args : Array Value} {below : List Frame} {meth : Method} {c : Code} {D : va_G} {cy : Nat → ClassId} {lay : Nat → Nat} {Γ : RG} {post : Int32 → MS → Prop} (i1 : Nat) (hC : CallFix p m c cX11_gain 4 s args wsX11_gain RX11) (hr : meth.sig.returnType = some .int) (hlocks : meth.locks = false) (hT : rT D cy lay Γ s) (hi1 : i1 < 14 ∧ i1 < Γ.2.2.1) : ∀ (n : Nat), ∀ (σ : MS) (v2 : Int32) (v3 : Int32), u_X11_gain_28 Γ post i1 n σ v2 v3 → ∀ (H : Heap) (locs : List Loc) (ls : Array Slot), rG D cy lay Γ tn σ (rA cy lay Γ s.heap.size) s.heap H locs → lv_has ls 4 [(0, .ref (lay 0)), (1, .ref (lay (33 + i1))), (2, .int v2), (3, .int v3)] → W p l e rm_X11_gain s m args below meth c H locs 0 0 (MQ below (va_Qi post (rO D cy lay Γ) (rA cy lay Γ s.heap.size)) args s 0 0 (rA cy lay Γ s.heap.size)) (F0 m 28 ls []) := by
  intro n
  induction n with
  | zero =>
    intro σ v2 v3 h
    exact h.elim
  | succ n ih =>
    intro σ v2 v3 h H locs ls G hl
    rw [u_X11_gain_28] at h
    refine lv_iload_n hC.1 hC.2.1 dX11_gain_28 rfl (lv_at hl 3 rfl) ?_
    refine lv_aload_n hC.1 hC.2.1 dX11_gain_29 rfl (lv_at hl 0 rfl) ?_
    refine rg_get hC hT G (by decide) r_mo k_X11 i_X11_gain_X11 3 (by decide) (wm 1 rfl) rfl dX11_gain_30 ?_
    refine rg_i G (rg_runV (As := []) (rest := [.int v3]) hC hT G (c_lp_Jx4a65c_size_8abf5 l D cy lay Γ h _) (cwV 0 hC.2.2.2.2 gX11_gain_Jx4a65c_size_8abf5 rfl rfl rfl hdV_Jx4a65c_size_8abf5 ⟨Nat.le_of_ble_eq_true rfl, Nat.le_of_ble_eq_true rfl⟩) (rg_recv hT G (by decide) r_lp k_AL) rfl hl.1 rfl (Nat.le_of_ble_eq_true rfl) dX11_gain_33 ⟨Nat.le_of_ble_eq_true rfl, Nat.le_of_ble_eq_true rfl⟩) (fun r6 σ5 H locs h G => ?_)
    (try dsimp only at h)
    refine lv_icmp_ge (tgt := 69) hC.1 hC.2.1 dX11_gain_36 (by decide) (fun c7 => ?_) (fun c7 => ?_)
    · replace h := h.1 c7
      refine lv_iload_n hC.1 hC.2.1 dX11_gain_69 rfl (lv_at hl 2 rfl) ?_
      exact rg_iret hC hr hlocks G h dX11_gain_70
    · replace h := h.2 c7
      refine lv_iload_n hC.1 hC.2.1 dX11_gain_39 rfl (lv_at hl 2 rfl) ?_
      refine lv_aload_n hC.1 hC.2.1 dX11_gain_40 rfl (lv_at hl 1 rfl) ?_
      refine rg_getN hC hT G (rk_wd hi1) (r_wd hi1) k_X10 i_X11_gain_X10 8 (by decide) 18 rfl rfl dX11_gain_41 ?_
      refine lv_iload_n hC.1 hC.2.1 dX11_gain_44 rfl (lv_at hl 3 rfl) ?_
      refine rg_i G (rg_runS (As := [.int (σ5 (33 + i1) 8), .int v3]) (rest := [.int v2]) hC hT G (c_X11_isIn l D cy lay Γ h _) (va_cwS 2 hC.2.2.2.2 gX11_gain_X11_isIn rfl rfl rfl hdS_X11_isIn ⟨Nat.le_of_ble_eq_true rfl, Nat.le_of_ble_eq_true rfl⟩) rfl hl.1 rfl (Nat.le_of_ble_eq_true rfl) dX11_gain_45 ⟨Nat.le_of_ble_eq_true rfl, Nat.le_of_ble_eq_true rfl⟩) (fun r9 σ8 H locs h G => ?_)
      (try dsimp only at h)
      refine lv_if_eq (tgt := 60) hC.1 hC.2.1 dX11_gain_48 (by decide) (fun c10 => ?_) (fun c10 => ?_)
      · replace h := h.1 c10
        refine lv_iconst (v := 0) hC.1 hC.2.1 dX11_gain_60 (by decide) ?_
        refine lv_isub hC.1 hC.2.1 dX11_gain_61 ?_
        refine lv_istore_n (lv' := [(2, .int (v2 - 0)), (0, .ref (lay 0)), (1, .ref (lay (33 + i1))), (3, .int v3)]) hC.1 hC.2.1 dX11_gain_62 rfl hl (by decide) rfl (fun ls hl => ?_)
        refine lv_iinc (v := v3 + 1) (lv' := [(3, .int (v3 + 1)), (2, .int (v2 - 0)), (0, .ref (lay 0)), (1, .ref (lay (33 + i1)))]) hC.1 hC.2.1 dX11_gain_63 hl (k := 3) rfl rfl (by decide) rfl (fun ls hl => ?_)
        refine lv_goto (tgt := 28) hC.1 hC.2.1 dX11_gain_66 (by decide) ?_
        exact ih _ _ _ h _ _ _ G (lv_sub hl [2, 3, 1, 0] rfl)
      · replace h := h.2 c10
        refine lv_aload_n hC.1 hC.2.1 dX11_gain_51 rfl (lv_at hl 0 rfl) ?_
        refine lv_iload_n hC.1 hC.2.1 dX11_gain_52 rfl (lv_at hl 3 rfl) ?_
        refine lv_aload_n hC.1 hC.2.1 dX11_gain_53 rfl (lv_at hl 1 rfl) ?_
        refine rg_i G (rg_runV (As := [.int v3, .ref (lay (33 + i1))]) (rest := [.int v2]) hC hT G (c_X11_earnedAt l D cy lay Γ h hi1 _) (cwV 2 hC.2.2.2.2 gX11_gain_X11_earnedAt rfl rfl rfl hdV_X11_earnedAt ⟨Nat.le_of_ble_eq_true rfl, Nat.le_of_ble_eq_true rfl⟩) (rg_recv hT G (by decide) r_mo k_X11) rfl hl.1 rfl (Nat.le_of_ble_eq_true rfl) dX11_gain_54 ⟨Nat.le_of_ble_eq_true rfl, Nat.le_of_ble_eq_true rfl⟩) (fun r12 σ11 H locs h G => ?_)
        (try dsimp only at h)
        refine lv_goto (tgt := 61) hC.1 hC.2.1 dX11_gain_57 (by decide) ?_
        refine lv_isub hC.1 hC.2.1 dX11_gain_61 ?_
        refine lv_istore_n (lv' := [(2, .int (v2 - r12)), (0, .ref (lay 0)), (1, .ref (lay (33 + i1))), (3, .int v3)]) hC.1 hC.2.1 dX11_gain_62 rfl hl (by decide) rfl (fun ls hl => ?_)
        refine lv_iinc (v := v3 + 1) (lv' := [(3, .int (v3 + 1)), (2, .int (v2 - r12)), (0, .ref (lay 0)), (1, .ref (lay (33 + i1)))]) hC.1 hC.2.1 dX11_gain_63 hl (k := 3) rfl rfl (by decide) rfl (fun ls hl => ?_)
        refine lv_goto (tgt := 28) hC.1 hC.2.1 dX11_gain_66 (by decide) ?_
        exact ih _ _ _ h _ _ _ G (lv_sub hl [2, 3, 1, 0] rfl)
def w_X11_gain (Γ : RG) (post : Int32 → MS → Prop) (σ : MS) (i1 : Nat) : Prop := w_X10_quarters Γ (fun r2 σ1 => w_X11_fees Γ (fun r4 σ3 => (∃ k, u_X11_gain_28 Γ post i1 k σ3 (((σ (33 + i1) 9) - (σ (33 + i1) 11)) + ((r2 * r4) / 4)) 0)) σ1 (σ1 (33 + i1) 8)) σ i1
set_option maxHeartbeats 4000000 in
set_option maxRecDepth 100000 in
theorem c_X11_gain (l : Launch) (D : va_G) (cy : Nat → ClassId) (lay : Nat → Nat) (Γ : RG) {σ : MS} {post : Int32 → MS → Prop} {i1 : Nat} (h : w_X11_gain Γ post σ i1) (hi1 : i1 < 14 ∧ i1 < Γ.2.2.1) (sz : Nat) : Met l yX11_gain wsX11_gain rm_X11_gain (va_Pc [.ref (lay 0), .ref (lay (33 + i1))] (rI D cy lay Γ σ sz)) (va_Qi post (rO D cy lay Γ) (rA cy lay Γ sz)) 0 0 (rA cy lay Γ sz) := by
  refine rg_ofW (cc := cX11_gain) (maxL := 4) (ret := some .int) (own := RX11) (Qc := fun sz => va_Qi post (rO D cy lay Γ) (rA cy lay Γ sz)) (by decide) rfl (Nat.le_of_ble_eq_true rfl) rfl ?_
  intro p e s m args below meth c ls hC hr hlocks hT G hl
  unfold w_X11_gain at h
  have hl : lv_has ls 4 [(0, .ref (lay 0)), (1, .ref (lay (33 + i1)))] := hl
  refine lv_aload_n hC.1 hC.2.1 dX11_gain_0 rfl (lv_at hl 1 rfl) ?_
  refine rg_getN hC hT G (rk_wd hi1) (r_wd hi1) k_X10 i_X11_gain_X10 9 (by decide) 19 rfl rfl dX11_gain_1 ?_
  refine lv_aload_n hC.1 hC.2.1 dX11_gain_4 rfl (lv_at hl 1 rfl) ?_
  refine rg_getN hC hT G (rk_wd hi1) (r_wd hi1) k_X10 i_X11_gain_X10 11 (by decide) 21 rfl rfl dX11_gain_5 ?_
  refine lv_isub hC.1 hC.2.1 dX11_gain_8 ?_
  refine lv_aload_n hC.1 hC.2.1 dX11_gain_9 rfl (lv_at hl 1 rfl) ?_
  refine rg_i G (rg_runV (As := []) (rest := [.int ((σ (33 + i1) 9) - (σ (33 + i1) 11))]) hC hT G (c_X10_quarters l D cy lay Γ h hi1 _) (cwV 0 hC.2.2.2.2 gX11_gain_X10_quarters rfl rfl rfl hdV_X10_quarters ⟨Nat.le_of_ble_eq_true rfl, Nat.le_of_ble_eq_true rfl⟩) (rg_recv hT G (rk_wd hi1) (r_wd hi1) k_X10) rfl hl.1 rfl (Nat.le_of_ble_eq_true rfl) dX11_gain_10 ⟨Nat.le_of_ble_eq_true rfl, Nat.le_of_ble_eq_true rfl⟩) (fun r2 σ1 H locs h G => ?_)
  (try dsimp only at h)
  refine lv_aload_n hC.1 hC.2.1 dX11_gain_13 rfl (lv_at hl 0 rfl) ?_
  refine lv_aload_n hC.1 hC.2.1 dX11_gain_14 rfl (lv_at hl 1 rfl) ?_
  refine rg_getN hC hT G (rk_wd hi1) (r_wd hi1) k_X10 i_X11_gain_X10 8 (by decide) 18 rfl rfl dX11_gain_15 ?_
  refine rg_i G (rg_runV (As := [.int (σ1 (33 + i1) 8)]) (rest := [.int r2, .int ((σ (33 + i1) 9) - (σ (33 + i1) 11))]) hC hT G (c_X11_fees l D cy lay Γ h _) (cwV 1 hC.2.2.2.2 gX11_gain_X11_fees rfl rfl rfl hdV_X11_fees ⟨Nat.le_of_ble_eq_true rfl, Nat.le_of_ble_eq_true rfl⟩) (rg_recv hT G (by decide) r_mo k_X11) rfl hl.1 rfl (Nat.le_of_ble_eq_true rfl) dX11_gain_18 ⟨Nat.le_of_ble_eq_true rfl, Nat.le_of_ble_eq_true rfl⟩) (fun r4 σ3 H locs h G => ?_)
  (try dsimp only at h)
  refine lv_imul hC.1 hC.2.1 dX11_gain_21 ?_
  refine lv_iconst (v := 4) hC.1 hC.2.1 dX11_gain_22 (by decide) ?_
  refine lv_idiv hC.1 hC.2.1 dX11_gain_23 (by decide) ?_
  refine lv_iadd hC.1 hC.2.1 dX11_gain_24 ?_
  refine lv_istore_n (lv' := [(2, .int (((σ (33 + i1) 9) - (σ (33 + i1) 11)) + ((r2 * r4) / 4))), (0, .ref (lay 0)), (1, .ref (lay (33 + i1)))]) hC.1 hC.2.1 dX11_gain_25 rfl hl (by decide) rfl (fun ls hl => ?_)
  refine lv_iconst (v := 0) hC.1 hC.2.1 dX11_gain_26 (by decide) ?_
  refine lv_istore_n (lv' := [(3, .int 0), (2, .int (((σ (33 + i1) 9) - (σ (33 + i1) 11)) + ((r2 * r4) / 4))), (0, .ref (lay 0)), (1, .ref (lay (33 + i1)))]) hC.1 hC.2.1 dX11_gain_27 rfl hl (by decide) rfl (fun ls hl => ?_)
  obtain ⟨n1, h⟩ := h
  exact l_X11_gain_28 i1 hC hr hlocks hT hi1 n1 _ _ _ h _ _ _ G (lv_sub hl [2, 3, 1, 0] rfl)
theorem hdV_X11_gain : yX11_gain.cls = RX11 ∧ yX11_gain.cls ≠ "java/lang/invoke/MethodHandle" ∧ yX11_gain.cls ≠ "java/lang/invoke/VarHandle" ∧ (parseMethodDescriptor yX11_gain.desc).map (fun d => d.parameters.length) = some 1 := by decide +kernel
abbrev rm_X11_isBehind : Room := { frames := 1, cells := 0, slots := 0, locals := 13 }
theorem i_X11_isBehind_X11 : ∀ w ∈ wsX110, w ∈ wsX11_isBehind := fun _ h => List.mem_cons_of_mem _ (List.mem_append_right _ h)
def u_X11_isBehind_40 (Γ : RG) (post : Int32 → MS → Prop) (a1 : Int32) (a2 : Int32) (σ : MS) (t0 : Int32) : Prop := (vp_in a1 16 ∧ (vp_in a2 16 ∧ ((t0 = 0 → post 0 σ) ∧ (¬ t0 = 0 → (∀ y7 : Int32, y7 = (if 0 ≤ ((σ 7 (Int32.toNatClampNeg a1)) - (σ 7 (Int32.toNatClampNeg a2))) then ((σ 7 (Int32.toNatClampNeg a1)) - (σ 7 (Int32.toNatClampNeg a2))) else 0 - ((σ 7 (Int32.toNatClampNeg a1)) - (σ 7 (Int32.toNatClampNeg a2)))) → (∀ y8 : Int32, y8 = (if 0 ≤ ((σ 7 (Int32.toNatClampNeg a1)) - (σ 7 (Int32.toNatClampNeg a2))) then ((σ 7 (Int32.toNatClampNeg a1)) - (σ 7 (Int32.toNatClampNeg a2))) else 0 - ((σ 7 (Int32.toNatClampNeg a1)) - (σ 7 (Int32.toNatClampNeg a2)))) → ((2 < (if (12 - y8) < y7 then (12 - y8) else y7) → post 0 σ) ∧ (¬ 2 < (if (12 - y8) < y7 then (12 - y8) else y7) → post 1 σ))))))))
set_option maxHeartbeats 4000000 in
set_option maxRecDepth 100000 in
theorem l_X11_isBehind_40 {p : Program} {l : Launch} {e : Env} {s : State} {m : MethodId} {args : Array Value} {below : List Frame} {meth : Method} {c : Code} {D : va_G} {cy : Nat → ClassId} {lay : Nat → Nat} {Γ : RG} {post : Int32 → MS → Prop} (a1 : Int32) (a2 : Int32) (hC : CallFix p m c cX11_isBehind 5 s args wsX11_isBehind RX11) (hr : meth.sig.returnType = some .boolean) (hlocks : meth.locks = false) (hT : rT D cy lay Γ s) : ∀ (σ : MS) (t0 : Int32), u_X11_isBehind_40 Γ post a1 a2 σ t0 → ∀ (H : Heap) (locs : List Loc) (ls : Array Slot), rG D cy lay Γ tn σ (rA cy lay Γ s.heap.size) s.heap H locs → lv_has ls 5 [(0, .ref (lay 0)), (1, .int a1), (2, .int a2)] → W p l e rm_X11_isBehind s m args below meth c H locs 0 0 (MQ below (va_Qi post (rO D cy lay Γ) (rA cy lay Γ s.heap.size)) args s 0 0 (rA cy lay Γ s.heap.size)) (F0 m 40 ls [.int t0]) := by
  intro σ t0 h H locs ls G hl
  unfold u_X11_isBehind_40 at h
  refine lv_istore_n (lv' := [(3, .int t0), (0, .ref (lay 0)), (1, .int a1), (2, .int a2)]) hC.1 hC.2.1 dX11_isBehind_40 rfl hl (by decide) rfl (fun ls hl => ?_)
  refine lv_aload_n hC.1 hC.2.1 dX11_isBehind_41 rfl (lv_at hl 1 rfl) ?_
  refine rg_get hC hT G (by decide) r_mo k_X11 i_X11_isBehind_X11 6 (by decide) (wm 2 rfl) rfl dX11_isBehind_42 ?_
  refine lv_iload_n hC.1 hC.2.1 dX11_isBehind_45 rfl (lv_at hl 2 rfl) ?_
  obtain ⟨hn4, h⟩ := h
  refine rg_iald hC hT G (by decide) r_ky hn4 dX11_isBehind_46 ?_
  refine lv_aload_n hC.1 hC.2.1 dX11_isBehind_47 rfl (lv_at hl 1 rfl) ?_
  refine rg_get hC hT G (by decide) r_mo k_X11 i_X11_isBehind_X11 6 (by decide) (wm 2 rfl) rfl dX11_isBehind_48 ?_
  refine lv_iload_n hC.1 hC.2.1 dX11_isBehind_51 rfl (lv_at hl 3 rfl) ?_
  obtain ⟨hn5, h⟩ := h
  refine rg_iald hC hT G (by decide) r_ky hn5 dX11_isBehind_52 ?_
  refine lv_isub hC.1 hC.2.1 dX11_isBehind_53 ?_
  refine va_mabs hC.1 hC.2.1 (hC.2.2.1.trans hl.1.symm) hC.2.2.2.1 (hC.2.2.2.2 _ (wm 3 rfl)) (hC.2.2.2.2 _ (wm 4 rfl)) (hC.2.2.2.2 _ (wm 5 rfl)) (hC.2.2.2.2 _ (wm 6 rfl)) (Nat.le_of_ble_eq_true rfl) (Nat.le_of_ble_eq_true rfl) (Nat.le_of_ble_eq_true rfl) (Nat.le_of_ble_eq_true rfl) dX11_isBehind_54 ?_
  refine lv_istore (lv' := [(4, .int (if 0 ≤ ((σ 7 (Int32.toNatClampNeg a1)) - (σ 7 (Int32.toNatClampNeg a2))) then ((σ 7 (Int32.toNatClampNeg a1)) - (σ 7 (Int32.toNatClampNeg a2))) else 0 - ((σ 7 (Int32.toNatClampNeg a1)) - (σ 7 (Int32.toNatClampNeg a2))))), (3, .int t0), (0, .ref (lay 0)), (1, .int a1), (2, .int a2)]) hC.1 hC.2.1 dX11_isBehind_57 hl (by decide) rfl (fun ls hl => ?_)
  refine lv_iload_n hC.1 hC.2.1 dX11_isBehind_59 rfl (lv_at hl 1 rfl) ?_
  refine lv_if_eq (tgt := 81) hC.1 hC.2.1 dX11_isBehind_60 (by decide) (fun c6 => ?_) (fun c6 => ?_)
  · replace h := h.1 c6
    refine lv_iconst (v := 0) hC.1 hC.2.1 dX11_isBehind_81 (by decide) ?_
    exact rg_zret hC hr hlocks G rfl h dX11_isBehind_82
  · replace h := h.2 c6
    refine lv_iload hC.1 hC.2.1 dX11_isBehind_63 (lv_at hl 0 rfl) ?_
    refine lv_topi (fun y7 ey7 => ?_)
    replace h := h y7 ey7
    refine lv_bipush (v := 12) hC.1 hC.2.1 dX11_isBehind_65 (by decide) ?_
    refine lv_iload hC.1 hC.2.1 dX11_isBehind_67 (lv_at hl 0 rfl) ?_
    refine lv_topi (fun y8 ey8 => ?_)
    replace h := h y8 ey8
    refine lv_isub hC.1 hC.2.1 dX11_isBehind_69 ?_
    refine va_mmin hC.1 hC.2.1 (hC.2.2.1.trans hl.1.symm) hC.2.2.2.1 (hC.2.2.2.2 _ (wm 7 rfl)) (hC.2.2.2.2 _ (wm 8 rfl)) (hC.2.2.2.2 _ (wm 5 rfl)) (hC.2.2.2.2 _ (wm 9 rfl)) (Nat.le_of_ble_eq_true rfl) (Nat.le_of_ble_eq_true rfl) (Nat.le_of_ble_eq_true rfl) (Nat.le_of_ble_eq_true rfl) dX11_isBehind_70 ?_
    refine lv_iconst (v := 2) hC.1 hC.2.1 dX11_isBehind_73 (by decide) ?_
    refine lv_icmp_gt (tgt := 81) hC.1 hC.2.1 dX11_isBehind_74 (by decide) (fun c9 => ?_) (fun c9 => ?_)
    · replace h := h.1 c9
      refine lv_iconst (v := 0) hC.1 hC.2.1 dX11_isBehind_81 (by decide) ?_
      exact rg_zret hC hr hlocks G rfl h dX11_isBehind_82
    · replace h := h.2 c9
      refine lv_iconst (v := 1) hC.1 hC.2.1 dX11_isBehind_77 (by decide) ?_
      refine lv_goto (tgt := 82) hC.1 hC.2.1 dX11_isBehind_78 (by decide) ?_
      exact rg_zret hC hr hlocks G rfl h dX11_isBehind_82
def u_X11_isBehind_35 (Γ : RG) (post : Int32 → MS → Prop) (a1 : Int32) (a2 : Int32) (σ : MS) : Prop := u_X11_isBehind_40 Γ post a1 a2 σ 1
set_option maxHeartbeats 4000000 in
set_option maxRecDepth 100000 in
theorem l_X11_isBehind_35 {p : Program} {l : Launch} {e : Env} {s : State} {m : MethodId} {args : Array Value} {below : List Frame} {meth : Method} {c : Code} {D : va_G} {cy : Nat → ClassId} {lay : Nat → Nat} {Γ : RG} {post : Int32 → MS → Prop} (a1 : Int32) (a2 : Int32) (hC : CallFix p m c cX11_isBehind 5 s args wsX11_isBehind RX11) (hr : meth.sig.returnType = some .boolean) (hlocks : meth.locks = false) (hT : rT D cy lay Γ s) : ∀ (σ : MS), u_X11_isBehind_35 Γ post a1 a2 σ → ∀ (H : Heap) (locs : List Loc) (ls : Array Slot), rG D cy lay Γ tn σ (rA cy lay Γ s.heap.size) s.heap H locs → lv_has ls 5 [(0, .ref (lay 0)), (1, .int a1), (2, .int a2)] → W p l e rm_X11_isBehind s m args below meth c H locs 0 0 (MQ below (va_Qi post (rO D cy lay Γ) (rA cy lay Γ s.heap.size)) args s 0 0 (rA cy lay Γ s.heap.size)) (F0 m 35 ls []) := by
  intro σ h H locs ls G hl
  unfold u_X11_isBehind_35 at h
  refine lv_iconst (v := 1) hC.1 hC.2.1 dX11_isBehind_35 (by decide) ?_
  refine lv_goto (tgt := 40) hC.1 hC.2.1 dX11_isBehind_36 (by decide) ?_
  exact l_X11_isBehind_40 a1 a2 hC hr hlocks hT _ _ h _ _ _ G (lv_sub hl [0, 1, 2] rfl)
def u_X11_isBehind_39 (Γ : RG) (post : Int32 → MS → Prop) (a1 : Int32) (a2 : Int32) (σ : MS) : Prop := u_X11_isBehind_40 Γ post a1 a2 σ 0
set_option maxHeartbeats 4000000 in
set_option maxRecDepth 100000 in
theorem l_X11_isBehind_39 {p : Program} {l : Launch} {e : Env} {s : State} {m : MethodId} {args : Array Value} {below : List Frame} {meth : Method} {c : Code} {D : va_G} {cy : Nat → ClassId} {lay : Nat → Nat} {Γ : RG} {post : Int32 → MS → Prop} (a1 : Int32) (a2 : Int32) (hC : CallFix p m c cX11_isBehind 5 s args wsX11_isBehind RX11) (hr : meth.sig.returnType = some .boolean) (hlocks : meth.locks = false) (hT : rT D cy lay Γ s) : ∀ (σ : MS), u_X11_isBehind_39 Γ post a1 a2 σ → ∀ (H : Heap) (locs : List Loc) (ls : Array Slot), rG D cy lay Γ tn σ (rA cy lay Γ s.heap.size) s.heap H locs → lv_has ls 5 [(0, .ref (lay 0)), (1, .int a1), (2, .int a2)] → W p l e rm_X11_isBehind s m args below meth c H locs 0 0 (MQ below (va_Qi post (rO D cy lay Γ) (rA cy lay Γ s.heap.size)) args s 0 0 (rA cy lay Γ s.heap.size)) (F0 m 39 ls []) := by
  intro σ h H locs ls G hl
  unfold u_X11_isBehind_39 at h
  refine lv_iconst (v := 0) hC.1 hC.2.1 dX11_isBehind_39 (by decide) ?_
  exact l_X11_isBehind_40 a1 a2 hC hr hlocks hT _ _ h _ _ _ G (lv_sub hl [0, 1, 2] rfl)
def w_X11_isBehind (Γ : RG) (post : Int32 → MS → Prop) (σ : MS) (a1 : Int32) (a2 : Int32) : Prop := (vp_in a2 16 ∧ (vp_in a1 16 ∧ (((σ 8 (Int32.toNatClampNeg a1)) < (σ 8 (Int32.toNatClampNeg a2)) → u_X11_isBehind_35 Γ post a1 a2 σ) ∧ (¬ (σ 8 (Int32.toNatClampNeg a1)) < (σ 8 (Int32.toNatClampNeg a2)) → (vp_in a2 16 ∧ (vp_in a1 16 ∧ (((σ 8 (Int32.toNatClampNeg a2)) = (σ 8 (Int32.toNatClampNeg a1)) → ((a2 ≤ a1 → u_X11_isBehind_39 Γ post a1 a2 σ) ∧ (¬ a2 ≤ a1 → u_X11_isBehind_35 Γ post a1 a2 σ))) ∧ (¬ (σ 8 (Int32.toNatClampNeg a2)) = (σ 8 (Int32.toNatClampNeg a1)) → u_X11_isBehind_39 Γ post a1 a2 σ))))))))
set_option maxHeartbeats 4000000 in
set_option maxRecDepth 100000 in
theorem c_X11_isBehind (l : Launch) (D : va_G) (cy : Nat → ClassId) (lay : Nat → Nat) (Γ : RG) {σ : MS} {post : Int32 → MS → Prop} {a1 : Int32} {a2 : Int32} (h : w_X11_isBehind Γ post σ a1 a2) (sz : Nat) : Met l yX11_isBehind wsX11_isBehind rm_X11_isBehind (va_Pc [.ref (lay 0), .int a1, .int a2] (rI D cy lay Γ σ sz)) (va_Qi post (rO D cy lay Γ) (rA cy lay Γ sz)) 0 0 (rA cy lay Γ sz) := by
  refine rg_ofW (cc := cX11_isBehind) (maxL := 5) (ret := some .boolean) (own := RX11) (Qc := fun sz => va_Qi post (rO D cy lay Γ) (rA cy lay Γ sz)) (by decide) rfl (Nat.le_of_ble_eq_true rfl) rfl ?_
  intro p e s m args below meth c ls hC hr hlocks hT G hl
  unfold w_X11_isBehind at h
  have hl : lv_has ls 5 [(0, .ref (lay 0)), (1, .int a1), (2, .int a2)] := hl
  refine lv_aload_n hC.1 hC.2.1 dX11_isBehind_0 rfl (lv_at hl 0 rfl) ?_
  refine rg_get hC hT G (by decide) r_mo k_X11 i_X11_isBehind_X11 7 (by decide) (wm 1 rfl) rfl dX11_isBehind_1 ?_
  refine lv_iload_n hC.1 hC.2.1 dX11_isBehind_4 rfl (lv_at hl 2 rfl) ?_
  obtain ⟨hn1, h⟩ := h
  refine rg_iald hC hT G (by decide) r_en hn1 dX11_isBehind_5 ?_
  refine lv_aload_n hC.1 hC.2.1 dX11_isBehind_6 rfl (lv_at hl 0 rfl) ?_
  refine rg_get hC hT G (by decide) r_mo k_X11 i_X11_isBehind_X11 7 (by decide) (wm 1 rfl) rfl dX11_isBehind_7 ?_
  refine lv_iload_n hC.1 hC.2.1 dX11_isBehind_10 rfl (lv_at hl 1 rfl) ?_
  obtain ⟨hn2, h⟩ := h
  refine rg_iald hC hT G (by decide) r_en hn2 dX11_isBehind_11 ?_
  refine lv_icmp_gt (tgt := 35) hC.1 hC.2.1 dX11_isBehind_12 (by decide) (fun c3 => ?_) (fun c3 => ?_)
  · replace h := h.1 c3
    exact l_X11_isBehind_35 a1 a2 hC hr hlocks hT _ h _ _ _ G (lv_sub hl [0, 1, 2] rfl)
  · replace h := h.2 c3
    refine lv_aload_n hC.1 hC.2.1 dX11_isBehind_15 rfl (lv_at hl 0 rfl) ?_
    refine rg_get hC hT G (by decide) r_mo k_X11 i_X11_isBehind_X11 7 (by decide) (wm 1 rfl) rfl dX11_isBehind_16 ?_
    refine lv_iload_n hC.1 hC.2.1 dX11_isBehind_19 rfl (lv_at hl 2 rfl) ?_
    obtain ⟨hn10, h⟩ := h
    refine rg_iald hC hT G (by decide) r_en hn10 dX11_isBehind_20 ?_
    refine lv_aload_n hC.1 hC.2.1 dX11_isBehind_21 rfl (lv_at hl 0 rfl) ?_
    refine rg_get hC hT G (by decide) r_mo k_X11 i_X11_isBehind_X11 7 (by decide) (wm 1 rfl) rfl dX11_isBehind_22 ?_
    refine lv_iload_n hC.1 hC.2.1 dX11_isBehind_25 rfl (lv_at hl 1 rfl) ?_
    obtain ⟨hn11, h⟩ := h
    refine rg_iald hC hT G (by decide) r_en hn11 dX11_isBehind_26 ?_
    refine lv_icmp_ne (tgt := 39) hC.1 hC.2.1 dX11_isBehind_27 (by decide) (fun c12 => ?_) (fun c12 => ?_)
    · replace h := h.2 c12
      exact l_X11_isBehind_39 a1 a2 hC hr hlocks hT _ h _ _ _ G (lv_sub hl [0, 1, 2] rfl)
    · replace h := h.1 c12
      refine lv_iload_n hC.1 hC.2.1 dX11_isBehind_30 rfl (lv_at hl 2 rfl) ?_
      refine lv_iload_n hC.1 hC.2.1 dX11_isBehind_31 rfl (lv_at hl 1 rfl) ?_
      refine lv_icmp_le (tgt := 39) hC.1 hC.2.1 dX11_isBehind_32 (by decide) (fun c13 => ?_) (fun c13 => ?_)
      · replace h := h.1 c13
        exact l_X11_isBehind_39 a1 a2 hC hr hlocks hT _ h _ _ _ G (lv_sub hl [0, 1, 2] rfl)
      · replace h := h.2 c13
        exact l_X11_isBehind_35 a1 a2 hC hr hlocks hT _ h _ _ _ G (lv_sub hl [0, 1, 2] rfl)
theorem hdV_X11_isBehind : yX11_isBehind.cls = RX11 ∧ yX11_isBehind.cls ≠ "java/lang/invoke/MethodHandle" ∧ yX11_isBehind.cls ≠ "java/lang/invoke/VarHandle" ∧ (parseMethodDescriptor yX11_isBehind.desc).map (fun d => d.parameters.length) = some 2 := by decide +kernel
abbrev rm_X11_share : Room := { frames := 0, cells := 0, slots := 0, locals := 0 }
theorem i_X11_share_X11 : ∀ w ∈ wsX110, w ∈ wsX11_share := fun _ h => List.mem_cons_of_mem _ (List.mem_append_right _ h)
def u_X11_share_4 (Γ : RG) (post : Int32 → MS → Prop) (a1 : Int32) : Nat → MS → Int32 → Int32 → Prop
  | 0, _, _, _ => False
  | n + 1, σ, v2, v3 => ((16 ≤ v3 → ((v2 = 0 → post 0 σ) ∧ (¬ v2 = 0 → (vp_in a1 16 ∧ (vp_in a1 16 ∧ (¬ v2 = 0 ∧ post (((1000 * (σ 9 (Int32.toNatClampNeg a1))) * (σ 10 (Int32.toNatClampNeg a1))) / v2) σ)))))) ∧ (¬ 16 ≤ v3 → (vp_in v3 16 ∧ (vp_in v3 16 ∧ u_X11_share_4 Γ post a1 n σ (v2 + ((σ 9 (Int32.toNatClampNeg v3)) * (σ 10 (Int32.toNatClampNeg v3)))) (v3 + 1)))))
set_option maxHeartbeats 4000000 in
set_option maxRecDepth 100000 in
theorem l_X11_share_4 {p : Program} {l : Launch} {e : Env} {s : State} {m : MethodId} {args : Array Value} {below : List Frame} {meth : Method} {c : Code} {D : va_G} {cy : Nat → ClassId} {lay : Nat → Nat} {Γ : RG} {post : Int32 → MS → Prop} (a1 : Int32) (hC : CallFix p m c cX11_share 4 s args wsX11_share RX11) (hr : meth.sig.returnType = some .int) (hlocks : meth.locks = false) (hT : rT D cy lay Γ s) : ∀ (n : Nat), ∀ (σ : MS) (v2 : Int32) (v3 : Int32), u_X11_share_4 Γ post a1 n σ v2 v3 → ∀ (H : Heap) (locs : List Loc) (ls : Array Slot), rG D cy lay Γ tn σ (rA cy lay Γ s.heap.size) s.heap H locs → lv_has ls 4 [(0, .ref (lay 0)), (1, .int a1), (2, .int v2), (3, .int v3)] → W p l e rm_X11_share s m args below meth c H locs 0 0 (MQ below (va_Qi post (rO D cy lay Γ) (rA cy lay Γ s.heap.size)) args s 0 0 (rA cy lay Γ s.heap.size)) (F0 m 4 ls []) := by
  intro n
  induction n with
  | zero =>
    intro σ v2 v3 h
    exact h.elim
  | succ n ih =>
    intro σ v2 v3 h H locs ls G hl
    rw [u_X11_share_4] at h
    refine lv_iload_n hC.1 hC.2.1 dX11_share_4 rfl (lv_at hl 3 rfl) ?_
    refine lv_bipush (v := 16) hC.1 hC.2.1 dX11_share_5 (by decide) ?_
    refine lv_icmp_ge (tgt := 32) hC.1 hC.2.1 dX11_share_7 (by decide) (fun c1 => ?_) (fun c1 => ?_)
    · replace h := h.1 c1
      refine lv_iload_n hC.1 hC.2.1 dX11_share_32 rfl (lv_at hl 2 rfl) ?_
      refine lv_if_ne (tgt := 40) hC.1 hC.2.1 dX11_share_33 (by decide) (fun c2 => ?_) (fun c2 => ?_)
      · replace h := h.2 c2
        refine lv_sipush (v := 1000) hC.1 hC.2.1 dX11_share_40 (by decide) ?_
        refine lv_aload_n hC.1 hC.2.1 dX11_share_43 rfl (lv_at hl 0 rfl) ?_
        refine rg_get hC hT G (by decide) r_mo k_X11 i_X11_share_X11 8 (by decide) (wm 1 rfl) rfl dX11_share_44 ?_
        refine lv_iload_n hC.1 hC.2.1 dX11_share_47 rfl (lv_at hl 1 rfl) ?_
        obtain ⟨hn3, h⟩ := h
        refine rg_iald hC hT G (by decide) r_mi hn3 dX11_share_48 ?_
        refine lv_imul hC.1 hC.2.1 dX11_share_49 ?_
        refine lv_aload_n hC.1 hC.2.1 dX11_share_50 rfl (lv_at hl 0 rfl) ?_
        refine rg_get hC hT G (by decide) r_mo k_X11 i_X11_share_X11 9 (by decide) (wm 2 rfl) rfl dX11_share_51 ?_
        refine lv_iload_n hC.1 hC.2.1 dX11_share_54 rfl (lv_at hl 1 rfl) ?_
        obtain ⟨hn4, h⟩ := h
        refine rg_iald hC hT G (by decide) r_py hn4 dX11_share_55 ?_
        refine lv_imul hC.1 hC.2.1 dX11_share_56 ?_
        refine lv_iload_n hC.1 hC.2.1 dX11_share_57 rfl (lv_at hl 2 rfl) ?_
        obtain ⟨hz5, h⟩ := h
        refine lv_idiv hC.1 hC.2.1 dX11_share_58 hz5 ?_
        exact rg_iret hC hr hlocks G h dX11_share_59
      · replace h := h.1 c2
        refine lv_iconst (v := 0) hC.1 hC.2.1 dX11_share_36 (by decide) ?_
        refine lv_goto (tgt := 59) hC.1 hC.2.1 dX11_share_37 (by decide) ?_
        exact rg_iret hC hr hlocks G h dX11_share_59
    · replace h := h.2 c1
      refine lv_iload_n hC.1 hC.2.1 dX11_share_10 rfl (lv_at hl 2 rfl) ?_
      refine lv_aload_n hC.1 hC.2.1 dX11_share_11 rfl (lv_at hl 0 rfl) ?_
      refine rg_get hC hT G (by decide) r_mo k_X11 i_X11_share_X11 8 (by decide) (wm 1 rfl) rfl dX11_share_12 ?_
      refine lv_iload_n hC.1 hC.2.1 dX11_share_15 rfl (lv_at hl 3 rfl) ?_
      obtain ⟨hn6, h⟩ := h
      refine rg_iald hC hT G (by decide) r_mi hn6 dX11_share_16 ?_
      refine lv_aload_n hC.1 hC.2.1 dX11_share_17 rfl (lv_at hl 0 rfl) ?_
      refine rg_get hC hT G (by decide) r_mo k_X11 i_X11_share_X11 9 (by decide) (wm 2 rfl) rfl dX11_share_18 ?_
      refine lv_iload_n hC.1 hC.2.1 dX11_share_21 rfl (lv_at hl 3 rfl) ?_
      obtain ⟨hn7, h⟩ := h
      refine rg_iald hC hT G (by decide) r_py hn7 dX11_share_22 ?_
      refine lv_imul hC.1 hC.2.1 dX11_share_23 ?_
      refine lv_iadd hC.1 hC.2.1 dX11_share_24 ?_
      refine lv_istore_n (lv' := [(2, .int (v2 + ((σ 9 (Int32.toNatClampNeg v3)) * (σ 10 (Int32.toNatClampNeg v3))))), (0, .ref (lay 0)), (1, .int a1), (3, .int v3)]) hC.1 hC.2.1 dX11_share_25 rfl hl (by decide) rfl (fun ls hl => ?_)
      refine lv_iinc (v := v3 + 1) (lv' := [(3, .int (v3 + 1)), (2, .int (v2 + ((σ 9 (Int32.toNatClampNeg v3)) * (σ 10 (Int32.toNatClampNeg v3))))), (0, .ref (lay 0)), (1, .int a1)]) hC.1 hC.2.1 dX11_share_26 hl (k := 3) rfl rfl (by decide) rfl (fun ls hl => ?_)
      refine lv_goto (tgt := 4) hC.1 hC.2.1 dX11_share_29 (by decide) ?_
      exact ih _ _ _ h _ _ _ G (lv_sub hl [2, 3, 1, 0] rfl)
def w_X11_share (Γ : RG) (post : Int32 → MS → Prop) (σ : MS) (a1 : Int32) : Prop := (∃ k, u_X11_share_4 Γ post a1 k σ 0 0)
set_option maxHeartbeats 4000000 in
set_option maxRecDepth 100000 in
theorem c_X11_share (l : Launch) (D : va_G) (cy : Nat → ClassId) (lay : Nat → Nat) (Γ : RG) {σ : MS} {post : Int32 → MS → Prop} {a1 : Int32} (h : w_X11_share Γ post σ a1) (sz : Nat) : Met l yX11_share wsX11_share rm_X11_share (va_Pc [.ref (lay 0), .int a1] (rI D cy lay Γ σ sz)) (va_Qi post (rO D cy lay Γ) (rA cy lay Γ sz)) 0 0 (rA cy lay Γ sz) := by
  refine rg_ofW (cc := cX11_share) (maxL := 4) (ret := some .int) (own := RX11) (Qc := fun sz => va_Qi post (rO D cy lay Γ) (rA cy lay Γ sz)) (by decide) rfl (Nat.le_of_ble_eq_true rfl) rfl ?_
  intro p e s m args below meth c ls hC hr hlocks hT G hl
  unfold w_X11_share at h
  have hl : lv_has ls 4 [(0, .ref (lay 0)), (1, .int a1)] := hl
  refine lv_iconst (v := 0) hC.1 hC.2.1 dX11_share_0 (by decide) ?_
  refine lv_istore_n (lv' := [(2, .int 0), (0, .ref (lay 0)), (1, .int a1)]) hC.1 hC.2.1 dX11_share_1 rfl hl (by decide) rfl (fun ls hl => ?_)
  refine lv_iconst (v := 0) hC.1 hC.2.1 dX11_share_2 (by decide) ?_
  refine lv_istore_n (lv' := [(3, .int 0), (2, .int 0), (0, .ref (lay 0)), (1, .int a1)]) hC.1 hC.2.1 dX11_share_3 rfl hl (by decide) rfl (fun ls hl => ?_)
  obtain ⟨n1, h⟩ := h
  exact l_X11_share_4 a1 hC hr hlocks hT n1 _ _ _ h _ _ _ G (lv_sub hl [2, 3, 1, 0] rfl)
theorem hdV_X11_share : yX11_share.cls = RX11 ∧ yX11_share.cls ≠ "java/lang/invoke/MethodHandle" ∧ yX11_share.cls ≠ "java/lang/invoke/VarHandle" ∧ (parseMethodDescriptor yX11_share.desc).map (fun d => d.parameters.length) = some 1 := by decide +kernel
abbrev rm_X11_ofSongNow : Room := { frames := 3, cells := 0, slots := 0, locals := 64 }
theorem i_X11_ofSongNow_X11 : ∀ w ∈ wsX110, w ∈ wsX11_ofSongNow := fun _ h => List.mem_cons_of_mem _ (List.mem_append_left _ (List.mem_append_left _ (List.mem_append_right _ h)))
theorem i_X11_ofSongNow_X9 : ∀ w ∈ wsX90, w ∈ wsX11_ofSongNow := fun _ h => List.mem_cons_of_mem _ (List.mem_append_left _ (List.mem_append_right _ h))
def u_X11_ofSongNow_5 (Γ : RG) (post : Int32 → MS → Prop) (a1 : Int32) (a2 : Int32) : Nat → MS → Int32 → Int32 → Prop
  | 0, _, _, _ => False
  | n + 1, σ, v3, v4 => w_lp_Jx4a65c_size_8abf5 Γ (fun r2 σ1 => ((r2 ≤ v4 → ((a2 = 0 → (vp_in a1 16 ∧ post (σ1 7 (Int32.toNatClampNeg a1)) σ1)) ∧ (¬ a2 = 0 → ((a2 = 1 → (vp_in a1 16 ∧ post (σ1 8 (Int32.toNatClampNeg a1)) σ1)) ∧ (¬ a2 = 1 → ((a2 = 2 → (vp_in a1 16 ∧ post (σ1 9 (Int32.toNatClampNeg a1)) σ1)) ∧ (¬ a2 = 2 → ((a2 = 3 → (vp_in a1 16 ∧ post (σ1 10 (Int32.toNatClampNeg a1)) σ1)) ∧ (¬ a2 = 3 → ((a2 = 4 → w_X11_share Γ (fun r13 σ12 => post r13 σ12) σ1 a1) ∧ (¬ a2 = 4 → post v3 σ1))))))))))) ∧ (¬ r2 ≤ v4 → w_lp_Jx4a65c_get_915e3 Γ (fun j16 σ15 => ((j16 < 10 ∧ j16 < Γ.1) ∧ w_X11_isIn Γ (fun r19 σ18 => ((r19 = 0 → u_X11_ofSongNow_5 Γ post a1 a2 n σ18 (v3 + 0) (v4 + 1)) ∧ (¬ r19 = 0 → u_X11_ofSongNow_5 Γ post a1 a2 n σ18 (v3 + 1) (v4 + 1)))) σ15 (σ15 (13 + j16) 1) a1)) σ1 v4))) σ
set_option maxHeartbeats 4000000 in
set_option maxRecDepth 100000 in
theorem l_X11_ofSongNow_5 {p : Program} {l : Launch} {e : Env} {s : State} {m : MethodId} {args : Array Value} {below : List Frame} {meth : Method} {c : Code} {D : va_G} {cy : Nat → ClassId} {lay : Nat → Nat} {Γ : RG} {post : Int32 → MS → Prop} (a1 : Int32) (a2 : Int32) (hC : CallFix p m c cX11_ofSongNow 5 s args wsX11_ofSongNow RX11) (hr : meth.sig.returnType = some .int) (hlocks : meth.locks = false) (hT : rT D cy lay Γ s) : ∀ (n : Nat), ∀ (σ : MS) (v3 : Int32) (v4 : Int32), u_X11_ofSongNow_5 Γ post a1 a2 n σ v3 v4 → ∀ (H : Heap) (locs : List Loc) (ls : Array Slot), rG D cy lay Γ tn σ (rA cy lay Γ s.heap.size) s.heap H locs → lv_has ls 5 [(0, .ref (lay 0)), (1, .int a1), (2, .int a2), (3, .int v3), (4, .int v4)] → W p l e rm_X11_ofSongNow s m args below meth c H locs 0 0 (MQ below (va_Qi post (rO D cy lay Γ) (rA cy lay Γ s.heap.size)) args s 0 0 (rA cy lay Γ s.heap.size)) (F0 m 5 ls []) := by
  intro n
  induction n with
  | zero =>
    intro σ v3 v4 h
    exact h.elim
  | succ n ih =>
    intro σ v3 v4 h H locs ls G hl
    rw [u_X11_ofSongNow_5] at h
    refine lv_iload hC.1 hC.2.1 dX11_ofSongNow_5 (lv_at hl 4 rfl) ?_
    refine lv_aload_n hC.1 hC.2.1 dX11_ofSongNow_7 rfl (lv_at hl 0 rfl) ?_
    refine rg_get hC hT G (by decide) r_mo k_X11 i_X11_ofSongNow_X11 3 (by decide) (wm 1 rfl) rfl dX11_ofSongNow_8 ?_
    refine rg_i G (rg_runV (As := []) (rest := [.int v4]) hC hT G (c_lp_Jx4a65c_size_8abf5 l D cy lay Γ h _) (cwV 0 hC.2.2.2.2 gX11_ofSongNow_Jx4a65c_size_8abf5 rfl rfl rfl hdV_Jx4a65c_size_8abf5 ⟨Nat.le_of_ble_eq_true rfl, Nat.le_of_ble_eq_true rfl⟩) (rg_recv hT G (by decide) r_lp k_AL) rfl hl.1 rfl (Nat.le_of_ble_eq_true rfl) dX11_ofSongNow_11 ⟨Nat.le_of_ble_eq_true rfl, Nat.le_of_ble_eq_true rfl⟩) (fun r2 σ1 H locs h G => ?_)
    (try dsimp only at h)
    refine lv_icmp_ge (tgt := 53) hC.1 hC.2.1 dX11_ofSongNow_14 (by decide) (fun c3 => ?_) (fun c3 => ?_)
    · replace h := h.1 c3
      refine lv_iload_n hC.1 hC.2.1 dX11_ofSongNow_53 rfl (lv_at hl 2 rfl) ?_
      rcases Decidable.em (a2 = 0) with c5 | c5
      · replace h := h.1 c5
        refine lv_tableIn (off := 34) (tgt := 88) hC.1 hC.2.1 dX11_ofSongNow_54 (by rw [c5]; decide) (by rw [c5]; decide) (by rw [c5]; rfl) (by decide) ?_
        refine lv_aload_n hC.1 hC.2.1 dX11_ofSongNow_88 rfl (lv_at hl 0 rfl) ?_
        refine rg_get hC hT G (by decide) r_mo k_X11 i_X11_ofSongNow_X11 6 (by decide) (wm 3 rfl) rfl dX11_ofSongNow_89 ?_
        refine lv_iload_n hC.1 hC.2.1 dX11_ofSongNow_92 rfl (lv_at hl 1 rfl) ?_
        obtain ⟨hn4, h⟩ := h
        refine rg_iald hC hT G (by decide) r_ky hn4 dX11_ofSongNow_93 ?_
        exact rg_iret hC hr hlocks G h dX11_ofSongNow_94
      · replace h := h.2 c5
        rcases Decidable.em (a2 = 1) with c7 | c7
        · replace h := h.1 c7
          refine lv_tableIn (off := 41) (tgt := 95) hC.1 hC.2.1 dX11_ofSongNow_54 (by rw [c7]; decide) (by rw [c7]; decide) (by rw [c7]; rfl) (by decide) ?_
          refine lv_aload_n hC.1 hC.2.1 dX11_ofSongNow_95 rfl (lv_at hl 0 rfl) ?_
          refine rg_get hC hT G (by decide) r_mo k_X11 i_X11_ofSongNow_X11 7 (by decide) (wm 4 rfl) rfl dX11_ofSongNow_96 ?_
          refine lv_iload_n hC.1 hC.2.1 dX11_ofSongNow_99 rfl (lv_at hl 1 rfl) ?_
          obtain ⟨hn6, h⟩ := h
          refine rg_iald hC hT G (by decide) r_en hn6 dX11_ofSongNow_100 ?_
          exact rg_iret hC hr hlocks G h dX11_ofSongNow_101
        · replace h := h.2 c7
          rcases Decidable.em (a2 = 2) with c9 | c9
          · replace h := h.1 c9
            refine lv_tableIn (off := 48) (tgt := 102) hC.1 hC.2.1 dX11_ofSongNow_54 (by rw [c9]; decide) (by rw [c9]; decide) (by rw [c9]; rfl) (by decide) ?_
            refine lv_aload_n hC.1 hC.2.1 dX11_ofSongNow_102 rfl (lv_at hl 0 rfl) ?_
            refine rg_get hC hT G (by decide) r_mo k_X11 i_X11_ofSongNow_X11 8 (by decide) (wm 5 rfl) rfl dX11_ofSongNow_103 ?_
            refine lv_iload_n hC.1 hC.2.1 dX11_ofSongNow_106 rfl (lv_at hl 1 rfl) ?_
            obtain ⟨hn8, h⟩ := h
            refine rg_iald hC hT G (by decide) r_mi hn8 dX11_ofSongNow_107 ?_
            exact rg_iret hC hr hlocks G h dX11_ofSongNow_108
          · replace h := h.2 c9
            rcases Decidable.em (a2 = 3) with c11 | c11
            · replace h := h.1 c11
              refine lv_tableIn (off := 55) (tgt := 109) hC.1 hC.2.1 dX11_ofSongNow_54 (by rw [c11]; decide) (by rw [c11]; decide) (by rw [c11]; rfl) (by decide) ?_
              refine lv_aload_n hC.1 hC.2.1 dX11_ofSongNow_109 rfl (lv_at hl 0 rfl) ?_
              refine rg_get hC hT G (by decide) r_mo k_X11 i_X11_ofSongNow_X11 9 (by decide) (wm 6 rfl) rfl dX11_ofSongNow_110 ?_
              refine lv_iload_n hC.1 hC.2.1 dX11_ofSongNow_113 rfl (lv_at hl 1 rfl) ?_
              obtain ⟨hn10, h⟩ := h
              refine rg_iald hC hT G (by decide) r_py hn10 dX11_ofSongNow_114 ?_
              exact rg_iret hC hr hlocks G h dX11_ofSongNow_115
            · replace h := h.2 c11
              rcases Decidable.em (a2 = 4) with c14 | c14
              · replace h := h.1 c14
                refine lv_tableIn (off := 62) (tgt := 116) hC.1 hC.2.1 dX11_ofSongNow_54 (by rw [c14]; decide) (by rw [c14]; decide) (by rw [c14]; rfl) (by decide) ?_
                refine lv_aload_n hC.1 hC.2.1 dX11_ofSongNow_116 rfl (lv_at hl 0 rfl) ?_
                refine lv_iload_n hC.1 hC.2.1 dX11_ofSongNow_117 rfl (lv_at hl 1 rfl) ?_
                refine rg_i G (rg_runV (As := [.int a1]) (rest := []) hC hT G (c_X11_share l D cy lay Γ h _) (cwV 1 hC.2.2.2.2 gX11_ofSongNow_X11_share rfl rfl rfl hdV_X11_share ⟨Nat.le_of_ble_eq_true rfl, Nat.le_of_ble_eq_true rfl⟩) (rg_recv hT G (by decide) r_mo k_X11) rfl hl.1 rfl (Nat.le_of_ble_eq_true rfl) dX11_ofSongNow_118 ⟨Nat.le_of_ble_eq_true rfl, Nat.le_of_ble_eq_true rfl⟩) (fun r13 σ12 H locs h G => ?_)
                (try dsimp only at h)
                exact rg_iret hC hr hlocks G h dX11_ofSongNow_121
              · replace h := h.2 c14
                refine lv_tableOut (tgt := 122) hC.1 hC.2.1 dX11_ofSongNow_54 (tsw_out 5 rfl (by decide) (fun k hk => by rcases (show k = 0 ∨ k = 1 ∨ k = 2 ∨ k = 3 ∨ k = 4 by omega) with rfl | rfl | rfl | rfl | rfl <;> assumption)) (by decide) ?_
                refine lv_iload_n hC.1 hC.2.1 dX11_ofSongNow_122 rfl (lv_at hl 3 rfl) ?_
                exact rg_iret hC hr hlocks G h dX11_ofSongNow_123
    · replace h := h.2 c3
      refine lv_iload_n hC.1 hC.2.1 dX11_ofSongNow_17 rfl (lv_at hl 3 rfl) ?_
      refine lv_aload_n hC.1 hC.2.1 dX11_ofSongNow_18 rfl (lv_at hl 0 rfl) ?_
      refine rg_get hC hT G (by decide) r_mo k_X11 i_X11_ofSongNow_X11 3 (by decide) (wm 1 rfl) rfl dX11_ofSongNow_19 ?_
      refine lv_iload hC.1 hC.2.1 dX11_ofSongNow_22 (lv_at hl 4 rfl) ?_
      refine rg_r (f := fun i => lay (13 + i)) G (rg_runV (As := [.int v4]) (rest := [.int v3]) hC hT G (c_lp_Jx4a65c_get_915e3 l D cy lay Γ h _) (cwV 1 hC.2.2.2.2 gX11_ofSongNow_Jx4a65c_get_915e3 rfl rfl rfl hdV_Jx4a65c_get_915e3 ⟨Nat.le_of_ble_eq_true rfl, Nat.le_of_ble_eq_true rfl⟩) (rg_recv hT G (by decide) r_lp k_AL) rfl hl.1 rfl (Nat.le_of_ble_eq_true rfl) dX11_ofSongNow_24 ⟨Nat.le_of_ble_eq_true rfl, Nat.le_of_ble_eq_true rfl⟩) (fun j16 σ15 H locs h G => ?_)
      (try dsimp only at h)
      obtain ⟨hj17, h⟩ := h
      refine rg_cast hC hT k_X9 (wm 2 rfl) (rg_recv hT G (rk_pl hj17) (r_pl hj17) k_X9) dX11_ofSongNow_27 ?_
      refine rg_getN hC hT G (rk_pl hj17) (r_pl hj17) k_X9 i_X11_ofSongNow_X9 1 (by decide) 3 rfl rfl dX11_ofSongNow_30 ?_
      refine lv_iload_n hC.1 hC.2.1 dX11_ofSongNow_33 rfl (lv_at hl 1 rfl) ?_
      refine rg_i G (rg_runS (As := [.int (σ15 (13 + j16) 1), .int a1]) (rest := [.int v3]) hC hT G (c_X11_isIn l D cy lay Γ h _) (va_cwS 2 hC.2.2.2.2 gX11_ofSongNow_X11_isIn rfl rfl rfl hdS_X11_isIn ⟨Nat.le_of_ble_eq_true rfl, Nat.le_of_ble_eq_true rfl⟩) rfl hl.1 rfl (Nat.le_of_ble_eq_true rfl) dX11_ofSongNow_34 ⟨Nat.le_of_ble_eq_true rfl, Nat.le_of_ble_eq_true rfl⟩) (fun r19 σ18 H locs h G => ?_)
      (try dsimp only at h)
      refine lv_if_eq (tgt := 44) hC.1 hC.2.1 dX11_ofSongNow_37 (by decide) (fun c20 => ?_) (fun c20 => ?_)
      · replace h := h.1 c20
        refine lv_iconst (v := 0) hC.1 hC.2.1 dX11_ofSongNow_44 (by decide) ?_
        refine lv_iadd hC.1 hC.2.1 dX11_ofSongNow_45 ?_
        refine lv_istore_n (lv' := [(3, .int (v3 + 0)), (0, .ref (lay 0)), (1, .int a1), (2, .int a2), (4, .int v4)]) hC.1 hC.2.1 dX11_ofSongNow_46 rfl hl (by decide) rfl (fun ls hl => ?_)
        refine lv_iinc (v := v4 + 1) (lv' := [(4, .int (v4 + 1)), (3, .int (v3 + 0)), (0, .ref (lay 0)), (1, .int a1), (2, .int a2)]) hC.1 hC.2.1 dX11_ofSongNow_47 hl (k := 4) rfl rfl (by decide) rfl (fun ls hl => ?_)
        refine lv_goto (tgt := 5) hC.1 hC.2.1 dX11_ofSongNow_50 (by decide) ?_
        exact ih _ _ _ h _ _ _ G (lv_sub hl [2, 3, 4, 1, 0] rfl)
      · replace h := h.2 c20
        refine lv_iconst (v := 1) hC.1 hC.2.1 dX11_ofSongNow_40 (by decide) ?_
        refine lv_goto (tgt := 45) hC.1 hC.2.1 dX11_ofSongNow_41 (by decide) ?_
        refine lv_iadd hC.1 hC.2.1 dX11_ofSongNow_45 ?_
        refine lv_istore_n (lv' := [(3, .int (v3 + 1)), (0, .ref (lay 0)), (1, .int a1), (2, .int a2), (4, .int v4)]) hC.1 hC.2.1 dX11_ofSongNow_46 rfl hl (by decide) rfl (fun ls hl => ?_)
        refine lv_iinc (v := v4 + 1) (lv' := [(4, .int (v4 + 1)), (3, .int (v3 + 1)), (0, .ref (lay 0)), (1, .int a1), (2, .int a2)]) hC.1 hC.2.1 dX11_ofSongNow_47 hl (k := 4) rfl rfl (by decide) rfl (fun ls hl => ?_)
        refine lv_goto (tgt := 5) hC.1 hC.2.1 dX11_ofSongNow_50 (by decide) ?_
        exact ih _ _ _ h _ _ _ G (lv_sub hl [2, 3, 4, 1, 0] rfl)
def w_X11_ofSongNow (Γ : RG) (post : Int32 → MS → Prop) (σ : MS) (a1 : Int32) (a2 : Int32) : Prop := (∃ k, u_X11_ofSongNow_5 Γ post a1 a2 k σ 0 0)
set_option maxHeartbeats 4000000 in
set_option maxRecDepth 100000 in
theorem c_X11_ofSongNow (l : Launch) (D : va_G) (cy : Nat → ClassId) (lay : Nat → Nat) (Γ : RG) {σ : MS} {post : Int32 → MS → Prop} {a1 : Int32} {a2 : Int32} (h : w_X11_ofSongNow Γ post σ a1 a2) (sz : Nat) : Met l yX11_ofSongNow wsX11_ofSongNow rm_X11_ofSongNow (va_Pc [.ref (lay 0), .int a1, .int a2] (rI D cy lay Γ σ sz)) (va_Qi post (rO D cy lay Γ) (rA cy lay Γ sz)) 0 0 (rA cy lay Γ sz) := by
  refine rg_ofW (cc := cX11_ofSongNow) (maxL := 5) (ret := some .int) (own := RX11) (Qc := fun sz => va_Qi post (rO D cy lay Γ) (rA cy lay Γ sz)) (by decide) rfl (Nat.le_of_ble_eq_true rfl) rfl ?_
  intro p e s m args below meth c ls hC hr hlocks hT G hl
  unfold w_X11_ofSongNow at h
  have hl : lv_has ls 5 [(0, .ref (lay 0)), (1, .int a1), (2, .int a2)] := hl
  refine lv_iconst (v := 0) hC.1 hC.2.1 dX11_ofSongNow_0 (by decide) ?_
  refine lv_istore_n (lv' := [(3, .int 0), (0, .ref (lay 0)), (1, .int a1), (2, .int a2)]) hC.1 hC.2.1 dX11_ofSongNow_1 rfl hl (by decide) rfl (fun ls hl => ?_)
  refine lv_iconst (v := 0) hC.1 hC.2.1 dX11_ofSongNow_2 (by decide) ?_
  refine lv_istore (lv' := [(4, .int 0), (3, .int 0), (0, .ref (lay 0)), (1, .int a1), (2, .int a2)]) hC.1 hC.2.1 dX11_ofSongNow_3 hl (by decide) rfl (fun ls hl => ?_)
  obtain ⟨n1, h⟩ := h
  exact l_X11_ofSongNow_5 a1 a2 hC hr hlocks hT n1 _ _ _ h _ _ _ G (lv_sub hl [2, 3, 4, 1, 0] rfl)
theorem hdV_X11_ofSongNow : yX11_ofSongNow.cls = RX11 ∧ yX11_ofSongNow.cls ≠ "java/lang/invoke/MethodHandle" ∧ yX11_ofSongNow.cls ≠ "java/lang/invoke/VarHandle" ∧ (parseMethodDescriptor yX11_ofSongNow.desc).map (fun d => d.parameters.length) = some 2 := by decide +kernel
abbrev rm_X11_ofSong : Room := { frames := 4, cells := 0, slots := 0, locals := 88 }
theorem i_X11_ofSong_X11 : ∀ w ∈ wsX110, w ∈ wsX11_ofSong := fun _ h => List.mem_cons_of_mem _ (List.mem_append_left _ (List.mem_append_left _ (List.mem_append_right _ h)))
def w_X11_ofSong (Γ : RG) (post : Int32 → MS → Prop) (σ : MS) (a1 : Int32) (a2 : Int32) : Prop := w_X11_is Γ (fun r2 σ1 => ((r2 = 0 → w_X11_refuse Γ (fun r12 σ11 => post r12 σ11) σ1 1) ∧ (¬ r2 = 0 → w_X11_is Γ (fun r5 σ4 => ((r5 = 0 → w_X11_refuse Γ (fun r8 σ7 => post r8 σ7) σ4 2) ∧ (¬ r5 = 0 → w_X11_ofSongNow Γ (fun r10 σ9 => post r10 σ9) σ4 a1 a2))) σ1 a2 0 5))) (up2 σ 0 0 0) a1 0 15
set_option maxHeartbeats 4000000 in
set_option maxRecDepth 100000 in
theorem c_X11_ofSong (l : Launch) (D : va_G) (cy : Nat → ClassId) (lay : Nat → Nat) (Γ : RG) {σ : MS} {post : Int32 → MS → Prop} {a1 : Int32} {a2 : Int32} (h : w_X11_ofSong Γ post σ a1 a2) (sz : Nat) : Met l yX11_ofSong wsX11_ofSong rm_X11_ofSong (va_Pc [.ref (lay 0), .int a1, .int a2] (rI D cy lay Γ σ sz)) (va_Qi post (rO D cy lay Γ) (rA cy lay Γ sz)) 0 0 (rA cy lay Γ sz) := by
  refine rg_ofW (cc := cX11_ofSong) (maxL := 3) (ret := some .int) (own := RX11) (Qc := fun sz => va_Qi post (rO D cy lay Γ) (rA cy lay Γ sz)) (by decide) rfl (Nat.le_of_ble_eq_true rfl) rfl ?_
  intro p e s m args below meth c ls hC hr hlocks hT G hl
  unfold w_X11_ofSong at h
  have hl : lv_has ls 3 [(0, .ref (lay 0)), (1, .int a1), (2, .int a2)] := hl
  refine lv_aload_n hC.1 hC.2.1 dX11_ofSong_0 rfl (lv_at hl 0 rfl) ?_
  refine lv_iconst (v := 0) hC.1 hC.2.1 dX11_ofSong_1 (by decide) ?_
  refine rg_put hC hT G (by decide) r_mo k_X11 i_X11_ofSong_X11 0 (by decide) (wm 1 rfl) rfl rfl (by simp) r_mo (by rw [up2_eq]; rfl) dX11_ofSong_2 (fun H locs G => ?_)
  refine lv_iload_n hC.1 hC.2.1 dX11_ofSong_5 rfl (lv_at hl 1 rfl) ?_
  refine lv_iconst (v := 0) hC.1 hC.2.1 dX11_ofSong_6 (by decide) ?_
  refine lv_bipush (v := 15) hC.1 hC.2.1 dX11_ofSong_7 (by decide) ?_
  refine rg_i G (rg_runS (As := [.int a1, .int 0, .int 15]) (rest := []) hC hT G (c_X11_is l D cy lay Γ h _) (va_cwS 3 hC.2.2.2.2 gX11_ofSong_X11_is rfl rfl rfl hdS_X11_is ⟨Nat.le_of_ble_eq_true rfl, Nat.le_of_ble_eq_true rfl⟩) rfl hl.1 rfl (Nat.le_of_ble_eq_true rfl) dX11_ofSong_9 ⟨Nat.le_of_ble_eq_true rfl, Nat.le_of_ble_eq_true rfl⟩) (fun r2 σ1 H locs h G => ?_)
  (try dsimp only at h)
  refine lv_if_ne (tgt := 21) hC.1 hC.2.1 dX11_ofSong_12 (by decide) (fun c3 => ?_) (fun c3 => ?_)
  · replace h := h.2 c3
    refine lv_iload_n hC.1 hC.2.1 dX11_ofSong_21 rfl (lv_at hl 2 rfl) ?_
    refine lv_iconst (v := 0) hC.1 hC.2.1 dX11_ofSong_22 (by decide) ?_
    refine lv_iconst (v := 5) hC.1 hC.2.1 dX11_ofSong_23 (by decide) ?_
    refine rg_i G (rg_runS (As := [.int a2, .int 0, .int 5]) (rest := []) hC hT G (c_X11_is l D cy lay Γ h _) (va_cwS 3 hC.2.2.2.2 gX11_ofSong_X11_is rfl rfl rfl hdS_X11_is ⟨Nat.le_of_ble_eq_true rfl, Nat.le_of_ble_eq_true rfl⟩) rfl hl.1 rfl (Nat.le_of_ble_eq_true rfl) dX11_ofSong_24 ⟨Nat.le_of_ble_eq_true rfl, Nat.le_of_ble_eq_true rfl⟩) (fun r5 σ4 H locs h G => ?_)
    (try dsimp only at h)
    refine lv_if_eq (tgt := 39) hC.1 hC.2.1 dX11_ofSong_27 (by decide) (fun c6 => ?_) (fun c6 => ?_)
    · replace h := h.1 c6
      refine lv_aload_n hC.1 hC.2.1 dX11_ofSong_39 rfl (lv_at hl 0 rfl) ?_
      refine lv_iconst (v := 2) hC.1 hC.2.1 dX11_ofSong_40 (by decide) ?_
      refine rg_i G (rg_runV (As := [.int 2]) (rest := []) hC hT G (c_X11_refuse l D cy lay Γ h _) (cwV 1 hC.2.2.2.2 gX11_ofSong_X11_refuse rfl rfl rfl hdV_X11_refuse ⟨Nat.le_of_ble_eq_true rfl, Nat.le_of_ble_eq_true rfl⟩) (rg_recv hT G (by decide) r_mo k_X11) rfl hl.1 rfl (Nat.le_of_ble_eq_true rfl) dX11_ofSong_41 ⟨Nat.le_of_ble_eq_true rfl, Nat.le_of_ble_eq_true rfl⟩) (fun r8 σ7 H locs h G => ?_)
      (try dsimp only at h)
      exact rg_iret hC hr hlocks G h dX11_ofSong_44
    · replace h := h.2 c6
      refine lv_aload_n hC.1 hC.2.1 dX11_ofSong_30 rfl (lv_at hl 0 rfl) ?_
      refine lv_iload_n hC.1 hC.2.1 dX11_ofSong_31 rfl (lv_at hl 1 rfl) ?_
      refine lv_iload_n hC.1 hC.2.1 dX11_ofSong_32 rfl (lv_at hl 2 rfl) ?_
      refine rg_i G (rg_runV (As := [.int a1, .int a2]) (rest := []) hC hT G (c_X11_ofSongNow l D cy lay Γ h _) (cwV 2 hC.2.2.2.2 gX11_ofSong_X11_ofSongNow rfl rfl rfl hdV_X11_ofSongNow ⟨Nat.le_of_ble_eq_true rfl, Nat.le_of_ble_eq_true rfl⟩) (rg_recv hT G (by decide) r_mo k_X11) rfl hl.1 rfl (Nat.le_of_ble_eq_true rfl) dX11_ofSong_33 ⟨Nat.le_of_ble_eq_true rfl, Nat.le_of_ble_eq_true rfl⟩) (fun r10 σ9 H locs h G => ?_)
      (try dsimp only at h)
      refine lv_goto (tgt := 44) hC.1 hC.2.1 dX11_ofSong_36 (by decide) ?_
      exact rg_iret hC hr hlocks G h dX11_ofSong_44
  · replace h := h.1 c3
    refine lv_aload_n hC.1 hC.2.1 dX11_ofSong_15 rfl (lv_at hl 0 rfl) ?_
    refine lv_iconst (v := 1) hC.1 hC.2.1 dX11_ofSong_16 (by decide) ?_
    refine rg_i G (rg_runV (As := [.int 1]) (rest := []) hC hT G (c_X11_refuse l D cy lay Γ h _) (cwV 1 hC.2.2.2.2 gX11_ofSong_X11_refuse rfl rfl rfl hdV_X11_refuse ⟨Nat.le_of_ble_eq_true rfl, Nat.le_of_ble_eq_true rfl⟩) (rg_recv hT G (by decide) r_mo k_X11) rfl hl.1 rfl (Nat.le_of_ble_eq_true rfl) dX11_ofSong_17 ⟨Nat.le_of_ble_eq_true rfl, Nat.le_of_ble_eq_true rfl⟩) (fun r12 σ11 H locs h G => ?_)
    (try dsimp only at h)
    exact rg_iret hC hr hlocks G h dX11_ofSong_20
theorem hdV_X11_ofSong : yX11_ofSong.cls = RX11 ∧ yX11_ofSong.cls ≠ "java/lang/invoke/MethodHandle" ∧ yX11_ofSong.cls ≠ "java/lang/invoke/VarHandle" ∧ (parseMethodDescriptor yX11_ofSong.desc).map (fun d => d.parameters.length) = some 2 := by decide +kernel
abbrev rm_X11_ofBandNow : Room := { frames := 3, cells := 0, slots := 0, locals := 64 }
theorem i_X11_ofBandNow_X11 : ∀ w ∈ wsX110, w ∈ wsX11_ofBandNow := fun _ h => List.mem_cons_of_mem _ (List.mem_append_left _ (List.mem_append_left _ (List.mem_append_left _ (List.mem_append_right _ h))))
theorem i_X11_ofBandNow_X10 : ∀ w ∈ wsX100, w ∈ wsX11_ofBandNow := fun _ h => List.mem_cons_of_mem _ (List.mem_append_left _ (List.mem_append_left _ (List.mem_append_right _ h)))
def u_X11_ofBandNow_54 (Γ : RG) (post : Int32 → MS → Prop) (a1 : Int32) (a2 : Int32) : Nat → MS → Int32 → Int32 → Prop
  | 0, _, _, _ => False
  | n + 1, σ, v3, v4 => w_lw_Jx4a65c_size_8abf5 Γ (fun r4 σ3 => ((r4 ≤ v4 → post v3 σ3) ∧ (¬ r4 ≤ v4 → w_lw_Jx4a65c_get_915e3 Γ (fun j7 σ6 => ((j7 < 14 ∧ j7 < Γ.2.2.1) ∧ (((σ6 (33 + j7) 0) = a1 → ((a2 = 7 → u_X11_ofBandNow_54 Γ post a1 a2 n σ6 (v3 + 1) (v4 + 1)) ∧ (¬ a2 = 7 → w_lw_Jx4a65c_get_915e3 Γ (fun j12 σ11 => ((j12 < 14 ∧ j12 < Γ.2.2.1) ∧ (((σ11 (33 + j12) 7) = 2 → u_X11_ofBandNow_54 Γ post a1 a2 n σ11 (v3 + 1) (v4 + 1)) ∧ (¬ (σ11 (33 + j12) 7) = 2 → u_X11_ofBandNow_54 Γ post a1 a2 n σ11 (v3 + 0) (v4 + 1))))) σ6 v4))) ∧ (¬ (σ6 (33 + j7) 0) = a1 → u_X11_ofBandNow_54 Γ post a1 a2 n σ6 (v3 + 0) (v4 + 1))))) σ3 v4))) σ
set_option maxHeartbeats 4000000 in
set_option maxRecDepth 100000 in
theorem l_X11_ofBandNow_54 {p : Program} {l : Launch} {e : Env} {s : State} {m : MethodId} {args : Array Value} {below : List Frame} {meth : Method} {c : Code} {D : va_G} {cy : Nat → ClassId} {lay : Nat → Nat} {Γ : RG} {post : Int32 → MS → Prop} (a1 : Int32) (a2 : Int32) (hC : CallFix p m c cX11_ofBandNow 5 s args wsX11_ofBandNow RX11) (hr : meth.sig.returnType = some .int) (hlocks : meth.locks = false) (hT : rT D cy lay Γ s) : ∀ (n : Nat), ∀ (σ : MS) (v3 : Int32) (v4 : Int32), u_X11_ofBandNow_54 Γ post a1 a2 n σ v3 v4 → ∀ (H : Heap) (locs : List Loc) (ls : Array Slot), rG D cy lay Γ tn σ (rA cy lay Γ s.heap.size) s.heap H locs → lv_has ls 5 [(0, .ref (lay 0)), (1, .int a1), (2, .int a2), (3, .int v3), (4, .int v4)] → W p l e rm_X11_ofBandNow s m args below meth c H locs 0 0 (MQ below (va_Qi post (rO D cy lay Γ) (rA cy lay Γ s.heap.size)) args s 0 0 (rA cy lay Γ s.heap.size)) (F0 m 54 ls []) := by
  intro n
  induction n with
  | zero =>
    intro σ v3 v4 h
    exact h.elim
  | succ n ih =>
    intro σ v3 v4 h H locs ls G hl
    rw [u_X11_ofBandNow_54] at h
    refine lv_iload hC.1 hC.2.1 dX11_ofBandNow_54 (lv_at hl 4 rfl) ?_
    refine lv_aload_n hC.1 hC.2.1 dX11_ofBandNow_56 rfl (lv_at hl 0 rfl) ?_
    refine rg_get hC hT G (by decide) r_mo k_X11 i_X11_ofBandNow_X11 5 (by decide) (wm 3 rfl) rfl dX11_ofBandNow_57 ?_
    refine rg_i G (rg_runV (As := []) (rest := [.int v4]) hC hT G (c_lw_Jx4a65c_size_8abf5 l D cy lay Γ h _) (cwV 0 hC.2.2.2.2 gX11_ofBandNow_Jx4a65c_size_8abf5 rfl rfl rfl hdV_Jx4a65c_size_8abf5 ⟨Nat.le_of_ble_eq_true rfl, Nat.le_of_ble_eq_true rfl⟩) (rg_recv hT G (by decide) r_lw k_AL) rfl hl.1 rfl (Nat.le_of_ble_eq_true rfl) dX11_ofBandNow_60 ⟨Nat.le_of_ble_eq_true rfl, Nat.le_of_ble_eq_true rfl⟩) (fun r4 σ3 H locs h G => ?_)
    (try dsimp only at h)
    refine lv_icmp_ge (tgt := 124) hC.1 hC.2.1 dX11_ofBandNow_63 (by decide) (fun c5 => ?_) (fun c5 => ?_)
    · replace h := h.1 c5
      refine lv_iload_n hC.1 hC.2.1 dX11_ofBandNow_124 rfl (lv_at hl 3 rfl) ?_
      exact rg_iret hC hr hlocks G h dX11_ofBandNow_125
    · replace h := h.2 c5
      refine lv_iload_n hC.1 hC.2.1 dX11_ofBandNow_66 rfl (lv_at hl 3 rfl) ?_
      refine lv_aload_n hC.1 hC.2.1 dX11_ofBandNow_67 rfl (lv_at hl 0 rfl) ?_
      refine rg_get hC hT G (by decide) r_mo k_X11 i_X11_ofBandNow_X11 5 (by decide) (wm 3 rfl) rfl dX11_ofBandNow_68 ?_
      refine lv_iload hC.1 hC.2.1 dX11_ofBandNow_71 (lv_at hl 4 rfl) ?_
      refine rg_r (f := fun i => lay (33 + i)) G (rg_runV (As := [.int v4]) (rest := [.int v3]) hC hT G (c_lw_Jx4a65c_get_915e3 l D cy lay Γ h _) (cwV 1 hC.2.2.2.2 gX11_ofBandNow_Jx4a65c_get_915e3 rfl rfl rfl hdV_Jx4a65c_get_915e3 ⟨Nat.le_of_ble_eq_true rfl, Nat.le_of_ble_eq_true rfl⟩) (rg_recv hT G (by decide) r_lw k_AL) rfl hl.1 rfl (Nat.le_of_ble_eq_true rfl) dX11_ofBandNow_73 ⟨Nat.le_of_ble_eq_true rfl, Nat.le_of_ble_eq_true rfl⟩) (fun j7 σ6 H locs h G => ?_)
      (try dsimp only at h)
      obtain ⟨hj8, h⟩ := h
      refine rg_cast hC hT k_X10 (wm 4 rfl) (rg_recv hT G (rk_wd hj8) (r_wd hj8) k_X10) dX11_ofBandNow_76 ?_
      refine rg_getN hC hT G (rk_wd hj8) (r_wd hj8) k_X10 i_X11_ofBandNow_X10 0 (by decide) 10 rfl rfl dX11_ofBandNow_79 ?_
      refine lv_iload_n hC.1 hC.2.1 dX11_ofBandNow_82 rfl (lv_at hl 1 rfl) ?_
      refine lv_icmp_ne (tgt := 115) hC.1 hC.2.1 dX11_ofBandNow_83 (by decide) (fun c9 => ?_) (fun c9 => ?_)
      · replace h := h.2 c9
        refine lv_iconst (v := 0) hC.1 hC.2.1 dX11_ofBandNow_115 (by decide) ?_
        refine lv_iadd hC.1 hC.2.1 dX11_ofBandNow_116 ?_
        refine lv_istore_n (lv' := [(3, .int (v3 + 0)), (0, .ref (lay 0)), (1, .int a1), (2, .int a2), (4, .int v4)]) hC.1 hC.2.1 dX11_ofBandNow_117 rfl hl (by decide) rfl (fun ls hl => ?_)
        refine lv_iinc (v := v4 + 1) (lv' := [(4, .int (v4 + 1)), (3, .int (v3 + 0)), (0, .ref (lay 0)), (1, .int a1), (2, .int a2)]) hC.1 hC.2.1 dX11_ofBandNow_118 hl (k := 4) rfl rfl (by decide) rfl (fun ls hl => ?_)
        refine lv_goto (tgt := 54) hC.1 hC.2.1 dX11_ofBandNow_121 (by decide) ?_
        exact ih _ _ _ h _ _ _ G (lv_sub hl [2, 3, 4, 1, 0] rfl)
      · replace h := h.1 c9
        refine lv_iload_n hC.1 hC.2.1 dX11_ofBandNow_86 rfl (lv_at hl 2 rfl) ?_
        refine lv_bipush (v := 7) hC.1 hC.2.1 dX11_ofBandNow_87 (by decide) ?_
        refine lv_icmp_eq (tgt := 111) hC.1 hC.2.1 dX11_ofBandNow_89 (by decide) (fun c10 => ?_) (fun c10 => ?_)
        · replace h := h.1 c10
          refine lv_iconst (v := 1) hC.1 hC.2.1 dX11_ofBandNow_111 (by decide) ?_
          refine lv_goto (tgt := 116) hC.1 hC.2.1 dX11_ofBandNow_112 (by decide) ?_
          refine lv_iadd hC.1 hC.2.1 dX11_ofBandNow_116 ?_
          refine lv_istore_n (lv' := [(3, .int (v3 + 1)), (0, .ref (lay 0)), (1, .int a1), (2, .int a2), (4, .int v4)]) hC.1 hC.2.1 dX11_ofBandNow_117 rfl hl (by decide) rfl (fun ls hl => ?_)
          refine lv_iinc (v := v4 + 1) (lv' := [(4, .int (v4 + 1)), (3, .int (v3 + 1)), (0, .ref (lay 0)), (1, .int a1), (2, .int a2)]) hC.1 hC.2.1 dX11_ofBandNow_118 hl (k := 4) rfl rfl (by decide) rfl (fun ls hl => ?_)
          refine lv_goto (tgt := 54) hC.1 hC.2.1 dX11_ofBandNow_121 (by decide) ?_
          exact ih _ _ _ h _ _ _ G (lv_sub hl [2, 3, 4, 1, 0] rfl)
        · replace h := h.2 c10
          refine lv_aload_n hC.1 hC.2.1 dX11_ofBandNow_92 rfl (lv_at hl 0 rfl) ?_
          refine rg_get hC hT G (by decide) r_mo k_X11 i_X11_ofBandNow_X11 5 (by decide) (wm 3 rfl) rfl dX11_ofBandNow_93 ?_
          refine lv_iload hC.1 hC.2.1 dX11_ofBandNow_96 (lv_at hl 4 rfl) ?_
          refine rg_r (f := fun i => lay (33 + i)) G (rg_runV (As := [.int v4]) (rest := [.int v3]) hC hT G (c_lw_Jx4a65c_get_915e3 l D cy lay Γ h _) (cwV 1 hC.2.2.2.2 gX11_ofBandNow_Jx4a65c_get_915e3 rfl rfl rfl hdV_Jx4a65c_get_915e3 ⟨Nat.le_of_ble_eq_true rfl, Nat.le_of_ble_eq_true rfl⟩) (rg_recv hT G (by decide) r_lw k_AL) rfl hl.1 rfl (Nat.le_of_ble_eq_true rfl) dX11_ofBandNow_98 ⟨Nat.le_of_ble_eq_true rfl, Nat.le_of_ble_eq_true rfl⟩) (fun j12 σ11 H locs h G => ?_)
          (try dsimp only at h)
          obtain ⟨hj13, h⟩ := h
          refine rg_cast hC hT k_X10 (wm 4 rfl) (rg_recv hT G (rk_wd hj13) (r_wd hj13) k_X10) dX11_ofBandNow_101 ?_
          refine rg_getN hC hT G (rk_wd hj13) (r_wd hj13) k_X10 i_X11_ofBandNow_X10 7 (by decide) 17 rfl rfl dX11_ofBandNow_104 ?_
          refine lv_iconst (v := 2) hC.1 hC.2.1 dX11_ofBandNow_107 (by decide) ?_
          refine lv_icmp_ne (tgt := 115) hC.1 hC.2.1 dX11_ofBandNow_108 (by decide) (fun c14 => ?_) (fun c14 => ?_)
          · replace h := h.2 c14
            refine lv_iconst (v := 0) hC.1 hC.2.1 dX11_ofBandNow_115 (by decide) ?_
            refine lv_iadd hC.1 hC.2.1 dX11_ofBandNow_116 ?_
            refine lv_istore_n (lv' := [(3, .int (v3 + 0)), (0, .ref (lay 0)), (1, .int a1), (2, .int a2), (4, .int v4)]) hC.1 hC.2.1 dX11_ofBandNow_117 rfl hl (by decide) rfl (fun ls hl => ?_)
            refine lv_iinc (v := v4 + 1) (lv' := [(4, .int (v4 + 1)), (3, .int (v3 + 0)), (0, .ref (lay 0)), (1, .int a1), (2, .int a2)]) hC.1 hC.2.1 dX11_ofBandNow_118 hl (k := 4) rfl rfl (by decide) rfl (fun ls hl => ?_)
            refine lv_goto (tgt := 54) hC.1 hC.2.1 dX11_ofBandNow_121 (by decide) ?_
            exact ih _ _ _ h _ _ _ G (lv_sub hl [2, 3, 4, 1, 0] rfl)
          · replace h := h.1 c14
            refine lv_iconst (v := 1) hC.1 hC.2.1 dX11_ofBandNow_111 (by decide) ?_
            refine lv_goto (tgt := 116) hC.1 hC.2.1 dX11_ofBandNow_112 (by decide) ?_
            refine lv_iadd hC.1 hC.2.1 dX11_ofBandNow_116 ?_
            refine lv_istore_n (lv' := [(3, .int (v3 + 1)), (0, .ref (lay 0)), (1, .int a1), (2, .int a2), (4, .int v4)]) hC.1 hC.2.1 dX11_ofBandNow_117 rfl hl (by decide) rfl (fun ls hl => ?_)
            refine lv_iinc (v := v4 + 1) (lv' := [(4, .int (v4 + 1)), (3, .int (v3 + 1)), (0, .ref (lay 0)), (1, .int a1), (2, .int a2)]) hC.1 hC.2.1 dX11_ofBandNow_118 hl (k := 4) rfl rfl (by decide) rfl (fun ls hl => ?_)
            refine lv_goto (tgt := 54) hC.1 hC.2.1 dX11_ofBandNow_121 (by decide) ?_
            exact ih _ _ _ h _ _ _ G (lv_sub hl [2, 3, 4, 1, 0] rfl)
def w_X11_ofBandNow (Γ : RG) (post : Int32 → MS → Prop) (σ : MS) (a1 : Int32) (a2 : Int32) : Prop := ((6 ≤ a2 → ((a2 = 6 → w_lb_Jx4a65c_get_915e3 Γ (fun j16 σ15 => ((j16 < Γ.2.1) ∧ w_in_J6_intValue_8abf5 Γ (fun r19 σ18 => w_X11_needed_ Γ (fun r21 σ20 => post r21 σ20) σ18 r19) σ15 j16)) σ a1) ∧ (¬ a2 = 6 → (∃ k, u_X11_ofBandNow_54 Γ post a1 a2 k σ 0 0)))) ∧ (¬ 6 ≤ a2 → w_lb_Jx4a65c_get_915e3 Γ (fun j23 σ22 => ((j23 < Γ.2.1) ∧ w_in_J6_intValue_8abf5 Γ (fun r26 σ25 => w_X11_needed Γ (fun r28 σ27 => post r28 σ27) σ25 r26 a2) σ22 j23)) σ a1))
set_option maxHeartbeats 4000000 in
set_option maxRecDepth 100000 in
theorem c_X11_ofBandNow (l : Launch) (D : va_G) (cy : Nat → ClassId) (lay : Nat → Nat) (Γ : RG) {σ : MS} {post : Int32 → MS → Prop} {a1 : Int32} {a2 : Int32} (h : w_X11_ofBandNow Γ post σ a1 a2) (sz : Nat) : Met l yX11_ofBandNow wsX11_ofBandNow rm_X11_ofBandNow (va_Pc [.ref (lay 0), .int a1, .int a2] (rI D cy lay Γ σ sz)) (va_Qi post (rO D cy lay Γ) (rA cy lay Γ sz)) 0 0 (rA cy lay Γ sz) := by
  refine rg_ofW (cc := cX11_ofBandNow) (maxL := 5) (ret := some .int) (own := RX11) (Qc := fun sz => va_Qi post (rO D cy lay Γ) (rA cy lay Γ sz)) (by decide) rfl (Nat.le_of_ble_eq_true rfl) rfl ?_
  intro p e s m args below meth c ls hC hr hlocks hT G hl
  unfold w_X11_ofBandNow at h
  have hl : lv_has ls 5 [(0, .ref (lay 0)), (1, .int a1), (2, .int a2)] := hl
  refine lv_iload_n hC.1 hC.2.1 dX11_ofBandNow_0 rfl (lv_at hl 2 rfl) ?_
  refine lv_bipush (v := 6) hC.1 hC.2.1 dX11_ofBandNow_1 (by decide) ?_
  refine lv_icmp_ge (tgt := 25) hC.1 hC.2.1 dX11_ofBandNow_3 (by decide) (fun c1 => ?_) (fun c1 => ?_)
  · replace h := h.1 c1
    refine lv_iload_n hC.1 hC.2.1 dX11_ofBandNow_25 rfl (lv_at hl 2 rfl) ?_
    refine lv_bipush (v := 6) hC.1 hC.2.1 dX11_ofBandNow_26 (by decide) ?_
    refine lv_icmp_ne (tgt := 49) hC.1 hC.2.1 dX11_ofBandNow_28 (by decide) (fun c2 => ?_) (fun c2 => ?_)
    · replace h := h.2 c2
      refine lv_iconst (v := 0) hC.1 hC.2.1 dX11_ofBandNow_49 (by decide) ?_
      refine lv_istore_n (lv' := [(3, .int 0), (0, .ref (lay 0)), (1, .int a1), (2, .int a2)]) hC.1 hC.2.1 dX11_ofBandNow_50 rfl hl (by decide) rfl (fun ls hl => ?_)
      refine lv_iconst (v := 0) hC.1 hC.2.1 dX11_ofBandNow_51 (by decide) ?_
      refine lv_istore (lv' := [(4, .int 0), (3, .int 0), (0, .ref (lay 0)), (1, .int a1), (2, .int a2)]) hC.1 hC.2.1 dX11_ofBandNow_52 hl (by decide) rfl (fun ls hl => ?_)
      obtain ⟨n1, h⟩ := h
      exact l_X11_ofBandNow_54 a1 a2 hC hr hlocks hT n1 _ _ _ h _ _ _ G (lv_sub hl [2, 3, 4, 1, 0] rfl)
    · replace h := h.1 c2
      refine lv_aload_n hC.1 hC.2.1 dX11_ofBandNow_31 rfl (lv_at hl 0 rfl) ?_
      refine rg_get hC hT G (by decide) r_mo k_X11 i_X11_ofBandNow_X11 4 (by decide) (wm 1 rfl) rfl dX11_ofBandNow_32 ?_
      refine lv_iload_n hC.1 hC.2.1 dX11_ofBandNow_35 rfl (lv_at hl 1 rfl) ?_
      refine rg_r (f := fun i => Γ.2.2.2.2.1 i) G (rg_runV (As := [.int a1]) (rest := []) hC hT G (c_lb_Jx4a65c_get_915e3 l D cy lay Γ h _) (cwV 1 hC.2.2.2.2 gX11_ofBandNow_Jx4a65c_get_915e3 rfl rfl rfl hdV_Jx4a65c_get_915e3 ⟨Nat.le_of_ble_eq_true rfl, Nat.le_of_ble_eq_true rfl⟩) (rg_recv hT G (by decide) r_lb k_AL) rfl hl.1 rfl (Nat.le_of_ble_eq_true rfl) dX11_ofBandNow_36 ⟨Nat.le_of_ble_eq_true rfl, Nat.le_of_ble_eq_true rfl⟩) (fun j16 σ15 H locs h G => ?_)
      (try dsimp only at h)
      obtain ⟨hj17, h⟩ := h
      refine rg_cast hC hT k_IN (wm 2 rfl) (rg_recvI hT G hj17) dX11_ofBandNow_39 ?_
      refine rg_i G (rg_runV (As := []) (rest := []) hC hT G (c_in_J6_intValue_8abf5 l D cy lay Γ h hj17 _) (cwV 0 hC.2.2.2.2 gX11_ofBandNow_J6_intValue_8abf5 rfl rfl rfl hdV_J6_intValue_8abf5 ⟨Nat.le_of_ble_eq_true rfl, Nat.le_of_ble_eq_true rfl⟩) (rg_recvI hT G hj17) rfl hl.1 rfl (Nat.le_of_ble_eq_true rfl) dX11_ofBandNow_42 ⟨Nat.le_of_ble_eq_true rfl, Nat.le_of_ble_eq_true rfl⟩) (fun r19 σ18 H locs h G => ?_)
      (try dsimp only at h)
      refine rg_i G (rg_runS (As := [.int r19]) (rest := []) hC hT G (c_X11_needed_ l D cy lay Γ h _) (va_cwS 1 hC.2.2.2.2 gX11_ofBandNow_X11_needed_ rfl rfl rfl hdS_X11_needed_ ⟨Nat.le_of_ble_eq_true rfl, Nat.le_of_ble_eq_true rfl⟩) rfl hl.1 rfl (Nat.le_of_ble_eq_true rfl) dX11_ofBandNow_45 ⟨Nat.le_of_ble_eq_true rfl, Nat.le_of_ble_eq_true rfl⟩) (fun r21 σ20 H locs h G => ?_)
      (try dsimp only at h)
      exact rg_iret hC hr hlocks G h dX11_ofBandNow_48
  · replace h := h.2 c1
    refine lv_aload_n hC.1 hC.2.1 dX11_ofBandNow_6 rfl (lv_at hl 0 rfl) ?_
    refine rg_get hC hT G (by decide) r_mo k_X11 i_X11_ofBandNow_X11 4 (by decide) (wm 1 rfl) rfl dX11_ofBandNow_7 ?_
    refine lv_iload_n hC.1 hC.2.1 dX11_ofBandNow_10 rfl (lv_at hl 1 rfl) ?_
    refine rg_r (f := fun i => Γ.2.2.2.2.1 i) G (rg_runV (As := [.int a1]) (rest := []) hC hT G (c_lb_Jx4a65c_get_915e3 l D cy lay Γ h _) (cwV 1 hC.2.2.2.2 gX11_ofBandNow_Jx4a65c_get_915e3 rfl rfl rfl hdV_Jx4a65c_get_915e3 ⟨Nat.le_of_ble_eq_true rfl, Nat.le_of_ble_eq_true rfl⟩) (rg_recv hT G (by decide) r_lb k_AL) rfl hl.1 rfl (Nat.le_of_ble_eq_true rfl) dX11_ofBandNow_11 ⟨Nat.le_of_ble_eq_true rfl, Nat.le_of_ble_eq_true rfl⟩) (fun j23 σ22 H locs h G => ?_)
    (try dsimp only at h)
    obtain ⟨hj24, h⟩ := h
    refine rg_cast hC hT k_IN (wm 2 rfl) (rg_recvI hT G hj24) dX11_ofBandNow_14 ?_
    refine rg_i G (rg_runV (As := []) (rest := []) hC hT G (c_in_J6_intValue_8abf5 l D cy lay Γ h hj24 _) (cwV 0 hC.2.2.2.2 gX11_ofBandNow_J6_intValue_8abf5 rfl rfl rfl hdV_J6_intValue_8abf5 ⟨Nat.le_of_ble_eq_true rfl, Nat.le_of_ble_eq_true rfl⟩) (rg_recvI hT G hj24) rfl hl.1 rfl (Nat.le_of_ble_eq_true rfl) dX11_ofBandNow_17 ⟨Nat.le_of_ble_eq_true rfl, Nat.le_of_ble_eq_true rfl⟩) (fun r26 σ25 H locs h G => ?_)
    (try dsimp only at h)
    refine lv_iload_n hC.1 hC.2.1 dX11_ofBandNow_20 rfl (lv_at hl 2 rfl) ?_
    refine rg_i G (rg_runS (As := [.int r26, .int a2]) (rest := []) hC hT G (c_X11_needed l D cy lay Γ h _) (va_cwS 2 hC.2.2.2.2 gX11_ofBandNow_X11_needed rfl rfl rfl hdS_X11_needed ⟨Nat.le_of_ble_eq_true rfl, Nat.le_of_ble_eq_true rfl⟩) rfl hl.1 rfl (Nat.le_of_ble_eq_true rfl) dX11_ofBandNow_21 ⟨Nat.le_of_ble_eq_true rfl, Nat.le_of_ble_eq_true rfl⟩) (fun r28 σ27 H locs h G => ?_)
    (try dsimp only at h)
    exact rg_iret hC hr hlocks G h dX11_ofBandNow_24
theorem hdV_X11_ofBandNow : yX11_ofBandNow.cls = RX11 ∧ yX11_ofBandNow.cls ≠ "java/lang/invoke/MethodHandle" ∧ yX11_ofBandNow.cls ≠ "java/lang/invoke/VarHandle" ∧ (parseMethodDescriptor yX11_ofBandNow.desc).map (fun d => d.parameters.length) = some 2 := by decide +kernel
abbrev rm_X11_ofBand : Room := { frames := 4, cells := 0, slots := 0, locals := 88 }
theorem i_X11_ofBand_X11 : ∀ w ∈ wsX110, w ∈ wsX11_ofBand := fun _ h => List.mem_cons_of_mem _ (List.mem_append_left _ (List.mem_append_left _ (List.mem_append_left _ (List.mem_append_right _ h))))
def w_X11_ofBand (Γ : RG) (post : Int32 → MS → Prop) (σ : MS) (a1 : Int32) (a2 : Int32) : Prop := w_X11_isBand Γ (fun r2 σ1 => ((r2 = 0 → w_X11_refuse Γ (fun r12 σ11 => post r12 σ11) σ1 1) ∧ (¬ r2 = 0 → w_X11_is Γ (fun r5 σ4 => ((r5 = 0 → w_X11_refuse Γ (fun r8 σ7 => post r8 σ7) σ4 2) ∧ (¬ r5 = 0 → w_X11_ofBandNow Γ (fun r10 σ9 => post r10 σ9) σ4 a1 a2))) σ1 a2 0 8))) (up2 σ 0 0 0) a1
set_option maxHeartbeats 4000000 in
set_option maxRecDepth 100000 in
theorem c_X11_ofBand (l : Launch) (D : va_G) (cy : Nat → ClassId) (lay : Nat → Nat) (Γ : RG) {σ : MS} {post : Int32 → MS → Prop} {a1 : Int32} {a2 : Int32} (h : w_X11_ofBand Γ post σ a1 a2) (sz : Nat) : Met l yX11_ofBand wsX11_ofBand rm_X11_ofBand (va_Pc [.ref (lay 0), .int a1, .int a2] (rI D cy lay Γ σ sz)) (va_Qi post (rO D cy lay Γ) (rA cy lay Γ sz)) 0 0 (rA cy lay Γ sz) := by
  refine rg_ofW (cc := cX11_ofBand) (maxL := 3) (ret := some .int) (own := RX11) (Qc := fun sz => va_Qi post (rO D cy lay Γ) (rA cy lay Γ sz)) (by decide) rfl (Nat.le_of_ble_eq_true rfl) rfl ?_
  intro p e s m args below meth c ls hC hr hlocks hT G hl
  unfold w_X11_ofBand at h
  have hl : lv_has ls 3 [(0, .ref (lay 0)), (1, .int a1), (2, .int a2)] := hl
  refine lv_aload_n hC.1 hC.2.1 dX11_ofBand_0 rfl (lv_at hl 0 rfl) ?_
  refine lv_iconst (v := 0) hC.1 hC.2.1 dX11_ofBand_1 (by decide) ?_
  refine rg_put hC hT G (by decide) r_mo k_X11 i_X11_ofBand_X11 0 (by decide) (wm 1 rfl) rfl rfl (by simp) r_mo (by rw [up2_eq]; rfl) dX11_ofBand_2 (fun H locs G => ?_)
  refine lv_aload_n hC.1 hC.2.1 dX11_ofBand_5 rfl (lv_at hl 0 rfl) ?_
  refine lv_iload_n hC.1 hC.2.1 dX11_ofBand_6 rfl (lv_at hl 1 rfl) ?_
  refine rg_i G (rg_runV (As := [.int a1]) (rest := []) hC hT G (c_X11_isBand l D cy lay Γ h _) (cwV 1 hC.2.2.2.2 gX11_ofBand_X11_isBand rfl rfl rfl hdV_X11_isBand ⟨Nat.le_of_ble_eq_true rfl, Nat.le_of_ble_eq_true rfl⟩) (rg_recv hT G (by decide) r_mo k_X11) rfl hl.1 rfl (Nat.le_of_ble_eq_true rfl) dX11_ofBand_7 ⟨Nat.le_of_ble_eq_true rfl, Nat.le_of_ble_eq_true rfl⟩) (fun r2 σ1 H locs h G => ?_)
  (try dsimp only at h)
  refine lv_if_ne (tgt := 19) hC.1 hC.2.1 dX11_ofBand_10 (by decide) (fun c3 => ?_) (fun c3 => ?_)
  · replace h := h.2 c3
    refine lv_iload_n hC.1 hC.2.1 dX11_ofBand_19 rfl (lv_at hl 2 rfl) ?_
    refine lv_iconst (v := 0) hC.1 hC.2.1 dX11_ofBand_20 (by decide) ?_
    refine lv_bipush (v := 8) hC.1 hC.2.1 dX11_ofBand_21 (by decide) ?_
    refine rg_i G (rg_runS (As := [.int a2, .int 0, .int 8]) (rest := []) hC hT G (c_X11_is l D cy lay Γ h _) (va_cwS 3 hC.2.2.2.2 gX11_ofBand_X11_is rfl rfl rfl hdS_X11_is ⟨Nat.le_of_ble_eq_true rfl, Nat.le_of_ble_eq_true rfl⟩) rfl hl.1 rfl (Nat.le_of_ble_eq_true rfl) dX11_ofBand_23 ⟨Nat.le_of_ble_eq_true rfl, Nat.le_of_ble_eq_true rfl⟩) (fun r5 σ4 H locs h G => ?_)
    (try dsimp only at h)
    refine lv_if_eq (tgt := 38) hC.1 hC.2.1 dX11_ofBand_26 (by decide) (fun c6 => ?_) (fun c6 => ?_)
    · replace h := h.1 c6
      refine lv_aload_n hC.1 hC.2.1 dX11_ofBand_38 rfl (lv_at hl 0 rfl) ?_
      refine lv_iconst (v := 2) hC.1 hC.2.1 dX11_ofBand_39 (by decide) ?_
      refine rg_i G (rg_runV (As := [.int 2]) (rest := []) hC hT G (c_X11_refuse l D cy lay Γ h _) (cwV 1 hC.2.2.2.2 gX11_ofBand_X11_refuse rfl rfl rfl hdV_X11_refuse ⟨Nat.le_of_ble_eq_true rfl, Nat.le_of_ble_eq_true rfl⟩) (rg_recv hT G (by decide) r_mo k_X11) rfl hl.1 rfl (Nat.le_of_ble_eq_true rfl) dX11_ofBand_40 ⟨Nat.le_of_ble_eq_true rfl, Nat.le_of_ble_eq_true rfl⟩) (fun r8 σ7 H locs h G => ?_)
      (try dsimp only at h)
      exact rg_iret hC hr hlocks G h dX11_ofBand_43
    · replace h := h.2 c6
      refine lv_aload_n hC.1 hC.2.1 dX11_ofBand_29 rfl (lv_at hl 0 rfl) ?_
      refine lv_iload_n hC.1 hC.2.1 dX11_ofBand_30 rfl (lv_at hl 1 rfl) ?_
      refine lv_iload_n hC.1 hC.2.1 dX11_ofBand_31 rfl (lv_at hl 2 rfl) ?_
      refine rg_i G (rg_runV (As := [.int a1, .int a2]) (rest := []) hC hT G (c_X11_ofBandNow l D cy lay Γ h _) (cwV 2 hC.2.2.2.2 gX11_ofBand_X11_ofBandNow rfl rfl rfl hdV_X11_ofBandNow ⟨Nat.le_of_ble_eq_true rfl, Nat.le_of_ble_eq_true rfl⟩) (rg_recv hT G (by decide) r_mo k_X11) rfl hl.1 rfl (Nat.le_of_ble_eq_true rfl) dX11_ofBand_32 ⟨Nat.le_of_ble_eq_true rfl, Nat.le_of_ble_eq_true rfl⟩) (fun r10 σ9 H locs h G => ?_)
      (try dsimp only at h)
      refine lv_goto (tgt := 43) hC.1 hC.2.1 dX11_ofBand_35 (by decide) ?_
      exact rg_iret hC hr hlocks G h dX11_ofBand_43
  · replace h := h.1 c3
    refine lv_aload_n hC.1 hC.2.1 dX11_ofBand_13 rfl (lv_at hl 0 rfl) ?_
    refine lv_iconst (v := 1) hC.1 hC.2.1 dX11_ofBand_14 (by decide) ?_
    refine rg_i G (rg_runV (As := [.int 1]) (rest := []) hC hT G (c_X11_refuse l D cy lay Γ h _) (cwV 1 hC.2.2.2.2 gX11_ofBand_X11_refuse rfl rfl rfl hdV_X11_refuse ⟨Nat.le_of_ble_eq_true rfl, Nat.le_of_ble_eq_true rfl⟩) (rg_recv hT G (by decide) r_mo k_X11) rfl hl.1 rfl (Nat.le_of_ble_eq_true rfl) dX11_ofBand_15 ⟨Nat.le_of_ble_eq_true rfl, Nat.le_of_ble_eq_true rfl⟩) (fun r12 σ11 H locs h G => ?_)
    (try dsimp only at h)
    exact rg_iret hC hr hlocks G h dX11_ofBand_18
theorem hdV_X11_ofBand : yX11_ofBand.cls = RX11 ∧ yX11_ofBand.cls ≠ "java/lang/invoke/MethodHandle" ∧ yX11_ofBand.cls ≠ "java/lang/invoke/VarHandle" ∧ (parseMethodDescriptor yX11_ofBand.desc).map (fun d => d.parameters.length) = some 2 := by decide +kernel
abbrev rm_X11_ofWeddingNow : Room := { frames := 4, cells := 0, slots := 0, locals := 89 }
theorem i_X11_ofWeddingNow_X11 : ∀ w ∈ wsX110, w ∈ wsX11_ofWeddingNow := fun _ h => List.mem_cons_of_mem _ (List.mem_append_left _ (List.mem_append_left _ (List.mem_append_right _ h)))
theorem i_X11_ofWeddingNow_X10 : ∀ w ∈ wsX100, w ∈ wsX11_ofWeddingNow := fun _ h => List.mem_cons_of_mem _ (List.mem_append_left _ (List.mem_append_right _ h))
def w_X11_ofWeddingNow (Γ : RG) (post : Int32 → MS → Prop) (σ : MS) (a1 : Int32) (a2 : Int32) : Prop := w_lw_Jx4a65c_get_915e3 Γ (fun j2 σ1 => ((j2 < 14 ∧ j2 < Γ.2.2.1) ∧ ((a2 = 0 → post (σ1 (33 + j2) 0) σ1) ∧ (¬ a2 = 0 → ((a2 = 1 → post (σ1 (33 + j2) 1) σ1) ∧ (¬ a2 = 1 → ((a2 = 2 → post (σ1 (33 + j2) 2) σ1) ∧ (¬ a2 = 2 → ((a2 = 3 → post (σ1 (33 + j2) 3) σ1) ∧ (¬ a2 = 3 → ((a2 = 4 → post (σ1 (33 + j2) 4) σ1) ∧ (¬ a2 = 4 → ((a2 = 5 → post (σ1 (33 + j2) 5) σ1) ∧ (¬ a2 = 5 → ((a2 = 6 → post (σ1 (33 + j2) 7) σ1) ∧ (¬ a2 = 6 → ((a2 = 7 → post (σ1 (33 + j2) 8) σ1) ∧ (¬ a2 = 7 → ((a2 = 8 → post (σ1 (33 + j2) 9) σ1) ∧ (¬ a2 = 8 → ((a2 = 9 → post (σ1 (33 + j2) 10) σ1) ∧ (¬ a2 = 9 → ((a2 = 10 → post (σ1 (33 + j2) 11) σ1) ∧ (¬ a2 = 10 → ((a2 = 11 → w_X11_place Γ (fun r16 σ15 => post r16 σ15) σ1 a1) ∧ (¬ a2 = 11 → w_X10_quarters Γ (fun r19 σ18 => post r19 σ18) σ1 j2)))))))))))))))))))))))))) σ a1
set_option maxHeartbeats 4000000 in
set_option maxRecDepth 100000 in
theorem c_X11_ofWeddingNow (l : Launch) (D : va_G) (cy : Nat → ClassId) (lay : Nat → Nat) (Γ : RG) {σ : MS} {post : Int32 → MS → Prop} {a1 : Int32} {a2 : Int32} (h : w_X11_ofWeddingNow Γ post σ a1 a2) (sz : Nat) : Met l yX11_ofWeddingNow wsX11_ofWeddingNow rm_X11_ofWeddingNow (va_Pc [.ref (lay 0), .int a1, .int a2] (rI D cy lay Γ σ sz)) (va_Qi post (rO D cy lay Γ) (rA cy lay Γ sz)) 0 0 (rA cy lay Γ sz) := by
  refine rg_ofW (cc := cX11_ofWeddingNow) (maxL := 4) (ret := some .int) (own := RX11) (Qc := fun sz => va_Qi post (rO D cy lay Γ) (rA cy lay Γ sz)) (by decide) rfl (Nat.le_of_ble_eq_true rfl) rfl ?_
  intro p e s m args below meth c ls hC hr hlocks hT G hl
  unfold w_X11_ofWeddingNow at h
  have hl : lv_has ls 4 [(0, .ref (lay 0)), (1, .int a1), (2, .int a2)] := hl
  refine lv_aload_n hC.1 hC.2.1 dX11_ofWeddingNow_0 rfl (lv_at hl 0 rfl) ?_
  refine rg_get hC hT G (by decide) r_mo k_X11 i_X11_ofWeddingNow_X11 5 (by decide) (wm 1 rfl) rfl dX11_ofWeddingNow_1 ?_
  refine lv_iload_n hC.1 hC.2.1 dX11_ofWeddingNow_4 rfl (lv_at hl 1 rfl) ?_
  refine rg_r (f := fun i => lay (33 + i)) G (rg_runV (As := [.int a1]) (rest := []) hC hT G (c_lw_Jx4a65c_get_915e3 l D cy lay Γ h _) (cwV 1 hC.2.2.2.2 gX11_ofWeddingNow_Jx4a65c_get_915e3 rfl rfl rfl hdV_Jx4a65c_get_915e3 ⟨Nat.le_of_ble_eq_true rfl, Nat.le_of_ble_eq_true rfl⟩) (rg_recv hT G (by decide) r_lw k_AL) rfl hl.1 rfl (Nat.le_of_ble_eq_true rfl) dX11_ofWeddingNow_5 ⟨Nat.le_of_ble_eq_true rfl, Nat.le_of_ble_eq_true rfl⟩) (fun j2 σ1 H locs h G => ?_)
  (try dsimp only at h)
  obtain ⟨hj3, h⟩ := h
  refine rg_cast hC hT k_X10 (wm 2 rfl) (rg_recv hT G (rk_wd hj3) (r_wd hj3) k_X10) dX11_ofWeddingNow_8 ?_
  refine lv_astore_n (lv' := [(3, .ref (lay (33 + j2))), (0, .ref (lay 0)), (1, .int a1), (2, .int a2)]) hC.1 hC.2.1 dX11_ofWeddingNow_11 rfl hl (by decide) rfl (fun ls hl => ?_)
  refine lv_iload_n hC.1 hC.2.1 dX11_ofWeddingNow_12 rfl (lv_at hl 3 rfl) ?_
  rcases Decidable.em (a2 = 0) with c4 | c4
  · replace h := h.1 c4
    refine lv_tableIn (off := 63) (tgt := 76) hC.1 hC.2.1 dX11_ofWeddingNow_13 (by rw [c4]; decide) (by rw [c4]; decide) (by rw [c4]; rfl) (by decide) ?_
    refine lv_aload_n hC.1 hC.2.1 dX11_ofWeddingNow_76 rfl (lv_at hl 0 rfl) ?_
    refine rg_getN hC hT G (rk_wd hj3) (r_wd hj3) k_X10 i_X11_ofWeddingNow_X10 0 (by decide) 10 rfl rfl dX11_ofWeddingNow_77 ?_
    exact rg_iret hC hr hlocks G h dX11_ofWeddingNow_80
  · replace h := h.2 c4
    rcases Decidable.em (a2 = 1) with c5 | c5
    · replace h := h.1 c5
      refine lv_tableIn (off := 68) (tgt := 81) hC.1 hC.2.1 dX11_ofWeddingNow_13 (by rw [c5]; decide) (by rw [c5]; decide) (by rw [c5]; rfl) (by decide) ?_
      refine lv_aload_n hC.1 hC.2.1 dX11_ofWeddingNow_81 rfl (lv_at hl 0 rfl) ?_
      refine rg_getN hC hT G (rk_wd hj3) (r_wd hj3) k_X10 i_X11_ofWeddingNow_X10 1 (by decide) 11 rfl rfl dX11_ofWeddingNow_82 ?_
      exact rg_iret hC hr hlocks G h dX11_ofWeddingNow_85
    · replace h := h.2 c5
      rcases Decidable.em (a2 = 2) with c6 | c6
      · replace h := h.1 c6
        refine lv_tableIn (off := 73) (tgt := 86) hC.1 hC.2.1 dX11_ofWeddingNow_13 (by rw [c6]; decide) (by rw [c6]; decide) (by rw [c6]; rfl) (by decide) ?_
        refine lv_aload_n hC.1 hC.2.1 dX11_ofWeddingNow_86 rfl (lv_at hl 0 rfl) ?_
        refine rg_getN hC hT G (rk_wd hj3) (r_wd hj3) k_X10 i_X11_ofWeddingNow_X10 2 (by decide) 12 rfl rfl dX11_ofWeddingNow_87 ?_
        exact rg_iret hC hr hlocks G h dX11_ofWeddingNow_90
      · replace h := h.2 c6
        rcases Decidable.em (a2 = 3) with c7 | c7
        · replace h := h.1 c7
          refine lv_tableIn (off := 78) (tgt := 91) hC.1 hC.2.1 dX11_ofWeddingNow_13 (by rw [c7]; decide) (by rw [c7]; decide) (by rw [c7]; rfl) (by decide) ?_
          refine lv_aload_n hC.1 hC.2.1 dX11_ofWeddingNow_91 rfl (lv_at hl 0 rfl) ?_
          refine rg_getN hC hT G (rk_wd hj3) (r_wd hj3) k_X10 i_X11_ofWeddingNow_X10 3 (by decide) 13 rfl rfl dX11_ofWeddingNow_92 ?_
          exact rg_iret hC hr hlocks G h dX11_ofWeddingNow_95
        · replace h := h.2 c7
          rcases Decidable.em (a2 = 4) with c8 | c8
          · replace h := h.1 c8
            refine lv_tableIn (off := 83) (tgt := 96) hC.1 hC.2.1 dX11_ofWeddingNow_13 (by rw [c8]; decide) (by rw [c8]; decide) (by rw [c8]; rfl) (by decide) ?_
            refine lv_aload_n hC.1 hC.2.1 dX11_ofWeddingNow_96 rfl (lv_at hl 0 rfl) ?_
            refine rg_getN hC hT G (rk_wd hj3) (r_wd hj3) k_X10 i_X11_ofWeddingNow_X10 4 (by decide) 14 rfl rfl dX11_ofWeddingNow_97 ?_
            exact rg_iret hC hr hlocks G h dX11_ofWeddingNow_100
          · replace h := h.2 c8
            rcases Decidable.em (a2 = 5) with c9 | c9
            · replace h := h.1 c9
              refine lv_tableIn (off := 88) (tgt := 101) hC.1 hC.2.1 dX11_ofWeddingNow_13 (by rw [c9]; decide) (by rw [c9]; decide) (by rw [c9]; rfl) (by decide) ?_
              refine lv_aload_n hC.1 hC.2.1 dX11_ofWeddingNow_101 rfl (lv_at hl 0 rfl) ?_
              refine rg_getN hC hT G (rk_wd hj3) (r_wd hj3) k_X10 i_X11_ofWeddingNow_X10 5 (by decide) 15 rfl rfl dX11_ofWeddingNow_102 ?_
              exact rg_iret hC hr hlocks G h dX11_ofWeddingNow_105
            · replace h := h.2 c9
              rcases Decidable.em (a2 = 6) with c10 | c10
              · replace h := h.1 c10
                refine lv_tableIn (off := 93) (tgt := 106) hC.1 hC.2.1 dX11_ofWeddingNow_13 (by rw [c10]; decide) (by rw [c10]; decide) (by rw [c10]; rfl) (by decide) ?_
                refine lv_aload_n hC.1 hC.2.1 dX11_ofWeddingNow_106 rfl (lv_at hl 0 rfl) ?_
                refine rg_getN hC hT G (rk_wd hj3) (r_wd hj3) k_X10 i_X11_ofWeddingNow_X10 7 (by decide) 17 rfl rfl dX11_ofWeddingNow_107 ?_
                exact rg_iret hC hr hlocks G h dX11_ofWeddingNow_110
              · replace h := h.2 c10
                rcases Decidable.em (a2 = 7) with c11 | c11
                · replace h := h.1 c11
                  refine lv_tableIn (off := 98) (tgt := 111) hC.1 hC.2.1 dX11_ofWeddingNow_13 (by rw [c11]; decide) (by rw [c11]; decide) (by rw [c11]; rfl) (by decide) ?_
                  refine lv_aload_n hC.1 hC.2.1 dX11_ofWeddingNow_111 rfl (lv_at hl 0 rfl) ?_
                  refine rg_getN hC hT G (rk_wd hj3) (r_wd hj3) k_X10 i_X11_ofWeddingNow_X10 8 (by decide) 18 rfl rfl dX11_ofWeddingNow_112 ?_
                  exact rg_iret hC hr hlocks G h dX11_ofWeddingNow_115
                · replace h := h.2 c11
                  rcases Decidable.em (a2 = 8) with c12 | c12
                  · replace h := h.1 c12
                    refine lv_tableIn (off := 103) (tgt := 116) hC.1 hC.2.1 dX11_ofWeddingNow_13 (by rw [c12]; decide) (by rw [c12]; decide) (by rw [c12]; rfl) (by decide) ?_
                    refine lv_aload_n hC.1 hC.2.1 dX11_ofWeddingNow_116 rfl (lv_at hl 0 rfl) ?_
                    refine rg_getN hC hT G (rk_wd hj3) (r_wd hj3) k_X10 i_X11_ofWeddingNow_X10 9 (by decide) 19 rfl rfl dX11_ofWeddingNow_117 ?_
                    exact rg_iret hC hr hlocks G h dX11_ofWeddingNow_120
                  · replace h := h.2 c12
                    rcases Decidable.em (a2 = 9) with c13 | c13
                    · replace h := h.1 c13
                      refine lv_tableIn (off := 108) (tgt := 121) hC.1 hC.2.1 dX11_ofWeddingNow_13 (by rw [c13]; decide) (by rw [c13]; decide) (by rw [c13]; rfl) (by decide) ?_
                      refine lv_aload_n hC.1 hC.2.1 dX11_ofWeddingNow_121 rfl (lv_at hl 0 rfl) ?_
                      refine rg_getN hC hT G (rk_wd hj3) (r_wd hj3) k_X10 i_X11_ofWeddingNow_X10 10 (by decide) 20 rfl rfl dX11_ofWeddingNow_122 ?_
                      exact rg_iret hC hr hlocks G h dX11_ofWeddingNow_125
                    · replace h := h.2 c13
                      rcases Decidable.em (a2 = 10) with c14 | c14
                      · replace h := h.1 c14
                        refine lv_tableIn (off := 113) (tgt := 126) hC.1 hC.2.1 dX11_ofWeddingNow_13 (by rw [c14]; decide) (by rw [c14]; decide) (by rw [c14]; rfl) (by decide) ?_
                        refine lv_aload_n hC.1 hC.2.1 dX11_ofWeddingNow_126 rfl (lv_at hl 0 rfl) ?_
                        refine rg_getN hC hT G (rk_wd hj3) (r_wd hj3) k_X10 i_X11_ofWeddingNow_X10 11 (by decide) 21 rfl rfl dX11_ofWeddingNow_127 ?_
                        exact rg_iret hC hr hlocks G h dX11_ofWeddingNow_130
                      · replace h := h.2 c14
                        rcases Decidable.em (a2 = 11) with c17 | c17
                        · replace h := h.1 c17
                          refine lv_tableIn (off := 118) (tgt := 131) hC.1 hC.2.1 dX11_ofWeddingNow_13 (by rw [c17]; decide) (by rw [c17]; decide) (by rw [c17]; rfl) (by decide) ?_
                          refine lv_aload_n hC.1 hC.2.1 dX11_ofWeddingNow_131 rfl (lv_at hl 1 rfl) ?_
                          refine lv_iload_n hC.1 hC.2.1 dX11_ofWeddingNow_132 rfl (lv_at hl 2 rfl) ?_
                          refine rg_i G (rg_runV (As := [.int a1]) (rest := []) hC hT G (c_X11_place l D cy lay Γ h _) (cwV 1 hC.2.2.2.2 gX11_ofWeddingNow_X11_place rfl rfl rfl hdV_X11_place ⟨Nat.le_of_ble_eq_true rfl, Nat.le_of_ble_eq_true rfl⟩) (rg_recv hT G (by decide) r_mo k_X11) rfl hl.1 rfl (Nat.le_of_ble_eq_true rfl) dX11_ofWeddingNow_133 ⟨Nat.le_of_ble_eq_true rfl, Nat.le_of_ble_eq_true rfl⟩) (fun r16 σ15 H locs h G => ?_)
                          (try dsimp only at h)
                          exact rg_iret hC hr hlocks G h dX11_ofWeddingNow_136
                        · replace h := h.2 c17
                          refine lv_tableOut (tgt := 137) hC.1 hC.2.1 dX11_ofWeddingNow_13 (tsw_out 12 rfl (by decide) (fun k hk => by rcases (show k = 0 ∨ k = 1 ∨ k = 2 ∨ k = 3 ∨ k = 4 ∨ k = 5 ∨ k = 6 ∨ k = 7 ∨ k = 8 ∨ k = 9 ∨ k = 10 ∨ k = 11 by omega) with rfl | rfl | rfl | rfl | rfl | rfl | rfl | rfl | rfl | rfl | rfl | rfl <;> assumption)) (by decide) ?_
                          refine lv_aload_n hC.1 hC.2.1 dX11_ofWeddingNow_137 rfl (lv_at hl 0 rfl) ?_
                          refine rg_i G (rg_runV (As := []) (rest := []) hC hT G (c_X10_quarters l D cy lay Γ h hj3 _) (cwV 0 hC.2.2.2.2 gX11_ofWeddingNow_X10_quarters rfl rfl rfl hdV_X10_quarters ⟨Nat.le_of_ble_eq_true rfl, Nat.le_of_ble_eq_true rfl⟩) (rg_recv hT G (rk_wd hj3) (r_wd hj3) k_X10) rfl hl.1 rfl (Nat.le_of_ble_eq_true rfl) dX11_ofWeddingNow_138 ⟨Nat.le_of_ble_eq_true rfl, Nat.le_of_ble_eq_true rfl⟩) (fun r19 σ18 H locs h G => ?_)
                          (try dsimp only at h)
                          exact rg_iret hC hr hlocks G h dX11_ofWeddingNow_141
theorem hdV_X11_ofWeddingNow : yX11_ofWeddingNow.cls = RX11 ∧ yX11_ofWeddingNow.cls ≠ "java/lang/invoke/MethodHandle" ∧ yX11_ofWeddingNow.cls ≠ "java/lang/invoke/VarHandle" ∧ (parseMethodDescriptor yX11_ofWeddingNow.desc).map (fun d => d.parameters.length) = some 2 := by decide +kernel
abbrev rm_X11_ofWedding : Room := { frames := 5, cells := 0, slots := 0, locals := 112 }
theorem i_X11_ofWedding_X11 : ∀ w ∈ wsX110, w ∈ wsX11_ofWedding := fun _ h => List.mem_cons_of_mem _ (List.mem_append_left _ (List.mem_append_left _ (List.mem_append_right _ h)))
def w_X11_ofWedding (Γ : RG) (post : Int32 → MS → Prop) (σ : MS) (a1 : Int32) (a2 : Int32) : Prop := w_X11_isWedding Γ (fun r2 σ1 => ((r2 = 0 → w_X11_refuse Γ (fun r12 σ11 => post r12 σ11) σ1 1) ∧ (¬ r2 = 0 → w_X11_is Γ (fun r5 σ4 => ((r5 = 0 → w_X11_refuse Γ (fun r8 σ7 => post r8 σ7) σ4 2) ∧ (¬ r5 = 0 → w_X11_ofWeddingNow Γ (fun r10 σ9 => post r10 σ9) σ4 a1 a2))) σ1 a2 0 12))) (up2 σ 0 0 0) a1
set_option maxHeartbeats 4000000 in
set_option maxRecDepth 100000 in
theorem c_X11_ofWedding (l : Launch) (D : va_G) (cy : Nat → ClassId) (lay : Nat → Nat) (Γ : RG) {σ : MS} {post : Int32 → MS → Prop} {a1 : Int32} {a2 : Int32} (h : w_X11_ofWedding Γ post σ a1 a2) (sz : Nat) : Met l yX11_ofWedding wsX11_ofWedding rm_X11_ofWedding (va_Pc [.ref (lay 0), .int a1, .int a2] (rI D cy lay Γ σ sz)) (va_Qi post (rO D cy lay Γ) (rA cy lay Γ sz)) 0 0 (rA cy lay Γ sz) := by
  refine rg_ofW (cc := cX11_ofWedding) (maxL := 3) (ret := some .int) (own := RX11) (Qc := fun sz => va_Qi post (rO D cy lay Γ) (rA cy lay Γ sz)) (by decide) rfl (Nat.le_of_ble_eq_true rfl) rfl ?_
  intro p e s m args below meth c ls hC hr hlocks hT G hl
  unfold w_X11_ofWedding at h
  have hl : lv_has ls 3 [(0, .ref (lay 0)), (1, .int a1), (2, .int a2)] := hl
  refine lv_aload_n hC.1 hC.2.1 dX11_ofWedding_0 rfl (lv_at hl 0 rfl) ?_
  refine lv_iconst (v := 0) hC.1 hC.2.1 dX11_ofWedding_1 (by decide) ?_
  refine rg_put hC hT G (by decide) r_mo k_X11 i_X11_ofWedding_X11 0 (by decide) (wm 1 rfl) rfl rfl (by simp) r_mo (by rw [up2_eq]; rfl) dX11_ofWedding_2 (fun H locs G => ?_)
  refine lv_aload_n hC.1 hC.2.1 dX11_ofWedding_5 rfl (lv_at hl 0 rfl) ?_
  refine lv_iload_n hC.1 hC.2.1 dX11_ofWedding_6 rfl (lv_at hl 1 rfl) ?_
  refine rg_i G (rg_runV (As := [.int a1]) (rest := []) hC hT G (c_X11_isWedding l D cy lay Γ h _) (cwV 1 hC.2.2.2.2 gX11_ofWedding_X11_isWedding rfl rfl rfl hdV_X11_isWedding ⟨Nat.le_of_ble_eq_true rfl, Nat.le_of_ble_eq_true rfl⟩) (rg_recv hT G (by decide) r_mo k_X11) rfl hl.1 rfl (Nat.le_of_ble_eq_true rfl) dX11_ofWedding_7 ⟨Nat.le_of_ble_eq_true rfl, Nat.le_of_ble_eq_true rfl⟩) (fun r2 σ1 H locs h G => ?_)
  (try dsimp only at h)
  refine lv_if_ne (tgt := 19) hC.1 hC.2.1 dX11_ofWedding_10 (by decide) (fun c3 => ?_) (fun c3 => ?_)
  · replace h := h.2 c3
    refine lv_iload_n hC.1 hC.2.1 dX11_ofWedding_19 rfl (lv_at hl 2 rfl) ?_
    refine lv_iconst (v := 0) hC.1 hC.2.1 dX11_ofWedding_20 (by decide) ?_
    refine lv_bipush (v := 12) hC.1 hC.2.1 dX11_ofWedding_21 (by decide) ?_
    refine rg_i G (rg_runS (As := [.int a2, .int 0, .int 12]) (rest := []) hC hT G (c_X11_is l D cy lay Γ h _) (va_cwS 3 hC.2.2.2.2 gX11_ofWedding_X11_is rfl rfl rfl hdS_X11_is ⟨Nat.le_of_ble_eq_true rfl, Nat.le_of_ble_eq_true rfl⟩) rfl hl.1 rfl (Nat.le_of_ble_eq_true rfl) dX11_ofWedding_23 ⟨Nat.le_of_ble_eq_true rfl, Nat.le_of_ble_eq_true rfl⟩) (fun r5 σ4 H locs h G => ?_)
    (try dsimp only at h)
    refine lv_if_eq (tgt := 38) hC.1 hC.2.1 dX11_ofWedding_26 (by decide) (fun c6 => ?_) (fun c6 => ?_)
    · replace h := h.1 c6
      refine lv_aload_n hC.1 hC.2.1 dX11_ofWedding_38 rfl (lv_at hl 0 rfl) ?_
      refine lv_iconst (v := 2) hC.1 hC.2.1 dX11_ofWedding_39 (by decide) ?_
      refine rg_i G (rg_runV (As := [.int 2]) (rest := []) hC hT G (c_X11_refuse l D cy lay Γ h _) (cwV 1 hC.2.2.2.2 gX11_ofWedding_X11_refuse rfl rfl rfl hdV_X11_refuse ⟨Nat.le_of_ble_eq_true rfl, Nat.le_of_ble_eq_true rfl⟩) (rg_recv hT G (by decide) r_mo k_X11) rfl hl.1 rfl (Nat.le_of_ble_eq_true rfl) dX11_ofWedding_40 ⟨Nat.le_of_ble_eq_true rfl, Nat.le_of_ble_eq_true rfl⟩) (fun r8 σ7 H locs h G => ?_)
      (try dsimp only at h)
      exact rg_iret hC hr hlocks G h dX11_ofWedding_43
    · replace h := h.2 c6
      refine lv_aload_n hC.1 hC.2.1 dX11_ofWedding_29 rfl (lv_at hl 0 rfl) ?_
      refine lv_iload_n hC.1 hC.2.1 dX11_ofWedding_30 rfl (lv_at hl 1 rfl) ?_
      refine lv_iload_n hC.1 hC.2.1 dX11_ofWedding_31 rfl (lv_at hl 2 rfl) ?_
      refine rg_i G (rg_runV (As := [.int a1, .int a2]) (rest := []) hC hT G (c_X11_ofWeddingNow l D cy lay Γ h _) (cwV 2 hC.2.2.2.2 gX11_ofWedding_X11_ofWeddingNow rfl rfl rfl hdV_X11_ofWeddingNow ⟨Nat.le_of_ble_eq_true rfl, Nat.le_of_ble_eq_true rfl⟩) (rg_recv hT G (by decide) r_mo k_X11) rfl hl.1 rfl (Nat.le_of_ble_eq_true rfl) dX11_ofWedding_32 ⟨Nat.le_of_ble_eq_true rfl, Nat.le_of_ble_eq_true rfl⟩) (fun r10 σ9 H locs h G => ?_)
      (try dsimp only at h)
      refine lv_goto (tgt := 43) hC.1 hC.2.1 dX11_ofWedding_35 (by decide) ?_
      exact rg_iret hC hr hlocks G h dX11_ofWedding_43
  · replace h := h.1 c3
    refine lv_aload_n hC.1 hC.2.1 dX11_ofWedding_13 rfl (lv_at hl 0 rfl) ?_
    refine lv_iconst (v := 1) hC.1 hC.2.1 dX11_ofWedding_14 (by decide) ?_
    refine rg_i G (rg_runV (As := [.int 1]) (rest := []) hC hT G (c_X11_refuse l D cy lay Γ h _) (cwV 1 hC.2.2.2.2 gX11_ofWedding_X11_refuse rfl rfl rfl hdV_X11_refuse ⟨Nat.le_of_ble_eq_true rfl, Nat.le_of_ble_eq_true rfl⟩) (rg_recv hT G (by decide) r_mo k_X11) rfl hl.1 rfl (Nat.le_of_ble_eq_true rfl) dX11_ofWedding_15 ⟨Nat.le_of_ble_eq_true rfl, Nat.le_of_ble_eq_true rfl⟩) (fun r12 σ11 H locs h G => ?_)
    (try dsimp only at h)
    exact rg_iret hC hr hlocks G h dX11_ofWedding_18
theorem hdV_X11_ofWedding : yX11_ofWedding.cls = RX11 ∧ yX11_ofWedding.cls ≠ "java/lang/invoke/MethodHandle" ∧ yX11_ofWedding.cls ≠ "java/lang/invoke/VarHandle" ∧ (parseMethodDescriptor yX11_ofWedding.desc).map (fun d => d.parameters.length) = some 2 := by decide +kernel
