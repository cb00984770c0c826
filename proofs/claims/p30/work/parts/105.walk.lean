abbrev rm_X7_isFixedOneSound : Room := { frames := 1, cells := 0, slots := 0, locals := 20 }
theorem i_X7_isFixedOneSound_X7 : ∀ w ∈ wsX70, w ∈ wsX7_isFixedOneSound := fun _ h => List.mem_cons_of_mem _ (List.mem_append_left _ (List.mem_append_left _ (List.mem_append_right _ h)))
theorem i_X7_isFixedOneSound_X6 : ∀ w ∈ wsX60, w ∈ wsX7_isFixedOneSound := fun _ h => List.mem_cons_of_mem _ (List.mem_append_left _ (List.mem_append_right _ h))
theorem i_X7_isFixedOneSound_X0 : ∀ w ∈ wsX00, w ∈ wsX7_isFixedOneSound := fun _ h => List.mem_cons_of_mem _ (List.mem_append_right _ h)
def u_X7_isFixedOneSound_33 (post : Int32 → MS → Prop) (a1 : Int32) : Nat → MS → Nat → Int32 → Prop
  | 0, _, _, _ => False
  | n + 1, σ, v2, v3 => ((a1 ≤ v3 → post 1 σ) ∧ (¬ a1 ≤ v3 → (vp_in v3 14 ∧ (((σ (73 + (Int32.toNatClampNeg v3)) 7) = 1 → (((σ (73 + (Int32.toNatClampNeg v3)) 0) = (σ (73 + v2) 0) → (((σ (73 + (Int32.toNatClampNeg v3)) 1) = (σ (73 + v2) 1) → post 0 σ) ∧ (¬ (σ (73 + (Int32.toNatClampNeg v3)) 1) = (σ (73 + v2) 1) → u_X7_isFixedOneSound_33 post a1 n σ v2 (v3 + 1)))) ∧ (¬ (σ (73 + (Int32.toNatClampNeg v3)) 0) = (σ (73 + v2) 0) → u_X7_isFixedOneSound_33 post a1 n σ v2 (v3 + 1)))) ∧ (¬ (σ (73 + (Int32.toNatClampNeg v3)) 7) = 1 → u_X7_isFixedOneSound_33 post a1 n σ v2 (v3 + 1))))))
set_option maxHeartbeats 4000000 in
set_option maxRecDepth 100000 in
theorem l_X7_isFixedOneSound_33 {p : Program} {l : Launch} {e : Env} {s : State} {m : MethodId} {args : Array Value} {below : List Frame} {meth : Method} {c : Code} {D : va_G} {cy : Nat → ClassId} {lay : Nat → Nat} {post : Int32 → MS → Prop} (a1 : Int32) (hC : CallFix p m c cX7_isFixedOneSound 5 s args wsX7_isFixedOneSound RX7) (hr : meth.sig.returnType = some .boolean) (hlocks : meth.locks = false) (hT : agT D cy lay s) : ∀ (n : Nat), ∀ (σ : MS) (v2 : Nat) (v3 : Int32), u_X7_isFixedOneSound_33 post a1 n σ v2 v3 → ∀ (hv2 : v2 < 14), ∀ (H : Heap) (locs : List Loc) (ls : Array Slot), agG D cy lay σ (agA lay s.heap.size) s.heap H locs → lv_has ls 5 [(0, .ref (lay 0)), (1, .int a1), (2, .ref (lay (73 + v2))), (3, .int v3)] → W p l e rm_X7_isFixedOneSound s m args below meth c H locs 0 0 (MQ below (va_Qi post (agO D cy lay) (agA lay s.heap.size)) args s 0 0 (agA lay s.heap.size)) (F0 m 33 ls []) := by
  intro n
  induction n with
  | zero =>
    intro σ v2 v3 h
    exact h.elim
  | succ n ih =>
    intro σ v2 v3 h hv2 H locs ls G hl
    rw [u_X7_isFixedOneSound_33] at h
    refine lv_iload_n hC.1 hC.2.1 dX7_isFixedOneSound_33 rfl (lv_at hl 3 rfl) ?_
    refine lv_iload_n hC.1 hC.2.1 dX7_isFixedOneSound_34 rfl (lv_at hl 1 rfl) ?_
    refine lv_icmp_ge (tgt := 87) hC.1 hC.2.1 dX7_isFixedOneSound_35 (by decide) (fun c6 => ?_) (fun c6 => ?_)
    · replace h := h.1 c6
      refine lv_iconst (v := 1) hC.1 hC.2.1 dX7_isFixedOneSound_87 (by decide) ?_
      exact ag_zret hC hr hlocks G rfl h dX7_isFixedOneSound_88
    · replace h := h.2 c6
      refine lv_aload_n hC.1 hC.2.1 dX7_isFixedOneSound_38 rfl (lv_at hl 0 rfl) ?_
      refine ag_get hC hT G (by decide) e_ag k_X7 i_X7_isFixedOneSound_X7 3 (by decide) (wm 1 rfl) rfl dX7_isFixedOneSound_39 ?_
      refine lv_iload_n hC.1 hC.2.1 dX7_isFixedOneSound_42 rfl (lv_at hl 3 rfl) ?_
      obtain ⟨hn7, h⟩ := h
      refine ag_aald hC hT G (by decide) _ rfl e_wds hn7 dX7_isFixedOneSound_43 ?_
      refine lv_astore (lv' := [(4, .ref (lay (73 + (Int32.toNatClampNeg v3)))), (0, .ref (lay 0)), (1, .int a1), (2, .ref (lay (73 + v2))), (3, .int v3)]) hC.1 hC.2.1 dX7_isFixedOneSound_44 hl (by decide) rfl (fun ls hl => ?_)
      refine lv_aload hC.1 hC.2.1 dX7_isFixedOneSound_46 (lv_at hl 0 rfl) ?_
      refine ag_get hC hT G (k_wd (vlt hn7)) (e_wd (vlt hn7)) k_X6 i_X7_isFixedOneSound_X6 7 (by decide) (wm 6 rfl) rfl dX7_isFixedOneSound_48 ?_
      refine lv_iconst (v := 1) hC.1 hC.2.1 dX7_isFixedOneSound_51 (by decide) ?_
      refine lv_icmp_ne (tgt := 81) hC.1 hC.2.1 dX7_isFixedOneSound_52 (by decide) (fun c8 => ?_) (fun c8 => ?_)
      · replace h := h.2 c8
        refine lv_iinc (v := v3 + 1) (lv' := [(3, .int (v3 + 1)), (4, .ref (lay (73 + (Int32.toNatClampNeg v3)))), (0, .ref (lay 0)), (1, .int a1), (2, .ref (lay (73 + v2)))]) hC.1 hC.2.1 dX7_isFixedOneSound_81 hl (k := 4) rfl rfl (by decide) rfl (fun ls hl => ?_)
        refine lv_goto (tgt := 33) hC.1 hC.2.1 dX7_isFixedOneSound_84 (by decide) ?_
        exact ih _ _ _ h hv2 _ _ _ G (lv_sub hl [2, 3, 4, 0] rfl)
      · replace h := h.1 c8
        refine lv_aload hC.1 hC.2.1 dX7_isFixedOneSound_55 (lv_at hl 0 rfl) ?_
        refine ag_get hC hT G (k_wd (vlt hn7)) (e_wd (vlt hn7)) k_X6 i_X7_isFixedOneSound_X6 0 (by decide) (wm 4 rfl) rfl dX7_isFixedOneSound_57 ?_
        refine lv_aload_n hC.1 hC.2.1 dX7_isFixedOneSound_60 rfl (lv_at hl 3 rfl) ?_
        refine ag_get hC hT G (k_wd hv2) (e_wd hv2) k_X6 i_X7_isFixedOneSound_X6 0 (by decide) (wm 4 rfl) rfl dX7_isFixedOneSound_61 ?_
        refine lv_icmp_ne (tgt := 81) hC.1 hC.2.1 dX7_isFixedOneSound_64 (by decide) (fun c9 => ?_) (fun c9 => ?_)
        · replace h := h.2 c9
          refine lv_iinc (v := v3 + 1) (lv' := [(3, .int (v3 + 1)), (4, .ref (lay (73 + (Int32.toNatClampNeg v3)))), (0, .ref (lay 0)), (1, .int a1), (2, .ref (lay (73 + v2)))]) hC.1 hC.2.1 dX7_isFixedOneSound_81 hl (k := 4) rfl rfl (by decide) rfl (fun ls hl => ?_)
          refine lv_goto (tgt := 33) hC.1 hC.2.1 dX7_isFixedOneSound_84 (by decide) ?_
          exact ih _ _ _ h hv2 _ _ _ G (lv_sub hl [2, 3, 4, 0] rfl)
        · replace h := h.1 c9
          refine lv_aload hC.1 hC.2.1 dX7_isFixedOneSound_67 (lv_at hl 0 rfl) ?_
          refine ag_get hC hT G (k_wd (vlt hn7)) (e_wd (vlt hn7)) k_X6 i_X7_isFixedOneSound_X6 1 (by decide) (wm 7 rfl) rfl dX7_isFixedOneSound_69 ?_
          refine lv_aload_n hC.1 hC.2.1 dX7_isFixedOneSound_72 rfl (lv_at hl 3 rfl) ?_
          refine ag_get hC hT G (k_wd hv2) (e_wd hv2) k_X6 i_X7_isFixedOneSound_X6 1 (by decide) (wm 7 rfl) rfl dX7_isFixedOneSound_73 ?_
          refine lv_icmp_ne (tgt := 81) hC.1 hC.2.1 dX7_isFixedOneSound_76 (by decide) (fun c10 => ?_) (fun c10 => ?_)
          · replace h := h.2 c10
            refine lv_iinc (v := v3 + 1) (lv' := [(3, .int (v3 + 1)), (4, .ref (lay (73 + (Int32.toNatClampNeg v3)))), (0, .ref (lay 0)), (1, .int a1), (2, .ref (lay (73 + v2)))]) hC.1 hC.2.1 dX7_isFixedOneSound_81 hl (k := 4) rfl rfl (by decide) rfl (fun ls hl => ?_)
            refine lv_goto (tgt := 33) hC.1 hC.2.1 dX7_isFixedOneSound_84 (by decide) ?_
            exact ih _ _ _ h hv2 _ _ _ G (lv_sub hl [2, 3, 4, 0] rfl)
          · replace h := h.1 c10
            refine lv_iconst (v := 0) hC.1 hC.2.1 dX7_isFixedOneSound_79 (by decide) ?_
            exact ag_zret hC hr hlocks G rfl h dX7_isFixedOneSound_80
def w_X7_isFixedOneSound (post : Int32 → MS → Prop) (σ : MS) (a1 : Int32) : Prop := (vp_in a1 14 ∧ w_J6_bitCount_0f7a4 (fun r3 σ2 => (vp_in (σ2 (73 + (Int32.toNatClampNeg a1)) 0) 6 ∧ ((r3 = (σ2 (55 + (Int32.toNatClampNeg (σ2 (73 + (Int32.toNatClampNeg a1)) 0))) 2) → (∃ k, u_X7_isFixedOneSound_33 post a1 k σ2 (Int32.toNatClampNeg a1) 0)) ∧ (¬ r3 = (σ2 (55 + (Int32.toNatClampNeg (σ2 (73 + (Int32.toNatClampNeg a1)) 0))) 2) → post 0 σ2)))) σ (σ (73 + (Int32.toNatClampNeg a1)) 8))
set_option maxHeartbeats 4000000 in
set_option maxRecDepth 100000 in
theorem c_X7_isFixedOneSound (l : Launch) (D : va_G) (cy : Nat → ClassId) (lay : Nat → Nat) {σ : MS} {post : Int32 → MS → Prop} {a1 : Int32} (h : w_X7_isFixedOneSound post σ a1) (sz : Nat) : Met l yX7_isFixedOneSound wsX7_isFixedOneSound rm_X7_isFixedOneSound (va_Pc [.ref (lay 0), .int a1] (agI D cy lay σ sz)) (va_Qi post (agO D cy lay) (agA lay sz)) 0 0 (agA lay sz) := by
  refine ag_ofW (cc := cX7_isFixedOneSound) (maxL := 5) (ret := some .boolean) (own := RX7) (Qc := fun sz => va_Qi post (agO D cy lay) (agA lay sz)) (by decide) rfl (Nat.le_of_ble_eq_true rfl) rfl ?_
  intro p e s m args below meth c ls hC hr hlocks hT G hl
  unfold w_X7_isFixedOneSound at h
  have hl : lv_has ls 5 [(0, .ref (lay 0)), (1, .int a1)] := hl
  refine lv_aload_n hC.1 hC.2.1 dX7_isFixedOneSound_0 rfl (lv_at hl 0 rfl) ?_
  refine ag_get hC hT G (by decide) e_ag k_X7 i_X7_isFixedOneSound_X7 3 (by decide) (wm 1 rfl) rfl dX7_isFixedOneSound_1 ?_
  refine lv_iload_n hC.1 hC.2.1 dX7_isFixedOneSound_4 rfl (lv_at hl 1 rfl) ?_
  obtain ⟨hn1, h⟩ := h
  refine ag_aald hC hT G (by decide) _ rfl e_wds hn1 dX7_isFixedOneSound_5 ?_
  refine lv_astore_n (lv' := [(2, .ref (lay (73 + (Int32.toNatClampNeg a1)))), (0, .ref (lay 0)), (1, .int a1)]) hC.1 hC.2.1 dX7_isFixedOneSound_6 rfl hl (by decide) rfl (fun ls hl => ?_)
  refine lv_aload_n hC.1 hC.2.1 dX7_isFixedOneSound_7 rfl (lv_at hl 0 rfl) ?_
  refine ag_get hC hT G (k_wd (vlt hn1)) (e_wd (vlt hn1)) k_X6 i_X7_isFixedOneSound_X6 8 (by decide) (wm 2 rfl) rfl dX7_isFixedOneSound_8 ?_
  refine ag_i G (ag_runS (As := [.int (σ (73 + (Int32.toNatClampNeg a1)) 8)]) (rest := []) hC hT G (c_J6_bitCount_0f7a4 l D cy lay h _) (va_cwS 1 hC.2.2.2.2 gX7_isFixedOneSound_J6_bitCount_0f7a4 rfl rfl rfl hdS_J6_bitCount_0f7a4 ⟨Nat.le_of_ble_eq_true rfl, Nat.le_of_ble_eq_true rfl⟩) rfl hl.1 rfl (Nat.le_of_ble_eq_true rfl) dX7_isFixedOneSound_11 ⟨Nat.le_of_ble_eq_true rfl, Nat.le_of_ble_eq_true rfl⟩) (fun r3 σ2 H locs h G => ?_)
  (try dsimp only at h)
  refine lv_aload_n hC.1 hC.2.1 dX7_isFixedOneSound_14 rfl (lv_at hl 1 rfl) ?_
  refine ag_get hC hT G (by decide) e_ag k_X7 i_X7_isFixedOneSound_X7 2 (by decide) (wm 3 rfl) rfl dX7_isFixedOneSound_15 ?_
  refine lv_aload_n hC.1 hC.2.1 dX7_isFixedOneSound_18 rfl (lv_at hl 0 rfl) ?_
  refine ag_get hC hT G (k_wd (vlt hn1)) (e_wd (vlt hn1)) k_X6 i_X7_isFixedOneSound_X6 0 (by decide) (wm 4 rfl) rfl dX7_isFixedOneSound_19 ?_
  obtain ⟨hn4, h⟩ := h
  refine ag_aald hC hT G (by decide) _ rfl e_bds hn4 dX7_isFixedOneSound_22 ?_
  refine ag_get hC hT G (k_bd (vlt hn4)) (e_bd (vlt hn4)) k_X0 i_X7_isFixedOneSound_X0 2 (by decide) (wm 5 rfl) rfl dX7_isFixedOneSound_23 ?_
  refine lv_icmp_eq (tgt := 31) hC.1 hC.2.1 dX7_isFixedOneSound_26 (by decide) (fun c5 => ?_) (fun c5 => ?_)
  · replace h := h.1 c5
    refine lv_iconst (v := 0) hC.1 hC.2.1 dX7_isFixedOneSound_31 (by decide) ?_
    refine lv_istore_n (lv' := [(3, .int 0), (2, .ref (lay (73 + (Int32.toNatClampNeg a1)))), (0, .ref (lay 0)), (1, .int a1)]) hC.1 hC.2.1 dX7_isFixedOneSound_32 rfl hl (by decide) rfl (fun ls hl => ?_)
    obtain ⟨n1, h⟩ := h
    exact l_X7_isFixedOneSound_33 a1 hC hr hlocks hT n1 _ _ _ h (vlt hn1) _ _ _ G (lv_sub hl [2, 3, 1, 0] rfl)
  · replace h := h.2 c5
    refine lv_iconst (v := 0) hC.1 hC.2.1 dX7_isFixedOneSound_29 (by decide) ?_
    exact ag_zret hC hr hlocks G rfl h dX7_isFixedOneSound_30
theorem hdV_X7_isFixedOneSound : yX7_isFixedOneSound.cls = RX7 ∧ yX7_isFixedOneSound.cls ≠ "java/lang/invoke/MethodHandle" ∧ yX7_isFixedOneSound.cls ≠ "java/lang/invoke/VarHandle" ∧ (parseMethodDescriptor yX7_isFixedOneSound.desc).map (fun d => d.parameters.length) = some 1 := by decide +kernel
abbrev rm_X7_areFixedOnesSound : Room := { frames := 2, cells := 0, slots := 0, locals := 44 }
theorem i_X7_areFixedOnesSound_X7 : ∀ w ∈ wsX70, w ∈ wsX7_areFixedOnesSound := fun _ h => List.mem_cons_of_mem _ (List.mem_append_left _ (List.mem_append_left _ (List.mem_append_right _ h)))
theorem i_X7_areFixedOnesSound_X6 : ∀ w ∈ wsX60, w ∈ wsX7_areFixedOnesSound := fun _ h => List.mem_cons_of_mem _ (List.mem_append_left _ (List.mem_append_right _ h))
def u_X7_areFixedOnesSound_2 (post : Int32 → MS → Prop) : Nat → MS → Int32 → Prop
  | 0, _, _ => False
  | n + 1, σ, v1 => (((σ 0 8) ≤ v1 → post 1 σ) ∧ (¬ (σ 0 8) ≤ v1 → (vp_in v1 14 ∧ (((σ (73 + (Int32.toNatClampNeg v1)) 7) = 1 → w_X7_isFixedOneSound (fun r5 σ4 => ((r5 = 0 → post 0 σ4) ∧ (¬ r5 = 0 → u_X7_areFixedOnesSound_2 post n σ4 (v1 + 1)))) σ v1) ∧ (¬ (σ (73 + (Int32.toNatClampNeg v1)) 7) = 1 → u_X7_areFixedOnesSound_2 post n σ (v1 + 1))))))
set_option maxHeartbeats 4000000 in
set_option maxRecDepth 100000 in
theorem l_X7_areFixedOnesSound_2 {p : Program} {l : Launch} {e : Env} {s : State} {m : MethodId} {args : Array Value} {below : List Frame} {meth : Method} {c : Code} {D : va_G} {cy : Nat → ClassId} {lay : Nat → Nat} {post : Int32 → MS → Prop} (hC : CallFix p m c cX7_areFixedOnesSound 2 s args wsX7_areFixedOnesSound RX7) (hr : meth.sig.returnType = some .boolean) (hlocks : meth.locks = false) (hT : agT D cy lay s) : ∀ (n : Nat), ∀ (σ : MS) (v1 : Int32), u_X7_areFixedOnesSound_2 post n σ v1 → ∀ (H : Heap) (locs : List Loc) (ls : Array Slot), agG D cy lay σ (agA lay s.heap.size) s.heap H locs → lv_has ls 2 [(0, .ref (lay 0)), (1, .int v1)] → W p l e rm_X7_areFixedOnesSound s m args below meth c H locs 0 0 (MQ below (va_Qi post (agO D cy lay) (agA lay s.heap.size)) args s 0 0 (agA lay s.heap.size)) (F0 m 2 ls []) := by
  intro n
  induction n with
  | zero =>
    intro σ v1 h
    exact h.elim
  | succ n ih =>
    intro σ v1 h H locs ls G hl
    rw [u_X7_areFixedOnesSound_2] at h
    refine lv_iload_n hC.1 hC.2.1 dX7_areFixedOnesSound_2 rfl (lv_at hl 1 rfl) ?_
    refine lv_aload_n hC.1 hC.2.1 dX7_areFixedOnesSound_3 rfl (lv_at hl 0 rfl) ?_
    refine ag_get hC hT G (by decide) e_ag k_X7 i_X7_areFixedOnesSound_X7 8 (by decide) (wm 1 rfl) rfl dX7_areFixedOnesSound_4 ?_
    refine lv_icmp_ge (tgt := 39) hC.1 hC.2.1 dX7_areFixedOnesSound_7 (by decide) (fun c1 => ?_) (fun c1 => ?_)
    · replace h := h.1 c1
      refine lv_iconst (v := 1) hC.1 hC.2.1 dX7_areFixedOnesSound_39 (by decide) ?_
      exact ag_zret hC hr hlocks G rfl h dX7_areFixedOnesSound_40
    · replace h := h.2 c1
      refine lv_aload_n hC.1 hC.2.1 dX7_areFixedOnesSound_10 rfl (lv_at hl 0 rfl) ?_
      refine ag_get hC hT G (by decide) e_ag k_X7 i_X7_areFixedOnesSound_X7 3 (by decide) (wm 2 rfl) rfl dX7_areFixedOnesSound_11 ?_
      refine lv_iload_n hC.1 hC.2.1 dX7_areFixedOnesSound_14 rfl (lv_at hl 1 rfl) ?_
      obtain ⟨hn2, h⟩ := h
      refine ag_aald hC hT G (by decide) _ rfl e_wds hn2 dX7_areFixedOnesSound_15 ?_
      refine ag_get hC hT G (k_wd (vlt hn2)) (e_wd (vlt hn2)) k_X6 i_X7_areFixedOnesSound_X6 7 (by decide) (wm 3 rfl) rfl dX7_areFixedOnesSound_16 ?_
      refine lv_iconst (v := 1) hC.1 hC.2.1 dX7_areFixedOnesSound_19 (by decide) ?_
      refine lv_icmp_ne (tgt := 33) hC.1 hC.2.1 dX7_areFixedOnesSound_20 (by decide) (fun c3 => ?_) (fun c3 => ?_)
      · replace h := h.2 c3
        refine lv_iinc (v := v1 + 1) (lv' := [(1, .int (v1 + 1)), (0, .ref (lay 0))]) hC.1 hC.2.1 dX7_areFixedOnesSound_33 hl (k := 1) rfl rfl (by decide) rfl (fun ls hl => ?_)
        refine lv_goto (tgt := 2) hC.1 hC.2.1 dX7_areFixedOnesSound_36 (by decide) ?_
        exact ih _ _ h _ _ _ G (lv_sub hl [1, 0] rfl)
      · replace h := h.1 c3
        refine lv_aload_n hC.1 hC.2.1 dX7_areFixedOnesSound_23 rfl (lv_at hl 0 rfl) ?_
        refine lv_iload_n hC.1 hC.2.1 dX7_areFixedOnesSound_24 rfl (lv_at hl 1 rfl) ?_
        refine ag_i G (ag_runV (As := [.int v1]) (rest := []) hC hT G (c_X7_isFixedOneSound l D cy lay h _) (cwV 1 hC.2.2.2.2 gX7_areFixedOnesSound_X7_isFixedOneSound rfl rfl rfl hdV_X7_isFixedOneSound ⟨Nat.le_of_ble_eq_true rfl, Nat.le_of_ble_eq_true rfl⟩) (ag_recv hT G (by decide) e_ag k_X7) rfl hl.1 rfl (Nat.le_of_ble_eq_true rfl) dX7_areFixedOnesSound_25 ⟨Nat.le_of_ble_eq_true rfl, Nat.le_of_ble_eq_true rfl⟩) (fun r5 σ4 H locs h G => ?_)
        (try dsimp only at h)
        refine lv_if_ne (tgt := 33) hC.1 hC.2.1 dX7_areFixedOnesSound_28 (by decide) (fun c6 => ?_) (fun c6 => ?_)
        · replace h := h.2 c6
          refine lv_iinc (v := v1 + 1) (lv' := [(1, .int (v1 + 1)), (0, .ref (lay 0))]) hC.1 hC.2.1 dX7_areFixedOnesSound_33 hl (k := 1) rfl rfl (by decide) rfl (fun ls hl => ?_)
          refine lv_goto (tgt := 2) hC.1 hC.2.1 dX7_areFixedOnesSound_36 (by decide) ?_
          exact ih _ _ h _ _ _ G (lv_sub hl [1, 0] rfl)
        · replace h := h.1 c6
          refine lv_iconst (v := 0) hC.1 hC.2.1 dX7_areFixedOnesSound_31 (by decide) ?_
          exact ag_zret hC hr hlocks G rfl h dX7_areFixedOnesSound_32
def w_X7_areFixedOnesSound (post : Int32 → MS → Prop) (σ : MS) : Prop := (∃ k, u_X7_areFixedOnesSound_2 post k σ 0)
set_option maxHeartbeats 4000000 in
set_option maxRecDepth 100000 in
theorem c_X7_areFixedOnesSound (l : Launch) (D : va_G) (cy : Nat → ClassId) (lay : Nat → Nat) {σ : MS} {post : Int32 → MS → Prop} (h : w_X7_areFixedOnesSound post σ) (sz : Nat) : Met l yX7_areFixedOnesSound wsX7_areFixedOnesSound rm_X7_areFixedOnesSound (va_Pc [.ref (lay 0)] (agI D cy lay σ sz)) (va_Qi post (agO D cy lay) (agA lay sz)) 0 0 (agA lay sz) := by
  refine ag_ofW (cc := cX7_areFixedOnesSound) (maxL := 2) (ret := some .boolean) (own := RX7) (Qc := fun sz => va_Qi post (agO D cy lay) (agA lay sz)) (by decide) rfl (Nat.le_of_ble_eq_true rfl) rfl ?_
  intro p e s m args below meth c ls hC hr hlocks hT G hl
  unfold w_X7_areFixedOnesSound at h
  have hl : lv_has ls 2 [(0, .ref (lay 0))] := hl
  refine lv_iconst (v := 0) hC.1 hC.2.1 dX7_areFixedOnesSound_0 (by decide) ?_
  refine lv_istore_n (lv' := [(1, .int 0), (0, .ref (lay 0))]) hC.1 hC.2.1 dX7_areFixedOnesSound_1 rfl hl (by decide) rfl (fun ls hl => ?_)
  obtain ⟨n1, h⟩ := h
  exact l_X7_areFixedOnesSound_2 hC hr hlocks hT n1 _ _ h _ _ _ G (lv_sub hl [1, 0] rfl)
theorem hdV_X7_areFixedOnesSound : yX7_areFixedOnesSound.cls = RX7 ∧ yX7_areFixedOnesSound.cls ≠ "java/lang/invoke/MethodHandle" ∧ yX7_areFixedOnesSound.cls ≠ "java/lang/invoke/VarHandle" ∧ (parseMethodDescriptor yX7_areFixedOnesSound.desc).map (fun d => d.parameters.length) = some 0 := by decide +kernel
abbrev rm_X7_isCashSound : Room := { frames := 1, cells := 0, slots := 0, locals := 22 }
theorem i_X7_isCashSound_X7 : ∀ w ∈ wsX70, w ∈ wsX7_isCashSound := fun _ h => List.mem_cons_of_mem _ (List.mem_append_left _ (List.mem_append_left _ (List.mem_append_right _ h)))
theorem i_X7_isCashSound_X6 : ∀ w ∈ wsX60, w ∈ wsX7_isCashSound := fun _ h => List.mem_cons_of_mem _ (List.mem_append_left _ (List.mem_append_right _ h))
def u_X7_isCashSound_4 (post : Int32 → MS → Prop) : Nat → MS → Int32 → Int32 → Prop
  | 0, _, _, _ => False
  | n + 1, σ, v1, v2 => (((σ 0 8) ≤ v2 → w_X7_allEarned (fun r3 σ2 => (((σ 0 10) = (v1 - r3) → post 1 σ2) ∧ (¬ (σ 0 10) = (v1 - r3) → post 0 σ2))) σ) ∧ (¬ (σ 0 8) ≤ v2 → (vp_in v2 14 ∧ u_X7_isCashSound_4 post n σ (v1 + (σ (73 + (Int32.toNatClampNeg v2)) 11)) (v2 + 1))))
set_option maxHeartbeats 4000000 in
set_option maxRecDepth 100000 in
theorem l_X7_isCashSound_4 {p : Program} {l : Launch} {e : Env} {s : State} {m : MethodId} {args : Array Value} {below : List Frame} {meth : Method} {c : Code} {D : va_G} {cy : Nat → ClassId} {lay : Nat → Nat} {post : Int32 → MS → Prop} (hC : CallFix p m c cX7_isCashSound 3 s args wsX7_isCashSound RX7) (hr : meth.sig.returnType = some .boolean) (hlocks : meth.locks = false) (hT : agT D cy lay s) : ∀ (n : Nat), ∀ (σ : MS) (v1 : Int32) (v2 : Int32), u_X7_isCashSound_4 post n σ v1 v2 → ∀ (H : Heap) (locs : List Loc) (ls : Array Slot), agG D cy lay σ (agA lay s.heap.size) s.heap H locs → lv_has ls 3 [(0, .ref (lay 0)), (1, .int v1), (2, .int v2)] → W p l e rm_X7_isCashSound s m args below meth c H locs 0 0 (MQ below (va_Qi post (agO D cy lay) (agA lay s.heap.size)) args s 0 0 (agA lay s.heap.size)) (F0 m 4 ls []) := by
  intro n
  induction n with
  | zero =>
    intro σ v1 v2 h
    exact h.elim
  | succ n ih =>
    intro σ v1 v2 h H locs ls G hl
    rw [u_X7_isCashSound_4] at h
    refine lv_iload_n hC.1 hC.2.1 dX7_isCashSound_4 rfl (lv_at hl 2 rfl) ?_
    refine lv_aload_n hC.1 hC.2.1 dX7_isCashSound_5 rfl (lv_at hl 0 rfl) ?_
    refine ag_get hC hT G (by decide) e_ag k_X7 i_X7_isCashSound_X7 8 (by decide) (wm 1 rfl) rfl dX7_isCashSound_6 ?_
    refine lv_icmp_ge (tgt := 30) hC.1 hC.2.1 dX7_isCashSound_9 (by decide) (fun c1 => ?_) (fun c1 => ?_)
    · replace h := h.1 c1
      refine lv_aload_n hC.1 hC.2.1 dX7_isCashSound_30 rfl (lv_at hl 0 rfl) ?_
      refine ag_get hC hT G (by decide) e_ag k_X7 i_X7_isCashSound_X7 10 (by decide) (wm 4 rfl) rfl dX7_isCashSound_31 ?_
      refine lv_iload_n hC.1 hC.2.1 dX7_isCashSound_34 rfl (lv_at hl 1 rfl) ?_
      refine lv_aload_n hC.1 hC.2.1 dX7_isCashSound_35 rfl (lv_at hl 0 rfl) ?_
      refine ag_i G (ag_runV (As := []) (rest := [.int v1, .int (σ 0 10)]) hC hT G (c_X7_allEarned l D cy lay h _) (cwV 0 hC.2.2.2.2 gX7_isCashSound_X7_allEarned rfl rfl rfl hdV_X7_allEarned ⟨Nat.le_of_ble_eq_true rfl, Nat.le_of_ble_eq_true rfl⟩) (ag_recv hT G (by decide) e_ag k_X7) rfl hl.1 rfl (Nat.le_of_ble_eq_true rfl) dX7_isCashSound_36 ⟨Nat.le_of_ble_eq_true rfl, Nat.le_of_ble_eq_true rfl⟩) (fun r3 σ2 H locs h G => ?_)
      (try dsimp only at h)
      refine lv_isub hC.1 hC.2.1 dX7_isCashSound_39 ?_
      refine lv_icmp_ne (tgt := 47) hC.1 hC.2.1 dX7_isCashSound_40 (by decide) (fun c4 => ?_) (fun c4 => ?_)
      · replace h := h.2 c4
        refine lv_iconst (v := 0) hC.1 hC.2.1 dX7_isCashSound_47 (by decide) ?_
        exact ag_zret hC hr hlocks G rfl h dX7_isCashSound_48
      · replace h := h.1 c4
        refine lv_iconst (v := 1) hC.1 hC.2.1 dX7_isCashSound_43 (by decide) ?_
        refine lv_goto (tgt := 48) hC.1 hC.2.1 dX7_isCashSound_44 (by decide) ?_
        exact ag_zret hC hr hlocks G rfl h dX7_isCashSound_48
    · replace h := h.2 c1
      refine lv_iload_n hC.1 hC.2.1 dX7_isCashSound_12 rfl (lv_at hl 1 rfl) ?_
      refine lv_aload_n hC.1 hC.2.1 dX7_isCashSound_13 rfl (lv_at hl 0 rfl) ?_
      refine ag_get hC hT G (by decide) e_ag k_X7 i_X7_isCashSound_X7 3 (by decide) (wm 2 rfl) rfl dX7_isCashSound_14 ?_
      refine lv_iload_n hC.1 hC.2.1 dX7_isCashSound_17 rfl (lv_at hl 2 rfl) ?_
      obtain ⟨hn5, h⟩ := h
      refine ag_aald hC hT G (by decide) _ rfl e_wds hn5 dX7_isCashSound_18 ?_
      refine ag_get hC hT G (k_wd (vlt hn5)) (e_wd (vlt hn5)) k_X6 i_X7_isCashSound_X6 11 (by decide) (wm 3 rfl) rfl dX7_isCashSound_19 ?_
      refine lv_iadd hC.1 hC.2.1 dX7_isCashSound_22 ?_
      refine lv_istore_n (lv' := [(1, .int (v1 + (σ (73 + (Int32.toNatClampNeg v2)) 11))), (0, .ref (lay 0)), (2, .int v2)]) hC.1 hC.2.1 dX7_isCashSound_23 rfl hl (by decide) rfl (fun ls hl => ?_)
      refine lv_iinc (v := v2 + 1) (lv' := [(2, .int (v2 + 1)), (1, .int (v1 + (σ (73 + (Int32.toNatClampNeg v2)) 11))), (0, .ref (lay 0))]) hC.1 hC.2.1 dX7_isCashSound_24 hl (k := 2) rfl rfl (by decide) rfl (fun ls hl => ?_)
      refine lv_goto (tgt := 4) hC.1 hC.2.1 dX7_isCashSound_27 (by decide) ?_
      exact ih _ _ _ h _ _ _ G (lv_sub hl [2, 1, 0] rfl)
def w_X7_isCashSound (post : Int32 → MS → Prop) (σ : MS) : Prop := (∃ k, u_X7_isCashSound_4 post k σ 0 0)
set_option maxHeartbeats 4000000 in
set_option maxRecDepth 100000 in
theorem c_X7_isCashSound (l : Launch) (D : va_G) (cy : Nat → ClassId) (lay : Nat → Nat) {σ : MS} {post : Int32 → MS → Prop} (h : w_X7_isCashSound post σ) (sz : Nat) : Met l yX7_isCashSound wsX7_isCashSound rm_X7_isCashSound (va_Pc [.ref (lay 0)] (agI D cy lay σ sz)) (va_Qi post (agO D cy lay) (agA lay sz)) 0 0 (agA lay sz) := by
  refine ag_ofW (cc := cX7_isCashSound) (maxL := 3) (ret := some .boolean) (own := RX7) (Qc := fun sz => va_Qi post (agO D cy lay) (agA lay sz)) (by decide) rfl (Nat.le_of_ble_eq_true rfl) rfl ?_
  intro p e s m args below meth c ls hC hr hlocks hT G hl
  unfold w_X7_isCashSound at h
  have hl : lv_has ls 3 [(0, .ref (lay 0))] := hl
  refine lv_iconst (v := 0) hC.1 hC.2.1 dX7_isCashSound_0 (by decide) ?_
  refine lv_istore_n (lv' := [(1, .int 0), (0, .ref (lay 0))]) hC.1 hC.2.1 dX7_isCashSound_1 rfl hl (by decide) rfl (fun ls hl => ?_)
  refine lv_iconst (v := 0) hC.1 hC.2.1 dX7_isCashSound_2 (by decide) ?_
  refine lv_istore_n (lv' := [(2, .int 0), (1, .int 0), (0, .ref (lay 0))]) hC.1 hC.2.1 dX7_isCashSound_3 rfl hl (by decide) rfl (fun ls hl => ?_)
  obtain ⟨n1, h⟩ := h
  exact l_X7_isCashSound_4 hC hr hlocks hT n1 _ _ _ h _ _ _ G (lv_sub hl [2, 1, 0] rfl)
theorem hdV_X7_isCashSound : yX7_isCashSound.cls = RX7 ∧ yX7_isCashSound.cls ≠ "java/lang/invoke/MethodHandle" ∧ yX7_isCashSound.cls ≠ "java/lang/invoke/VarHandle" ∧ (parseMethodDescriptor yX7_isCashSound.desc).map (fun d => d.parameters.length) = some 0 := by decide +kernel
abbrev rm_X7_areHoursSound : Room := { frames := 1, cells := 0, slots := 0, locals := 20 }
theorem i_X7_areHoursSound_X7 : ∀ w ∈ wsX70, w ∈ wsX7_areHoursSound := fun _ h => List.mem_cons_of_mem _ (List.mem_append_left _ (List.mem_append_left _ (List.mem_append_right _ h)))
theorem i_X7_areHoursSound_X6 : ∀ w ∈ wsX60, w ∈ wsX7_areHoursSound := fun _ h => List.mem_cons_of_mem _ (List.mem_append_right _ h)
theorem i_X7_areHoursSound_X3 : ∀ w ∈ wsX30, w ∈ wsX7_areHoursSound := fun _ h => List.mem_cons_of_mem _ (List.mem_append_left _ (List.mem_append_right _ h))
def u_X7_areHoursSound_32 (post : Int32 → MS → Prop) : Nat → MS → Int32 → Int32 → Prop
  | 0, _, _, _ => False
  | n + 1, σ, v1, v2 => (((σ 0 8) ≤ v2 → ((v1 = 0 → post 1 σ) ∧ (¬ v1 = 0 → post 0 σ))) ∧ (¬ (σ 0 8) ≤ v2 → (vp_in v2 14 ∧ (((σ (73 + (Int32.toNatClampNeg v2)) 7) = 2 → (vp_in v2 14 ∧ (vp_in v2 14 ∧ w_J6_bitCount_0f7a4 (fun r9 σ8 => u_X7_areHoursSound_32 post n σ8 (v1 - ((σ (73 + (Int32.toNatClampNeg v2)) 4) * r9)) (v2 + 1)) σ (σ (73 + (Int32.toNatClampNeg v2)) 8)))) ∧ (¬ (σ (73 + (Int32.toNatClampNeg v2)) 7) = 2 → u_X7_areHoursSound_32 post n σ v1 (v2 + 1))))))
set_option maxHeartbeats 4000000 in
set_option maxRecDepth 100000 in
theorem l_X7_areHoursSound_32 {p : Program} {l : Launch} {e : Env} {s : State} {m : MethodId} {args : Array Value} {below : List Frame} {meth : Method} {c : Code} {D : va_G} {cy : Nat → ClassId} {lay : Nat → Nat} {post : Int32 → MS → Prop} (hC : CallFix p m c cX7_areHoursSound 3 s args wsX7_areHoursSound RX7) (hr : meth.sig.returnType = some .boolean) (hlocks : meth.locks = false) (hT : agT D cy lay s) : ∀ (n : Nat), ∀ (σ : MS) (v1 : Int32) (v2 : Int32), u_X7_areHoursSound_32 post n σ v1 v2 → ∀ (H : Heap) (locs : List Loc) (ls : Array Slot), agG D cy lay σ (agA lay s.heap.size) s.heap H locs → lv_has ls 3 [(0, .ref (lay 0)), (1, .int v1), (2, .int v2)] → W p l e rm_X7_areHoursSound s m args below meth c H locs 0 0 (MQ below (va_Qi post (agO D cy lay) (agA lay s.heap.size)) args s 0 0 (agA lay s.heap.size)) (F0 m 32 ls []) := by
  intro n
  induction n with
  | zero =>
    intro σ v1 v2 h
    exact h.elim
  | succ n ih =>
    intro σ v1 v2 h H locs ls G hl
    rw [u_X7_areHoursSound_32] at h
    refine lv_iload_n hC.1 hC.2.1 dX7_areHoursSound_32 rfl (lv_at hl 2 rfl) ?_
    refine lv_aload_n hC.1 hC.2.1 dX7_areHoursSound_33 rfl (lv_at hl 0 rfl) ?_
    refine ag_get hC hT G (by decide) e_ag k_X7 i_X7_areHoursSound_X7 8 (by decide) (wm 4 rfl) rfl dX7_areHoursSound_34 ?_
    refine lv_icmp_ge (tgt := 84) hC.1 hC.2.1 dX7_areHoursSound_37 (by decide) (fun c2 => ?_) (fun c2 => ?_)
    · replace h := h.1 c2
      refine lv_iload_n hC.1 hC.2.1 dX7_areHoursSound_84 rfl (lv_at hl 1 rfl) ?_
      refine lv_if_ne (tgt := 92) hC.1 hC.2.1 dX7_areHoursSound_85 (by decide) (fun c3 => ?_) (fun c3 => ?_)
      · replace h := h.2 c3
        refine lv_iconst (v := 0) hC.1 hC.2.1 dX7_areHoursSound_92 (by decide) ?_
        exact ag_zret hC hr hlocks G rfl h dX7_areHoursSound_93
      · replace h := h.1 c3
        refine lv_iconst (v := 1) hC.1 hC.2.1 dX7_areHoursSound_88 (by decide) ?_
        refine lv_goto (tgt := 93) hC.1 hC.2.1 dX7_areHoursSound_89 (by decide) ?_
        exact ag_zret hC hr hlocks G rfl h dX7_areHoursSound_93
    · replace h := h.2 c2
      refine lv_aload_n hC.1 hC.2.1 dX7_areHoursSound_40 rfl (lv_at hl 0 rfl) ?_
      refine ag_get hC hT G (by decide) e_ag k_X7 i_X7_areHoursSound_X7 3 (by decide) (wm 5 rfl) rfl dX7_areHoursSound_41 ?_
      refine lv_iload_n hC.1 hC.2.1 dX7_areHoursSound_44 rfl (lv_at hl 2 rfl) ?_
      obtain ⟨hn4, h⟩ := h
      refine ag_aald hC hT G (by decide) _ rfl e_wds hn4 dX7_areHoursSound_45 ?_
      refine ag_get hC hT G (k_wd (vlt hn4)) (e_wd (vlt hn4)) k_X6 i_X7_areHoursSound_X6 7 (by decide) (wm 6 rfl) rfl dX7_areHoursSound_46 ?_
      refine lv_iconst (v := 2) hC.1 hC.2.1 dX7_areHoursSound_49 (by decide) ?_
      refine lv_icmp_ne (tgt := 78) hC.1 hC.2.1 dX7_areHoursSound_50 (by decide) (fun c5 => ?_) (fun c5 => ?_)
      · replace h := h.2 c5
        refine lv_iinc (v := v2 + 1) (lv' := [(2, .int (v2 + 1)), (0, .ref (lay 0)), (1, .int v1)]) hC.1 hC.2.1 dX7_areHoursSound_78 hl (k := 2) rfl rfl (by decide) rfl (fun ls hl => ?_)
        refine lv_goto (tgt := 32) hC.1 hC.2.1 dX7_areHoursSound_81 (by decide) ?_
        exact ih _ _ _ h _ _ _ G (lv_sub hl [1, 2, 0] rfl)
      · replace h := h.1 c5
        refine lv_iload_n hC.1 hC.2.1 dX7_areHoursSound_53 rfl (lv_at hl 1 rfl) ?_
        refine lv_aload_n hC.1 hC.2.1 dX7_areHoursSound_54 rfl (lv_at hl 0 rfl) ?_
        refine ag_get hC hT G (by decide) e_ag k_X7 i_X7_areHoursSound_X7 3 (by decide) (wm 5 rfl) rfl dX7_areHoursSound_55 ?_
        refine lv_iload_n hC.1 hC.2.1 dX7_areHoursSound_58 rfl (lv_at hl 2 rfl) ?_
        obtain ⟨hn6, h⟩ := h
        refine ag_aald hC hT G (by decide) _ rfl e_wds hn6 dX7_areHoursSound_59 ?_
        refine ag_get hC hT G (k_wd (vlt hn6)) (e_wd (vlt hn6)) k_X6 i_X7_areHoursSound_X6 4 (by decide) (wm 7 rfl) rfl dX7_areHoursSound_60 ?_
        refine lv_aload_n hC.1 hC.2.1 dX7_areHoursSound_63 rfl (lv_at hl 0 rfl) ?_
        refine ag_get hC hT G (by decide) e_ag k_X7 i_X7_areHoursSound_X7 3 (by decide) (wm 5 rfl) rfl dX7_areHoursSound_64 ?_
        refine lv_iload_n hC.1 hC.2.1 dX7_areHoursSound_67 rfl (lv_at hl 2 rfl) ?_
        obtain ⟨hn7, h⟩ := h
        refine ag_aald hC hT G (by decide) _ rfl e_wds hn7 dX7_areHoursSound_68 ?_
        refine ag_get hC hT G (k_wd (vlt hn7)) (e_wd (vlt hn7)) k_X6 i_X7_areHoursSound_X6 8 (by decide) (wm 8 rfl) rfl dX7_areHoursSound_69 ?_
        refine ag_i G (ag_runS (As := [.int (σ (73 + (Int32.toNatClampNeg v2)) 8)]) (rest := [.int (σ (73 + (Int32.toNatClampNeg v2)) 4), .int v1]) hC hT G (c_J6_bitCount_0f7a4 l D cy lay h _) (va_cwS 1 hC.2.2.2.2 gX7_areHoursSound_J6_bitCount_0f7a4 rfl rfl rfl hdS_J6_bitCount_0f7a4 ⟨Nat.le_of_ble_eq_true rfl, Nat.le_of_ble_eq_true rfl⟩) rfl hl.1 rfl (Nat.le_of_ble_eq_true rfl) dX7_areHoursSound_72 ⟨Nat.le_of_ble_eq_true rfl, Nat.le_of_ble_eq_true rfl⟩) (fun r9 σ8 H locs h G => ?_)
        (try dsimp only at h)
        refine lv_imul hC.1 hC.2.1 dX7_areHoursSound_75 ?_
        refine lv_isub hC.1 hC.2.1 dX7_areHoursSound_76 ?_
        refine lv_istore_n (lv' := [(1, .int (v1 - ((σ (73 + (Int32.toNatClampNeg v2)) 4) * r9))), (0, .ref (lay 0)), (2, .int v2)]) hC.1 hC.2.1 dX7_areHoursSound_77 rfl hl (by decide) rfl (fun ls hl => ?_)
        refine lv_iinc (v := v2 + 1) (lv' := [(2, .int (v2 + 1)), (1, .int (v1 - ((σ (73 + (Int32.toNatClampNeg v2)) 4) * r9))), (0, .ref (lay 0))]) hC.1 hC.2.1 dX7_areHoursSound_78 hl (k := 2) rfl rfl (by decide) rfl (fun ls hl => ?_)
        refine lv_goto (tgt := 32) hC.1 hC.2.1 dX7_areHoursSound_81 (by decide) ?_
        exact ih _ _ _ h _ _ _ G (lv_sub hl [2, 1, 0] rfl)
def u_X7_areHoursSound_4 (post : Int32 → MS → Prop) : Nat → MS → Int32 → Int32 → Prop
  | 0, _, _, _ => False
  | n + 1, σ, v1, v2 => (((σ 0 6) ≤ v2 → (∃ k, u_X7_areHoursSound_32 post k σ v1 0)) ∧ (¬ (σ 0 6) ≤ v2 → (vp_in v2 10 ∧ u_X7_areHoursSound_4 post n σ (v1 + (σ (29 + (Int32.toNatClampNeg v2)) 7)) (v2 + 1))))
set_option maxHeartbeats 4000000 in
set_option maxRecDepth 100000 in
theorem l_X7_areHoursSound_4 {p : Program} {l : Launch} {e : Env} {s : State} {m : MethodId} {args : Array Value} {below : List Frame} {meth : Method} {c : Code} {D : va_G} {cy : Nat → ClassId} {lay : Nat → Nat} {post : Int32 → MS → Prop} (hC : CallFix p m c cX7_areHoursSound 3 s args wsX7_areHoursSound RX7) (hr : meth.sig.returnType = some .boolean) (hlocks : meth.locks = false) (hT : agT D cy lay s) : ∀ (n : Nat), ∀ (σ : MS) (v1 : Int32) (v2 : Int32), u_X7_areHoursSound_4 post n σ v1 v2 → ∀ (H : Heap) (locs : List Loc) (ls : Array Slot), agG D cy lay σ (agA lay s.heap.size) s.heap H locs → lv_has ls 3 [(0, .ref (lay 0)), (1, .int v1), (2, .int v2)] → W p l e rm_X7_areHoursSound s m args below meth c H locs 0 0 (MQ below (va_Qi post (agO D cy lay) (agA lay s.heap.size)) args s 0 0 (agA lay s.heap.size)) (F0 m 4 ls []) := by
  intro n
  induction n with
  | zero =>
    intro σ v1 v2 h
    exact h.elim
  | succ n ih =>
    intro σ v1 v2 h H locs ls G hl
    rw [u_X7_areHoursSound_4] at h
    refine lv_iload_n hC.1 hC.2.1 dX7_areHoursSound_4 rfl (lv_at hl 2 rfl) ?_
    refine lv_aload_n hC.1 hC.2.1 dX7_areHoursSound_5 rfl (lv_at hl 0 rfl) ?_
    refine ag_get hC hT G (by decide) e_ag k_X7 i_X7_areHoursSound_X7 6 (by decide) (wm 1 rfl) rfl dX7_areHoursSound_6 ?_
    refine lv_icmp_ge (tgt := 30) hC.1 hC.2.1 dX7_areHoursSound_9 (by decide) (fun c1 => ?_) (fun c1 => ?_)
    · replace h := h.1 c1
      refine lv_iconst (v := 0) hC.1 hC.2.1 dX7_areHoursSound_30 (by decide) ?_
      refine lv_istore_n (lv' := [(2, .int 0), (0, .ref (lay 0)), (1, .int v1)]) hC.1 hC.2.1 dX7_areHoursSound_31 rfl hl (by decide) rfl (fun ls hl => ?_)
      obtain ⟨n1, h⟩ := h
      exact l_X7_areHoursSound_32 hC hr hlocks hT n1 _ _ _ h _ _ _ G (lv_sub hl [1, 2, 0] rfl)
    · replace h := h.2 c1
      refine lv_iload_n hC.1 hC.2.1 dX7_areHoursSound_12 rfl (lv_at hl 1 rfl) ?_
      refine lv_aload_n hC.1 hC.2.1 dX7_areHoursSound_13 rfl (lv_at hl 0 rfl) ?_
      refine ag_get hC hT G (by decide) e_ag k_X7 i_X7_areHoursSound_X7 0 (by decide) (wm 2 rfl) rfl dX7_areHoursSound_14 ?_
      refine lv_iload_n hC.1 hC.2.1 dX7_areHoursSound_17 rfl (lv_at hl 2 rfl) ?_
      obtain ⟨hn10, h⟩ := h
      refine ag_aald hC hT G (by decide) _ rfl e_pls hn10 dX7_areHoursSound_18 ?_
      refine ag_get hC hT G (k_pl (vlt hn10)) (e_pl (vlt hn10)) k_X3 i_X7_areHoursSound_X3 7 (by decide) (wm 3 rfl) rfl dX7_areHoursSound_19 ?_
      refine lv_iadd hC.1 hC.2.1 dX7_areHoursSound_22 ?_
      refine lv_istore_n (lv' := [(1, .int (v1 + (σ (29 + (Int32.toNatClampNeg v2)) 7))), (0, .ref (lay 0)), (2, .int v2)]) hC.1 hC.2.1 dX7_areHoursSound_23 rfl hl (by decide) rfl (fun ls hl => ?_)
      refine lv_iinc (v := v2 + 1) (lv' := [(2, .int (v2 + 1)), (1, .int (v1 + (σ (29 + (Int32.toNatClampNeg v2)) 7))), (0, .ref (lay 0))]) hC.1 hC.2.1 dX7_areHoursSound_24 hl (k := 2) rfl rfl (by decide) rfl (fun ls hl => ?_)
      refine lv_goto (tgt := 4) hC.1 hC.2.1 dX7_areHoursSound_27 (by decide) ?_
      exact ih _ _ _ h _ _ _ G (lv_sub hl [2, 1, 0] rfl)
def w_X7_areHoursSound (post : Int32 → MS → Prop) (σ : MS) : Prop := (∃ k, u_X7_areHoursSound_4 post k σ 0 0)
set_option maxHeartbeats 4000000 in
set_option maxRecDepth 100000 in
theorem c_X7_areHoursSound (l : Launch) (D : va_G) (cy : Nat → ClassId) (lay : Nat → Nat) {σ : MS} {post : Int32 → MS → Prop} (h : w_X7_areHoursSound post σ) (sz : Nat) : Met l yX7_areHoursSound wsX7_areHoursSound rm_X7_areHoursSound (va_Pc [.ref (lay 0)] (agI D cy lay σ sz)) (va_Qi post (agO D cy lay) (agA lay sz)) 0 0 (agA lay sz) := by
  refine ag_ofW (cc := cX7_areHoursSound) (maxL := 3) (ret := some .boolean) (own := RX7) (Qc := fun sz => va_Qi post (agO D cy lay) (agA lay sz)) (by decide) rfl (Nat.le_of_ble_eq_true rfl) rfl ?_
  intro p e s m args below meth c ls hC hr hlocks hT G hl
  unfold w_X7_areHoursSound at h
  have hl : lv_has ls 3 [(0, .ref (lay 0))] := hl
  refine lv_iconst (v := 0) hC.1 hC.2.1 dX7_areHoursSound_0 (by decide) ?_
  refine lv_istore_n (lv' := [(1, .int 0), (0, .ref (lay 0))]) hC.1 hC.2.1 dX7_areHoursSound_1 rfl hl (by decide) rfl (fun ls hl => ?_)
  refine lv_iconst (v := 0) hC.1 hC.2.1 dX7_areHoursSound_2 (by decide) ?_
  refine lv_istore_n (lv' := [(2, .int 0), (1, .int 0), (0, .ref (lay 0))]) hC.1 hC.2.1 dX7_areHoursSound_3 rfl hl (by decide) rfl (fun ls hl => ?_)
  obtain ⟨n1, h⟩ := h
  exact l_X7_areHoursSound_4 hC hr hlocks hT n1 _ _ _ h _ _ _ G (lv_sub hl [2, 1, 0] rfl)
theorem hdV_X7_areHoursSound : yX7_areHoursSound.cls = RX7 ∧ yX7_areHoursSound.cls ≠ "java/lang/invoke/MethodHandle" ∧ yX7_areHoursSound.cls ≠ "java/lang/invoke/VarHandle" ∧ (parseMethodDescriptor yX7_areHoursSound.desc).map (fun d => d.parameters.length) = some 0 := by decide +kernel
abbrev rm_X7_areSharesSound : Room := { frames := 1, cells := 0, slots := 0, locals := 23 }
theorem i_X7_areSharesSound_X7 : ∀ w ∈ wsX70, w ∈ wsX7_areSharesSound := fun _ h => List.mem_cons_of_mem _ (List.mem_append_left _ (List.mem_append_right _ h))
def u_X7_areSharesSound_4 (post : Int32 → MS → Prop) : Nat → MS → Int32 → Int32 → Prop
  | 0, _, _, _ => False
  | n + 1, σ, v1, v2 => ((16 ≤ v2 → ((1000 < v1 → post 0 σ) ∧ (¬ 1000 < v1 → post 1 σ))) ∧ (¬ 16 ≤ v2 → (vp_in v2 16 ∧ w_X7_shareOf (fun r5 σ4 => u_X7_areSharesSound_4 post n σ4 (v1 + r5) (v2 + 1)) σ (Int32.toNatClampNeg v2))))
set_option maxHeartbeats 4000000 in
set_option maxRecDepth 100000 in
theorem l_X7_areSharesSound_4 {p : Program} {l : Launch} {e : Env} {s : State} {m : MethodId} {args : Array Value} {below : List Frame} {meth : Method} {c : Code} {D : va_G} {cy : Nat → ClassId} {lay : Nat → Nat} {post : Int32 → MS → Prop} (hC : CallFix p m c cX7_areSharesSound 3 s args wsX7_areSharesSound RX7) (hr : meth.sig.returnType = some .boolean) (hlocks : meth.locks = false) (hT : agT D cy lay s) : ∀ (n : Nat), ∀ (σ : MS) (v1 : Int32) (v2 : Int32), u_X7_areSharesSound_4 post n σ v1 v2 → ∀ (H : Heap) (locs : List Loc) (ls : Array Slot), agG D cy lay σ (agA lay s.heap.size) s.heap H locs → lv_has ls 3 [(0, .ref (lay 0)), (1, .int v1), (2, .int v2)] → W p l e rm_X7_areSharesSound s m args below meth c H locs 0 0 (MQ below (va_Qi post (agO D cy lay) (agA lay s.heap.size)) args s 0 0 (agA lay s.heap.size)) (F0 m 4 ls []) := by
  intro n
  induction n with
  | zero =>
    intro σ v1 v2 h
    exact h.elim
  | succ n ih =>
    intro σ v1 v2 h H locs ls G hl
    rw [u_X7_areSharesSound_4] at h
    refine lv_iload_n hC.1 hC.2.1 dX7_areSharesSound_4 rfl (lv_at hl 2 rfl) ?_
    refine lv_bipush (v := 16) hC.1 hC.2.1 dX7_areSharesSound_5 (by decide) ?_
    refine lv_icmp_ge (tgt := 29) hC.1 hC.2.1 dX7_areSharesSound_7 (by decide) (fun c1 => ?_) (fun c1 => ?_)
    · replace h := h.1 c1
      refine lv_iload_n hC.1 hC.2.1 dX7_areSharesSound_29 rfl (lv_at hl 1 rfl) ?_
      refine lv_sipush (v := 1000) hC.1 hC.2.1 dX7_areSharesSound_30 (by decide) ?_
      refine lv_icmp_gt (tgt := 40) hC.1 hC.2.1 dX7_areSharesSound_33 (by decide) (fun c2 => ?_) (fun c2 => ?_)
      · replace h := h.1 c2
        refine lv_iconst (v := 0) hC.1 hC.2.1 dX7_areSharesSound_40 (by decide) ?_
        exact ag_zret hC hr hlocks G rfl h dX7_areSharesSound_41
      · replace h := h.2 c2
        refine lv_iconst (v := 1) hC.1 hC.2.1 dX7_areSharesSound_36 (by decide) ?_
        refine lv_goto (tgt := 41) hC.1 hC.2.1 dX7_areSharesSound_37 (by decide) ?_
        exact ag_zret hC hr hlocks G rfl h dX7_areSharesSound_41
    · replace h := h.2 c1
      refine lv_iload_n hC.1 hC.2.1 dX7_areSharesSound_10 rfl (lv_at hl 1 rfl) ?_
      refine lv_aload_n hC.1 hC.2.1 dX7_areSharesSound_11 rfl (lv_at hl 0 rfl) ?_
      refine lv_aload_n hC.1 hC.2.1 dX7_areSharesSound_12 rfl (lv_at hl 0 rfl) ?_
      refine ag_get hC hT G (by decide) e_ag k_X7 i_X7_areSharesSound_X7 1 (by decide) (wm 1 rfl) rfl dX7_areSharesSound_13 ?_
      refine lv_iload_n hC.1 hC.2.1 dX7_areSharesSound_16 rfl (lv_at hl 2 rfl) ?_
      obtain ⟨hn3, h⟩ := h
      refine ag_aald hC hT G (by decide) _ rfl e_sgs hn3 dX7_areSharesSound_17 ?_
      refine ag_i G (ag_runV (As := [.ref (lay (39 + (Int32.toNatClampNeg v2)))]) (rest := [.int v1]) hC hT G (c_X7_shareOf l D cy lay h (vlt hn3) _) (cwV 1 hC.2.2.2.2 gX7_areSharesSound_X7_shareOf rfl rfl rfl hdV_X7_shareOf ⟨Nat.le_of_ble_eq_true rfl, Nat.le_of_ble_eq_true rfl⟩) (ag_recv hT G (by decide) e_ag k_X7) rfl hl.1 rfl (Nat.le_of_ble_eq_true rfl) dX7_areSharesSound_18 ⟨Nat.le_of_ble_eq_true rfl, Nat.le_of_ble_eq_true rfl⟩) (fun r5 σ4 H locs h G => ?_)
      (try dsimp only at h)
      refine lv_iadd hC.1 hC.2.1 dX7_areSharesSound_21 ?_
      refine lv_istore_n (lv' := [(1, .int (v1 + r5)), (0, .ref (lay 0)), (2, .int v2)]) hC.1 hC.2.1 dX7_areSharesSound_22 rfl hl (by decide) rfl (fun ls hl => ?_)
      refine lv_iinc (v := v2 + 1) (lv' := [(2, .int (v2 + 1)), (1, .int (v1 + r5)), (0, .ref (lay 0))]) hC.1 hC.2.1 dX7_areSharesSound_23 hl (k := 2) rfl rfl (by decide) rfl (fun ls hl => ?_)
      refine lv_goto (tgt := 4) hC.1 hC.2.1 dX7_areSharesSound_26 (by decide) ?_
      exact ih _ _ _ h _ _ _ G (lv_sub hl [2, 1, 0] rfl)
def w_X7_areSharesSound (post : Int32 → MS → Prop) (σ : MS) : Prop := (∃ k, u_X7_areSharesSound_4 post k σ 0 0)
set_option maxHeartbeats 4000000 in
set_option maxRecDepth 100000 in
theorem c_X7_areSharesSound (l : Launch) (D : va_G) (cy : Nat → ClassId) (lay : Nat → Nat) {σ : MS} {post : Int32 → MS → Prop} (h : w_X7_areSharesSound post σ) (sz : Nat) : Met l yX7_areSharesSound wsX7_areSharesSound rm_X7_areSharesSound (va_Pc [.ref (lay 0)] (agI D cy lay σ sz)) (va_Qi post (agO D cy lay) (agA lay sz)) 0 0 (agA lay sz) := by
  refine ag_ofW (cc := cX7_areSharesSound) (maxL := 3) (ret := some .boolean) (own := RX7) (Qc := fun sz => va_Qi post (agO D cy lay) (agA lay sz)) (by decide) rfl (Nat.le_of_ble_eq_true rfl) rfl ?_
  intro p e s m args below meth c ls hC hr hlocks hT G hl
  unfold w_X7_areSharesSound at h
  have hl : lv_has ls 3 [(0, .ref (lay 0))] := hl
  refine lv_iconst (v := 0) hC.1 hC.2.1 dX7_areSharesSound_0 (by decide) ?_
  refine lv_istore_n (lv' := [(1, .int 0), (0, .ref (lay 0))]) hC.1 hC.2.1 dX7_areSharesSound_1 rfl hl (by decide) rfl (fun ls hl => ?_)
  refine lv_iconst (v := 0) hC.1 hC.2.1 dX7_areSharesSound_2 (by decide) ?_
  refine lv_istore_n (lv' := [(2, .int 0), (1, .int 0), (0, .ref (lay 0))]) hC.1 hC.2.1 dX7_areSharesSound_3 rfl hl (by decide) rfl (fun ls hl => ?_)
  obtain ⟨n1, h⟩ := h
  exact l_X7_areSharesSound_4 hC hr hlocks hT n1 _ _ _ h _ _ _ G (lv_sub hl [2, 1, 0] rfl)
theorem hdV_X7_areSharesSound : yX7_areSharesSound.cls = RX7 ∧ yX7_areSharesSound.cls ≠ "java/lang/invoke/MethodHandle" ∧ yX7_areSharesSound.cls ≠ "java/lang/invoke/VarHandle" ∧ (parseMethodDescriptor yX7_areSharesSound.desc).map (fun d => d.parameters.length) = some 0 := by decide +kernel
abbrev rm_X7_isSound : Room := { frames := 3, cells := 0, slots := 0, locals := 65 }
def w_X7_isSound (post : Int32 → MS → Prop) (σ : MS) : Prop := w_X7_areFixedOnesSound (fun r2 σ1 => ((r2 = 0 → post 0 σ1) ∧ (¬ r2 = 0 → w_X7_isCashSound (fun r5 σ4 => ((r5 = 0 → post 0 σ4) ∧ (¬ r5 = 0 → w_X7_areHoursSound (fun r8 σ7 => ((r8 = 0 → post 0 σ7) ∧ (¬ r8 = 0 → w_X7_areSharesSound (fun r11 σ10 => ((r11 = 0 → post 0 σ10) ∧ (¬ r11 = 0 → post 1 σ10))) σ7))) σ4))) σ1))) σ
set_option maxHeartbeats 4000000 in
set_option maxRecDepth 100000 in
theorem c_X7_isSound (l : Launch) (D : va_G) (cy : Nat → ClassId) (lay : Nat → Nat) {σ : MS} {post : Int32 → MS → Prop} (h : w_X7_isSound post σ) (sz : Nat) : Met l yX7_isSound wsX7_isSound rm_X7_isSound (va_Pc [.ref (lay 0)] (agI D cy lay σ sz)) (va_Qi post (agO D cy lay) (agA lay sz)) 0 0 (agA lay sz) := by
  refine ag_ofW (cc := cX7_isSound) (maxL := 1) (ret := some .boolean) (own := RX7) (Qc := fun sz => va_Qi post (agO D cy lay) (agA lay sz)) (by decide) rfl (Nat.le_of_ble_eq_true rfl) rfl ?_
  intro p e s m args below meth c ls hC hr hlocks hT G hl
  unfold w_X7_isSound at h
  have hl : lv_has ls 1 [(0, .ref (lay 0))] := hl
  refine lv_aload_n hC.1 hC.2.1 dX7_isSound_0 rfl (lv_at hl 0 rfl) ?_
  refine ag_i G (ag_runV (As := []) (rest := []) hC hT G (c_X7_areFixedOnesSound l D cy lay h _) (cwV 0 hC.2.2.2.2 gX7_isSound_X7_areFixedOnesSound rfl rfl rfl hdV_X7_areFixedOnesSound ⟨Nat.le_of_ble_eq_true rfl, Nat.le_of_ble_eq_true rfl⟩) (ag_recv hT G (by decide) e_ag k_X7) rfl hl.1 rfl (Nat.le_of_ble_eq_true rfl) dX7_isSound_1 ⟨Nat.le_of_ble_eq_true rfl, Nat.le_of_ble_eq_true rfl⟩) (fun r2 σ1 H locs h G => ?_)
  (try dsimp only at h)
  refine lv_if_eq (tgt := 32) hC.1 hC.2.1 dX7_isSound_4 (by decide) (fun c3 => ?_) (fun c3 => ?_)
  · replace h := h.1 c3
    refine lv_iconst (v := 0) hC.1 hC.2.1 dX7_isSound_32 (by decide) ?_
    exact ag_zret hC hr hlocks G rfl h dX7_isSound_33
  · replace h := h.2 c3
    refine lv_aload_n hC.1 hC.2.1 dX7_isSound_7 rfl (lv_at hl 0 rfl) ?_
    refine ag_i G (ag_runV (As := []) (rest := []) hC hT G (c_X7_isCashSound l D cy lay h _) (cwV 0 hC.2.2.2.2 gX7_isSound_X7_isCashSound rfl rfl rfl hdV_X7_isCashSound ⟨Nat.le_of_ble_eq_true rfl, Nat.le_of_ble_eq_true rfl⟩) (ag_recv hT G (by decide) e_ag k_X7) rfl hl.1 rfl (Nat.le_of_ble_eq_true rfl) dX7_isSound_8 ⟨Nat.le_of_ble_eq_true rfl, Nat.le_of_ble_eq_true rfl⟩) (fun r5 σ4 H locs h G => ?_)
    (try dsimp only at h)
    refine lv_if_eq (tgt := 32) hC.1 hC.2.1 dX7_isSound_11 (by decide) (fun c6 => ?_) (fun c6 => ?_)
    · replace h := h.1 c6
      refine lv_iconst (v := 0) hC.1 hC.2.1 dX7_isSound_32 (by decide) ?_
      exact ag_zret hC hr hlocks G rfl h dX7_isSound_33
    · replace h := h.2 c6
      refine lv_aload_n hC.1 hC.2.1 dX7_isSound_14 rfl (lv_at hl 0 rfl) ?_
      refine ag_i G (ag_runV (As := []) (rest := []) hC hT G (c_X7_areHoursSound l D cy lay h _) (cwV 0 hC.2.2.2.2 gX7_isSound_X7_areHoursSound rfl rfl rfl hdV_X7_areHoursSound ⟨Nat.le_of_ble_eq_true rfl, Nat.le_of_ble_eq_true rfl⟩) (ag_recv hT G (by decide) e_ag k_X7) rfl hl.1 rfl (Nat.le_of_ble_eq_true rfl) dX7_isSound_15 ⟨Nat.le_of_ble_eq_true rfl, Nat.le_of_ble_eq_true rfl⟩) (fun r8 σ7 H locs h G => ?_)
      (try dsimp only at h)
      refine lv_if_eq (tgt := 32) hC.1 hC.2.1 dX7_isSound_18 (by decide) (fun c9 => ?_) (fun c9 => ?_)
      · replace h := h.1 c9
        refine lv_iconst (v := 0) hC.1 hC.2.1 dX7_isSound_32 (by decide) ?_
        exact ag_zret hC hr hlocks G rfl h dX7_isSound_33
      · replace h := h.2 c9
        refine lv_aload_n hC.1 hC.2.1 dX7_isSound_21 rfl (lv_at hl 0 rfl) ?_
        refine ag_i G (ag_runV (As := []) (rest := []) hC hT G (c_X7_areSharesSound l D cy lay h _) (cwV 0 hC.2.2.2.2 gX7_isSound_X7_areSharesSound rfl rfl rfl hdV_X7_areSharesSound ⟨Nat.le_of_ble_eq_true rfl, Nat.le_of_ble_eq_true rfl⟩) (ag_recv hT G (by decide) e_ag k_X7) rfl hl.1 rfl (Nat.le_of_ble_eq_true rfl) dX7_isSound_22 ⟨Nat.le_of_ble_eq_true rfl, Nat.le_of_ble_eq_true rfl⟩) (fun r11 σ10 H locs h G => ?_)
        (try dsimp only at h)
        refine lv_if_eq (tgt := 32) hC.1 hC.2.1 dX7_isSound_25 (by decide) (fun c12 => ?_) (fun c12 => ?_)
        · replace h := h.1 c12
          refine lv_iconst (v := 0) hC.1 hC.2.1 dX7_isSound_32 (by decide) ?_
          exact ag_zret hC hr hlocks G rfl h dX7_isSound_33
        · replace h := h.2 c12
          refine lv_iconst (v := 1) hC.1 hC.2.1 dX7_isSound_28 (by decide) ?_
          refine lv_goto (tgt := 33) hC.1 hC.2.1 dX7_isSound_29 (by decide) ?_
          exact ag_zret hC hr hlocks G rfl h dX7_isSound_33
theorem hdV_X7_isSound : yX7_isSound.cls = RX7 ∧ yX7_isSound.cls ≠ "java/lang/invoke/MethodHandle" ∧ yX7_isSound.cls ≠ "java/lang/invoke/VarHandle" ∧ (parseMethodDescriptor yX7_isSound.desc).map (fun d => d.parameters.length) = some 0 := by decide +kernel
abbrev rm_X7_playOut : Room := { frames := 3, cells := 0, slots := 0, locals := 70 }
theorem i_X7_playOut_X6 : ∀ w ∈ wsX60, w ∈ wsX7_playOut := fun _ h => List.mem_cons_of_mem _ (List.mem_append_left _ (List.mem_append_left _ (List.mem_append_left _ (List.mem_append_left _ (List.mem_append_left _ (List.mem_append_right _ h))))))
theorem i_X7_playOut_X7 : ∀ w ∈ wsX70, w ∈ wsX7_playOut := fun _ h => List.mem_cons_of_mem _ (List.mem_append_left _ (List.mem_append_left _ (List.mem_append_left _ (List.mem_append_left _ (List.mem_append_right _ h)))))
theorem i_X7_playOut_X1 : ∀ w ∈ wsX10, w ∈ wsX7_playOut := fun _ h => List.mem_cons_of_mem _ (List.mem_append_left _ (List.mem_append_left _ (List.mem_append_right _ h)))
theorem i_X7_playOut_X5 : ∀ w ∈ wsX50, w ∈ wsX7_playOut := fun _ h => List.mem_cons_of_mem _ (List.mem_append_left _ (List.mem_append_right _ h))
theorem i_X7_playOut_X3 : ∀ w ∈ wsX30, w ∈ wsX7_playOut := fun _ h => List.mem_cons_of_mem _ (List.mem_append_left _ (List.mem_append_left _ (List.mem_append_left _ (List.mem_append_right _ h))))
def u_X7_playOut_138 (post : MS → Prop) (i1 : Nat) : Nat → MS → Int32 → Prop
  | 0, _, _ => False
  | n + 1, σ, v2 => (((σ 10 1) ≤ v2 → post (up2 σ (73 + i1) 7 2)) ∧ (¬ (σ 10 1) ≤ v2 → (vp_in v2 16 ∧ (vp_in (σ 11 (Int32.toNatClampNeg v2)) 16 ∧ u_X7_playOut_138 post i1 n (up2 σ (39 + (Int32.toNatClampNeg (σ 11 (Int32.toNatClampNeg v2)))) 3 ((σ (39 + (Int32.toNatClampNeg (σ 11 (Int32.toNatClampNeg v2)))) 3) + 1)) (v2 + 1)))))
set_option maxHeartbeats 4000000 in
set_option maxRecDepth 100000 in
theorem l_X7_playOut_138 {p : Program} {l : Launch} {e : Env} {s : State} {m : MethodId} {args : Array Value} {below : List Frame} {meth : Method} {c : Code} {D : va_G} {cy : Nat → ClassId} {lay : Nat → Nat} {post : MS → Prop} (i1 : Nat) (hC : CallFix p m c cX7_playOut 4 s args wsX7_playOut RX7) (hr : meth.sig.returnType = none) (hlocks : meth.locks = false) (hT : agT D cy lay s) (hi1 : i1 < 14) : ∀ (n : Nat), ∀ (σ : MS) (v2 : Int32), u_X7_playOut_138 post i1 n σ v2 → ∀ (H : Heap) (locs : List Loc) (ls : Array Slot), agG D cy lay σ (agA lay s.heap.size) s.heap H locs → lv_has ls 4 [(0, .ref (lay 0)), (1, .ref (lay (73 + i1))), (2, .int v2)] → W p l e rm_X7_playOut s m args below meth c H locs 0 0 (MQ below (va_Qv post (agO D cy lay) (agA lay s.heap.size)) args s 0 0 (agA lay s.heap.size)) (F0 m 138 ls []) := by
  intro n
  induction n with
  | zero =>
    intro σ v2 h
    exact h.elim
  | succ n ih =>
    intro σ v2 h H locs ls G hl
    rw [u_X7_playOut_138] at h
    refine lv_iload_n hC.1 hC.2.1 dX7_playOut_138 rfl (lv_at hl 2 rfl) ?_
    refine lv_aload_n hC.1 hC.2.1 dX7_playOut_139 rfl (lv_at hl 0 rfl) ?_
    refine ag_get hC hT G (by decide) e_ag k_X7 i_X7_playOut_X7 14 (by decide) (wm 11 rfl) rfl dX7_playOut_140 ?_
    refine ag_get hC hT G (by decide) e_bs k_X1 i_X7_playOut_X1 1 (by decide) (wm 13 rfl) rfl dX7_playOut_143 ?_
    refine lv_icmp_ge (tgt := 178) hC.1 hC.2.1 dX7_playOut_146 (by decide) (fun c8 => ?_) (fun c8 => ?_)
    · replace h := h.1 c8
      refine lv_aload_n hC.1 hC.2.1 dX7_playOut_178 rfl (lv_at hl 1 rfl) ?_
      refine lv_iconst (v := 2) hC.1 hC.2.1 dX7_playOut_179 (by decide) ?_
      refine ag_put hC hT G (k_wd hi1) (e_wd hi1) k_X6 i_X7_playOut_X6 7 (by decide) (wm 16 rfl) rfl rfl (by simp) (e_wd hi1) rfl dX7_playOut_180 (fun H locs G => ?_)
      exact ag_vret hC hr hlocks G h dX7_playOut_183
    · replace h := h.2 c8
      refine lv_aload_n hC.1 hC.2.1 dX7_playOut_149 rfl (lv_at hl 0 rfl) ?_
      refine ag_get hC hT G (by decide) e_ag k_X7 i_X7_playOut_X7 1 (by decide) (wm 12 rfl) rfl dX7_playOut_150 ?_
      refine lv_aload_n hC.1 hC.2.1 dX7_playOut_153 rfl (lv_at hl 0 rfl) ?_
      refine ag_get hC hT G (by decide) e_ag k_X7 i_X7_playOut_X7 14 (by decide) (wm 11 rfl) rfl dX7_playOut_154 ?_
      refine ag_get hC hT G (by decide) e_bs k_X1 i_X7_playOut_X1 0 (by decide) (wm 14 rfl) rfl dX7_playOut_157 ?_
      refine lv_iload_n hC.1 hC.2.1 dX7_playOut_160 rfl (lv_at hl 2 rfl) ?_
      obtain ⟨hn9, h⟩ := h
      refine ag_iald hC hT G (by decide) e_row hn9 dX7_playOut_161 ?_
      obtain ⟨hn10, h⟩ := h
      refine ag_aald hC hT G (by decide) _ rfl e_sgs hn10 dX7_playOut_162 ?_
      refine lv_dup hC.1 hC.2.1 dX7_playOut_163 rfl ?_
      refine ag_get hC hT G (k_sg (vlt hn10)) (e_sg (vlt hn10)) k_X5 i_X7_playOut_X5 3 (by decide) (wm 15 rfl) rfl dX7_playOut_164 ?_
      refine lv_iconst (v := 1) hC.1 hC.2.1 dX7_playOut_167 (by decide) ?_
      refine lv_iadd hC.1 hC.2.1 dX7_playOut_168 ?_
      refine ag_put hC hT G (k_sg (vlt hn10)) (e_sg (vlt hn10)) k_X5 i_X7_playOut_X5 3 (by decide) (wm 15 rfl) rfl rfl (by simp) (e_sg (vlt hn10)) rfl dX7_playOut_169 (fun H locs G => ?_)
      refine lv_iinc (v := v2 + 1) (lv' := [(2, .int (v2 + 1)), (0, .ref (lay 0)), (1, .ref (lay (73 + i1)))]) hC.1 hC.2.1 dX7_playOut_172 hl (k := 2) rfl rfl (by decide) rfl (fun ls hl => ?_)
      refine lv_goto (tgt := 138) hC.1 hC.2.1 dX7_playOut_175 (by decide) ?_
      exact ih _ _ h _ _ _ G (lv_sub hl [1, 2, 0] rfl)
def u_X7_playOut_22 (post : MS → Prop) (i1 : Nat) : Nat → MS → Int32 → Prop
  | 0, _, _ => False
  | n + 1, σ, v2 => (((σ 0 6) ≤ v2 → w_X7_playableFor (fun r6 σ5 => w_X1_choose (fun σ7 => (∃ k, u_X7_playOut_138 post i1 k σ7 0)) σ5 r6) σ (σ (73 + i1) 8)) ∧ (¬ (σ 0 6) ≤ v2 → w_X7_has (fun r12 σ11 => ((r12 = 0 → u_X7_playOut_22 post i1 n σ11 (v2 + 1)) ∧ (¬ r12 = 0 → (vp_in v2 10 ∧ w_X7_wageAt (fun r16 σ15 => (vp_in v2 10 ∧ (vp_in v2 10 ∧ (∀ y19 : Int32, y19 = (up2 (up2 σ15 0 10 ((σ15 0 10) - r16)) (29 + (Int32.toNatClampNeg v2)) 5 (((up2 σ15 0 10 ((σ15 0 10) - r16)) (29 + (Int32.toNatClampNeg v2)) 5) + r16)) (29 + (Int32.toNatClampNeg v2)) 6 → (vp_in v2 10 ∧ (∀ y21 : Int32, y21 = (up2 (up2 (up2 σ15 0 10 ((σ15 0 10) - r16)) (29 + (Int32.toNatClampNeg v2)) 5 (((up2 σ15 0 10 ((σ15 0 10) - r16)) (29 + (Int32.toNatClampNeg v2)) 5) + r16)) (29 + (Int32.toNatClampNeg v2)) 6 (y19 + 1)) (29 + (Int32.toNatClampNeg v2)) 7 → (∀ y22 : Int32, y22 = (up2 (up2 (up2 σ15 0 10 ((σ15 0 10) - r16)) (29 + (Int32.toNatClampNeg v2)) 5 (((up2 σ15 0 10 ((σ15 0 10) - r16)) (29 + (Int32.toNatClampNeg v2)) 5) + r16)) (29 + (Int32.toNatClampNeg v2)) 6 (y19 + 1)) (73 + i1) 4 → u_X7_playOut_22 post i1 n (up2 (up2 (up2 (up2 σ15 0 10 ((σ15 0 10) - r16)) (29 + (Int32.toNatClampNeg v2)) 5 (((up2 σ15 0 10 ((σ15 0 10) - r16)) (29 + (Int32.toNatClampNeg v2)) 5) + r16)) (29 + (Int32.toNatClampNeg v2)) 6 (y19 + 1)) (29 + (Int32.toNatClampNeg v2)) 7 (y21 + y22)) (v2 + 1)))))))) σ11 (Int32.toNatClampNeg v2) i1)))) σ (σ (73 + i1) 8) v2))
set_option maxHeartbeats 4000000 in
set_option maxRecDepth 100000 in
theorem l_X7_playOut_22 {p : Program} {l : Launch} {e : Env} {s : State} {m : MethodId} {args : Array Value} {below : List Frame} {meth : Method} {c : Code} {D : va_G} {cy : Nat → ClassId} {lay : Nat → Nat} {post : MS → Prop} (i1 : Nat) (hC : CallFix p m c cX7_playOut 4 s args wsX7_playOut RX7) (hr : meth.sig.returnType = none) (hlocks : meth.locks = false) (hT : agT D cy lay s) (hi1 : i1 < 14) : ∀ (n : Nat), ∀ (σ : MS) (v2 : Int32), u_X7_playOut_22 post i1 n σ v2 → ∀ (H : Heap) (locs : List Loc) (ls : Array Slot), agG D cy lay σ (agA lay s.heap.size) s.heap H locs → lv_has ls 4 [(0, .ref (lay 0)), (1, .ref (lay (73 + i1))), (2, .int v2)] → W p l e rm_X7_playOut s m args below meth c H locs 0 0 (MQ below (va_Qv post (agO D cy lay) (agA lay s.heap.size)) args s 0 0 (agA lay s.heap.size)) (F0 m 22 ls []) := by
  intro n
  induction n with
  | zero =>
    intro σ v2 h
    exact h.elim
  | succ n ih =>
    intro σ v2 h H locs ls G hl
    rw [u_X7_playOut_22] at h
    refine lv_iload_n hC.1 hC.2.1 dX7_playOut_22 rfl (lv_at hl 2 rfl) ?_
    refine lv_aload_n hC.1 hC.2.1 dX7_playOut_23 rfl (lv_at hl 0 rfl) ?_
    refine ag_get hC hT G (by decide) e_ag k_X7 i_X7_playOut_X7 6 (by decide) (wm 3 rfl) rfl dX7_playOut_24 ?_
    refine lv_icmp_ge (tgt := 117) hC.1 hC.2.1 dX7_playOut_27 (by decide) (fun c4 => ?_) (fun c4 => ?_)
    · replace h := h.1 c4
      refine lv_aload_n hC.1 hC.2.1 dX7_playOut_117 rfl (lv_at hl 0 rfl) ?_
      refine ag_get hC hT G (by decide) e_ag k_X7 i_X7_playOut_X7 14 (by decide) (wm 11 rfl) rfl dX7_playOut_118 ?_
      refine lv_aload_n hC.1 hC.2.1 dX7_playOut_121 rfl (lv_at hl 0 rfl) ?_
      refine ag_get hC hT G (by decide) e_ag k_X7 i_X7_playOut_X7 1 (by decide) (wm 12 rfl) rfl dX7_playOut_122 ?_
      refine lv_aload_n hC.1 hC.2.1 dX7_playOut_125 rfl (lv_at hl 0 rfl) ?_
      refine lv_aload_n hC.1 hC.2.1 dX7_playOut_126 rfl (lv_at hl 1 rfl) ?_
      refine ag_get hC hT G (k_wd hi1) (e_wd hi1) k_X6 i_X7_playOut_X6 8 (by decide) (wm 4 rfl) rfl dX7_playOut_127 ?_
      refine ag_i G (ag_runV (As := [.int (σ (73 + i1) 8)]) (rest := [.ref (lay 2), .ref (lay 10)]) hC hT G (c_X7_playableFor l D cy lay h _) (cwV 1 hC.2.2.2.2 gX7_playOut_X7_playableFor rfl rfl rfl hdV_X7_playableFor ⟨Nat.le_of_ble_eq_true rfl, Nat.le_of_ble_eq_true rfl⟩) (ag_recv hT G (by decide) e_ag k_X7) rfl hl.1 rfl (Nat.le_of_ble_eq_true rfl) dX7_playOut_130 ⟨Nat.le_of_ble_eq_true rfl, Nat.le_of_ble_eq_true rfl⟩) (fun r6 σ5 H locs h G => ?_)
      (try dsimp only at h)
      refine ag_v G (ag_runV (As := [.ref (lay 2), .int r6]) (rest := []) hC hT G (c_X1_choose l D cy lay h _) (cwV 2 hC.2.2.2.2 gX7_playOut_X1_choose rfl rfl rfl hdV_X1_choose ⟨Nat.le_of_ble_eq_true rfl, Nat.le_of_ble_eq_true rfl⟩) (ag_recv hT G (by decide) e_bs k_X1) rfl hl.1 rfl (Nat.le_of_ble_eq_true rfl) dX7_playOut_133 ⟨Nat.le_of_ble_eq_true rfl, Nat.le_of_ble_eq_true rfl⟩) (fun σ7 H locs h G => ?_)
      (try dsimp only at h)
      refine lv_iconst (v := 0) hC.1 hC.2.1 dX7_playOut_136 (by decide) ?_
      refine lv_istore_n (lv' := [(2, .int 0), (0, .ref (lay 0)), (1, .ref (lay (73 + i1)))]) hC.1 hC.2.1 dX7_playOut_137 rfl hl (by decide) rfl (fun ls hl => ?_)
      obtain ⟨n1, h⟩ := h
      exact l_X7_playOut_138 i1 hC hr hlocks hT hi1 n1 _ _ h _ _ _ G (lv_sub hl [1, 2, 0] rfl)
    · replace h := h.2 c4
      refine lv_aload_n hC.1 hC.2.1 dX7_playOut_30 rfl (lv_at hl 1 rfl) ?_
      refine ag_get hC hT G (k_wd hi1) (e_wd hi1) k_X6 i_X7_playOut_X6 8 (by decide) (wm 4 rfl) rfl dX7_playOut_31 ?_
      refine lv_iload_n hC.1 hC.2.1 dX7_playOut_34 rfl (lv_at hl 2 rfl) ?_
      refine ag_i G (ag_runS (As := [.int (σ (73 + i1) 8), .int v2]) (rest := []) hC hT G (c_X7_has l D cy lay h _) (va_cwS 2 hC.2.2.2.2 gX7_playOut_X7_has rfl rfl rfl hdS_X7_has ⟨Nat.le_of_ble_eq_true rfl, Nat.le_of_ble_eq_true rfl⟩) rfl hl.1 rfl (Nat.le_of_ble_eq_true rfl) dX7_playOut_35 ⟨Nat.le_of_ble_eq_true rfl, Nat.le_of_ble_eq_true rfl⟩) (fun r12 σ11 H locs h G => ?_)
      (try dsimp only at h)
      refine lv_if_eq (tgt := 111) hC.1 hC.2.1 dX7_playOut_38 (by decide) (fun c13 => ?_) (fun c13 => ?_)
      · replace h := h.1 c13
        refine lv_iinc (v := v2 + 1) (lv' := [(2, .int (v2 + 1)), (0, .ref (lay 0)), (1, .ref (lay (73 + i1)))]) hC.1 hC.2.1 dX7_playOut_111 hl (k := 2) rfl rfl (by decide) rfl (fun ls hl => ?_)
        refine lv_goto (tgt := 22) hC.1 hC.2.1 dX7_playOut_114 (by decide) ?_
        exact ih _ _ h _ _ _ G (lv_sub hl [1, 2, 0] rfl)
      · replace h := h.2 c13
        refine lv_aload_n hC.1 hC.2.1 dX7_playOut_41 rfl (lv_at hl 0 rfl) ?_
        refine lv_aload_n hC.1 hC.2.1 dX7_playOut_42 rfl (lv_at hl 0 rfl) ?_
        refine ag_get hC hT G (by decide) e_ag k_X7 i_X7_playOut_X7 0 (by decide) (wm 5 rfl) rfl dX7_playOut_43 ?_
        refine lv_iload_n hC.1 hC.2.1 dX7_playOut_46 rfl (lv_at hl 2 rfl) ?_
        obtain ⟨hn14, h⟩ := h
        refine ag_aald hC hT G (by decide) _ rfl e_pls hn14 dX7_playOut_47 ?_
        refine lv_aload_n hC.1 hC.2.1 dX7_playOut_48 rfl (lv_at hl 1 rfl) ?_
        refine ag_i G (ag_runV (As := [.ref (lay (29 + (Int32.toNatClampNeg v2))), .ref (lay (73 + i1))]) (rest := []) hC hT G (c_X7_wageAt l D cy lay h (vlt hn14) hi1 _) (cwV 2 hC.2.2.2.2 gX7_playOut_X7_wageAt rfl rfl rfl hdV_X7_wageAt ⟨Nat.le_of_ble_eq_true rfl, Nat.le_of_ble_eq_true rfl⟩) (ag_recv hT G (by decide) e_ag k_X7) rfl hl.1 rfl (Nat.le_of_ble_eq_true rfl) dX7_playOut_49 ⟨Nat.le_of_ble_eq_true rfl, Nat.le_of_ble_eq_true rfl⟩) (fun r16 σ15 H locs h G => ?_)
        (try dsimp only at h)
        refine lv_istore_n (lv' := [(3, .int r16), (0, .ref (lay 0)), (1, .ref (lay (73 + i1))), (2, .int v2)]) hC.1 hC.2.1 dX7_playOut_52 rfl hl (by decide) rfl (fun ls hl => ?_)
        refine lv_aload_n hC.1 hC.2.1 dX7_playOut_53 rfl (lv_at hl 1 rfl) ?_
        refine lv_dup hC.1 hC.2.1 dX7_playOut_54 rfl ?_
        refine ag_get hC hT G (by decide) e_ag k_X7 i_X7_playOut_X7 10 (by decide) (wm 6 rfl) rfl dX7_playOut_55 ?_
        refine lv_iload_n hC.1 hC.2.1 dX7_playOut_58 rfl (lv_at hl 0 rfl) ?_
        refine lv_isub hC.1 hC.2.1 dX7_playOut_59 ?_
        refine ag_put hC hT G (by decide) e_ag k_X7 i_X7_playOut_X7 10 (by decide) (wm 6 rfl) rfl rfl (by simp) e_ag rfl dX7_playOut_60 (fun H locs G => ?_)
        refine lv_aload_n hC.1 hC.2.1 dX7_playOut_63 rfl (lv_at hl 1 rfl) ?_
        refine ag_get hC hT G (by decide) e_ag k_X7 i_X7_playOut_X7 0 (by decide) (wm 5 rfl) rfl dX7_playOut_64 ?_
        refine lv_iload_n hC.1 hC.2.1 dX7_playOut_67 rfl (lv_at hl 3 rfl) ?_
        obtain ⟨hn17, h⟩ := h
        refine ag_aald hC hT G (by decide) _ rfl e_pls hn17 dX7_playOut_68 ?_
        refine lv_dup hC.1 hC.2.1 dX7_playOut_69 rfl ?_
        refine ag_get hC hT G (k_pl (vlt hn17)) (e_pl (vlt hn17)) k_X3 i_X7_playOut_X3 5 (by decide) (wm 7 rfl) rfl dX7_playOut_70 ?_
        refine lv_iload_n hC.1 hC.2.1 dX7_playOut_73 rfl (lv_at hl 0 rfl) ?_
        refine lv_iadd hC.1 hC.2.1 dX7_playOut_74 ?_
        refine ag_put hC hT G (k_pl (vlt hn17)) (e_pl (vlt hn17)) k_X3 i_X7_playOut_X3 5 (by decide) (wm 7 rfl) rfl rfl (by simp) (e_pl (vlt hn17)) rfl dX7_playOut_75 (fun H locs G => ?_)
        refine lv_aload_n hC.1 hC.2.1 dX7_playOut_78 rfl (lv_at hl 1 rfl) ?_
        refine ag_get hC hT G (by decide) e_ag k_X7 i_X7_playOut_X7 0 (by decide) (wm 5 rfl) rfl dX7_playOut_79 ?_
        refine lv_iload_n hC.1 hC.2.1 dX7_playOut_82 rfl (lv_at hl 3 rfl) ?_
        obtain ⟨hn18, h⟩ := h
        refine ag_aald hC hT G (by decide) _ rfl e_pls hn18 dX7_playOut_83 ?_
        refine lv_dup hC.1 hC.2.1 dX7_playOut_84 rfl ?_
        refine ag_get hC hT G (k_pl (vlt hn18)) (e_pl (vlt hn18)) k_X3 i_X7_playOut_X3 6 (by decide) (wm 8 rfl) rfl dX7_playOut_85 ?_
        refine lv_topi (fun y19 ey19 => ?_)
        replace h := h y19 ey19
        refine lv_iconst (v := 1) hC.1 hC.2.1 dX7_playOut_88 (by decide) ?_
        refine lv_iadd hC.1 hC.2.1 dX7_playOut_89 ?_
        refine ag_put hC hT G (k_pl (vlt hn18)) (e_pl (vlt hn18)) k_X3 i_X7_playOut_X3 6 (by decide) (wm 8 rfl) rfl rfl (by simp) (e_pl (vlt hn18)) rfl dX7_playOut_90 (fun H locs G => ?_)
        refine lv_aload_n hC.1 hC.2.1 dX7_playOut_93 rfl (lv_at hl 1 rfl) ?_
        refine ag_get hC hT G (by decide) e_ag k_X7 i_X7_playOut_X7 0 (by decide) (wm 5 rfl) rfl dX7_playOut_94 ?_
        refine lv_iload_n hC.1 hC.2.1 dX7_playOut_97 rfl (lv_at hl 3 rfl) ?_
        obtain ⟨hn20, h⟩ := h
        refine ag_aald hC hT G (by decide) _ rfl e_pls hn20 dX7_playOut_98 ?_
        refine lv_dup hC.1 hC.2.1 dX7_playOut_99 rfl ?_
        refine ag_get hC hT G (k_pl (vlt hn20)) (e_pl (vlt hn20)) k_X3 i_X7_playOut_X3 7 (by decide) (wm 9 rfl) rfl dX7_playOut_100 ?_
        refine lv_topi (fun y21 ey21 => ?_)
        replace h := h y21 ey21
        refine lv_aload_n hC.1 hC.2.1 dX7_playOut_103 rfl (lv_at hl 2 rfl) ?_
        refine ag_get hC hT G (k_wd hi1) (e_wd hi1) k_X6 i_X7_playOut_X6 4 (by decide) (wm 10 rfl) rfl dX7_playOut_104 ?_
        refine lv_topi (fun y22 ey22 => ?_)
        replace h := h y22 ey22
        refine lv_iadd hC.1 hC.2.1 dX7_playOut_107 ?_
        refine ag_put hC hT G (k_pl (vlt hn20)) (e_pl (vlt hn20)) k_X3 i_X7_playOut_X3 7 (by decide) (wm 9 rfl) rfl rfl (by simp) (e_pl (vlt hn20)) rfl dX7_playOut_108 (fun H locs G => ?_)
        refine lv_iinc (v := v2 + 1) (lv' := [(2, .int (v2 + 1)), (3, .int r16), (0, .ref (lay 0)), (1, .ref (lay (73 + i1)))]) hC.1 hC.2.1 dX7_playOut_111 hl (k := 3) rfl rfl (by decide) rfl (fun ls hl => ?_)
        refine lv_goto (tgt := 22) hC.1 hC.2.1 dX7_playOut_114 (by decide) ?_
        exact ih _ _ h _ _ _ G (lv_sub hl [2, 3, 0] rfl)
def w_X7_playOut (post : MS → Prop) (σ : MS) (i1 : Nat) : Prop := w_X7_extraOf (fun r2 σ1 => w_X7_getPaid (fun σ3 => (∃ k, u_X7_playOut_22 post i1 k σ3 0)) σ1 i1 (((σ (73 + i1) 9) - (σ (73 + i1) 11)) + r2)) σ i1
set_option maxHeartbeats 4000000 in
set_option maxRecDepth 100000 in
theorem c_X7_playOut (l : Launch) (D : va_G) (cy : Nat → ClassId) (lay : Nat → Nat) {σ : MS} {post : MS → Prop} {i1 : Nat} (h : w_X7_playOut post σ i1) (hi1 : i1 < 14) (sz : Nat) : Met l yX7_playOut wsX7_playOut rm_X7_playOut (va_Pc [.ref (lay 0), .ref (lay (73 + i1))] (agI D cy lay σ sz)) (va_Qv post (agO D cy lay) (agA lay sz)) 0 0 (agA lay sz) := by
  refine ag_ofW (cc := cX7_playOut) (maxL := 4) (ret := none) (own := RX7) (Qc := fun sz => va_Qv post (agO D cy lay) (agA lay sz)) (by decide) rfl (Nat.le_of_ble_eq_true rfl) rfl ?_
  intro p e s m args below meth c ls hC hr hlocks hT G hl
  unfold w_X7_playOut at h
  have hl : lv_has ls 4 [(0, .ref (lay 0)), (1, .ref (lay (73 + i1)))] := hl
  refine lv_aload_n hC.1 hC.2.1 dX7_playOut_0 rfl (lv_at hl 0 rfl) ?_
  refine lv_aload_n hC.1 hC.2.1 dX7_playOut_1 rfl (lv_at hl 1 rfl) ?_
  refine lv_aload_n hC.1 hC.2.1 dX7_playOut_2 rfl (lv_at hl 1 rfl) ?_
  refine ag_get hC hT G (k_wd hi1) (e_wd hi1) k_X6 i_X7_playOut_X6 9 (by decide) (wm 1 rfl) rfl dX7_playOut_3 ?_
  refine lv_aload_n hC.1 hC.2.1 dX7_playOut_6 rfl (lv_at hl 1 rfl) ?_
  refine ag_get hC hT G (k_wd hi1) (e_wd hi1) k_X6 i_X7_playOut_X6 11 (by decide) (wm 2 rfl) rfl dX7_playOut_7 ?_
  refine lv_isub hC.1 hC.2.1 dX7_playOut_10 ?_
  refine lv_aload_n hC.1 hC.2.1 dX7_playOut_11 rfl (lv_at hl 0 rfl) ?_
  refine lv_aload_n hC.1 hC.2.1 dX7_playOut_12 rfl (lv_at hl 1 rfl) ?_
  refine ag_i G (ag_runV (As := [.ref (lay (73 + i1))]) (rest := [.int ((σ (73 + i1) 9) - (σ (73 + i1) 11)), .ref (lay (73 + i1)), .ref (lay 0)]) hC hT G (c_X7_extraOf l D cy lay h hi1 _) (cwV 1 hC.2.2.2.2 gX7_playOut_X7_extraOf rfl rfl rfl hdV_X7_extraOf ⟨Nat.le_of_ble_eq_true rfl, Nat.le_of_ble_eq_true rfl⟩) (ag_recv hT G (by decide) e_ag k_X7) rfl hl.1 rfl (Nat.le_of_ble_eq_true rfl) dX7_playOut_13 ⟨Nat.le_of_ble_eq_true rfl, Nat.le_of_ble_eq_true rfl⟩) (fun r2 σ1 H locs h G => ?_)
  (try dsimp only at h)
  refine lv_iadd hC.1 hC.2.1 dX7_playOut_16 ?_
  refine ag_v G (ag_runV (As := [.ref (lay (73 + i1)), .int (((σ (73 + i1) 9) - (σ (73 + i1) 11)) + r2)]) (rest := []) hC hT G (c_X7_getPaid l D cy lay h hi1 _) (cwV 2 hC.2.2.2.2 gX7_playOut_X7_getPaid rfl rfl rfl hdV_X7_getPaid ⟨Nat.le_of_ble_eq_true rfl, Nat.le_of_ble_eq_true rfl⟩) (ag_recv hT G (by decide) e_ag k_X7) rfl hl.1 rfl (Nat.le_of_ble_eq_true rfl) dX7_playOut_17 ⟨Nat.le_of_ble_eq_true rfl, Nat.le_of_ble_eq_true rfl⟩) (fun σ3 H locs h G => ?_)
  (try dsimp only at h)
  refine lv_iconst (v := 0) hC.1 hC.2.1 dX7_playOut_20 (by decide) ?_
  refine lv_istore_n (lv' := [(2, .int 0), (0, .ref (lay 0)), (1, .ref (lay (73 + i1)))]) hC.1 hC.2.1 dX7_playOut_21 rfl hl (by decide) rfl (fun ls hl => ?_)
  obtain ⟨n1, h⟩ := h
  exact l_X7_playOut_22 i1 hC hr hlocks hT hi1 n1 _ _ h _ _ _ G (lv_sub hl [1, 2, 0] rfl)
theorem hdV_X7_playOut : yX7_playOut.cls = RX7 ∧ yX7_playOut.cls ≠ "java/lang/invoke/MethodHandle" ∧ yX7_playOut.cls ≠ "java/lang/invoke/VarHandle" ∧ (parseMethodDescriptor yX7_playOut.desc).map (fun d => d.parameters.length) = some 1 := by decide +kernel
abbrev rm_X7_endToday : Room := { frames := 4, cells := 0, slots := 0, locals := 93 }
theorem i_X7_endToday_X7 : ∀ w ∈ wsX70, w ∈ wsX7_endToday := fun _ h => List.mem_cons_of_mem _ (List.mem_append_left _ (List.mem_append_left _ (List.mem_append_left _ (List.mem_append_left _ (List.mem_append_left _ (List.mem_append_right _ h))))))
theorem i_X7_endToday_X6 : ∀ w ∈ wsX60, w ∈ wsX7_endToday := fun _ h => List.mem_cons_of_mem _ (List.mem_append_left _ (List.mem_append_left _ (List.mem_append_left _ (List.mem_append_left _ (List.mem_append_right _ h)))))
def u_X7_endToday_57 (post : MS → Prop) : Nat → MS → Int32 → Prop
  | 0, _, _ => False
  | n + 1, σ, v1 => (((σ 0 8) ≤ v1 → post σ) ∧ (¬ (σ 0 8) ≤ v1 → (vp_in v1 14 ∧ (((σ (73 + (Int32.toNatClampNeg v1)) 1) = (σ 0 9) → (vp_in v1 14 ∧ (((σ (73 + (Int32.toNatClampNeg v1)) 7) = 0 → (vp_in v1 14 ∧ u_X7_endToday_57 post n (up2 σ (73 + (Int32.toNatClampNeg v1)) 7 3) (v1 + 1))) ∧ (¬ (σ (73 + (Int32.toNatClampNeg v1)) 7) = 0 → u_X7_endToday_57 post n σ (v1 + 1))))) ∧ (¬ (σ (73 + (Int32.toNatClampNeg v1)) 1) = (σ 0 9) → u_X7_endToday_57 post n σ (v1 + 1))))))
set_option maxHeartbeats 4000000 in
set_option maxRecDepth 100000 in
theorem l_X7_endToday_57 {p : Program} {l : Launch} {e : Env} {s : State} {m : MethodId} {args : Array Value} {below : List Frame} {meth : Method} {c : Code} {D : va_G} {cy : Nat → ClassId} {lay : Nat → Nat} {post : MS → Prop} (hC : CallFix p m c cX7_endToday 2 s args wsX7_endToday RX7) (hr : meth.sig.returnType = none) (hlocks : meth.locks = false) (hT : agT D cy lay s) : ∀ (n : Nat), ∀ (σ : MS) (v1 : Int32), u_X7_endToday_57 post n σ v1 → ∀ (H : Heap) (locs : List Loc) (ls : Array Slot), agG D cy lay σ (agA lay s.heap.size) s.heap H locs → lv_has ls 2 [(0, .ref (lay 0)), (1, .int v1)] → W p l e rm_X7_endToday s m args below meth c H locs 0 0 (MQ below (va_Qv post (agO D cy lay) (agA lay s.heap.size)) args s 0 0 (agA lay s.heap.size)) (F0 m 57 ls []) := by
  intro n
  induction n with
  | zero =>
    intro σ v1 h
    exact h.elim
  | succ n ih =>
    intro σ v1 h H locs ls G hl
    rw [u_X7_endToday_57] at h
    refine lv_iload_n hC.1 hC.2.1 dX7_endToday_57 rfl (lv_at hl 1 rfl) ?_
    refine lv_aload_n hC.1 hC.2.1 dX7_endToday_58 rfl (lv_at hl 0 rfl) ?_
    refine ag_get hC hT G (by decide) e_ag k_X7 i_X7_endToday_X7 8 (by decide) (wm 1 rfl) rfl dX7_endToday_59 ?_
    refine lv_icmp_ge (tgt := 109) hC.1 hC.2.1 dX7_endToday_62 (by decide) (fun c2 => ?_) (fun c2 => ?_)
    · replace h := h.1 c2
      exact ag_vret hC hr hlocks G h dX7_endToday_109
    · replace h := h.2 c2
      refine lv_aload_n hC.1 hC.2.1 dX7_endToday_65 rfl (lv_at hl 0 rfl) ?_
      refine ag_get hC hT G (by decide) e_ag k_X7 i_X7_endToday_X7 3 (by decide) (wm 2 rfl) rfl dX7_endToday_66 ?_
      refine lv_iload_n hC.1 hC.2.1 dX7_endToday_69 rfl (lv_at hl 1 rfl) ?_
      obtain ⟨hn3, h⟩ := h
      refine ag_aald hC hT G (by decide) _ rfl e_wds hn3 dX7_endToday_70 ?_
      refine ag_get hC hT G (k_wd (vlt hn3)) (e_wd (vlt hn3)) k_X6 i_X7_endToday_X6 1 (by decide) (wm 3 rfl) rfl dX7_endToday_71 ?_
      refine lv_aload_n hC.1 hC.2.1 dX7_endToday_74 rfl (lv_at hl 0 rfl) ?_
      refine ag_get hC hT G (by decide) e_ag k_X7 i_X7_endToday_X7 9 (by decide) (wm 4 rfl) rfl dX7_endToday_75 ?_
      refine lv_icmp_ne (tgt := 103) hC.1 hC.2.1 dX7_endToday_78 (by decide) (fun c4 => ?_) (fun c4 => ?_)
      · replace h := h.2 c4
        refine lv_iinc (v := v1 + 1) (lv' := [(1, .int (v1 + 1)), (0, .ref (lay 0))]) hC.1 hC.2.1 dX7_endToday_103 hl (k := 1) rfl rfl (by decide) rfl (fun ls hl => ?_)
        refine lv_goto (tgt := 57) hC.1 hC.2.1 dX7_endToday_106 (by decide) ?_
        exact ih _ _ h _ _ _ G (lv_sub hl [1, 0] rfl)
      · replace h := h.1 c4
        refine lv_aload_n hC.1 hC.2.1 dX7_endToday_81 rfl (lv_at hl 0 rfl) ?_
        refine ag_get hC hT G (by decide) e_ag k_X7 i_X7_endToday_X7 3 (by decide) (wm 2 rfl) rfl dX7_endToday_82 ?_
        refine lv_iload_n hC.1 hC.2.1 dX7_endToday_85 rfl (lv_at hl 1 rfl) ?_
        obtain ⟨hn5, h⟩ := h
        refine ag_aald hC hT G (by decide) _ rfl e_wds hn5 dX7_endToday_86 ?_
        refine ag_get hC hT G (k_wd (vlt hn5)) (e_wd (vlt hn5)) k_X6 i_X7_endToday_X6 7 (by decide) (wm 5 rfl) rfl dX7_endToday_87 ?_
        refine lv_if_ne (tgt := 103) hC.1 hC.2.1 dX7_endToday_90 (by decide) (fun c6 => ?_) (fun c6 => ?_)
        · replace h := h.2 c6
          refine lv_iinc (v := v1 + 1) (lv' := [(1, .int (v1 + 1)), (0, .ref (lay 0))]) hC.1 hC.2.1 dX7_endToday_103 hl (k := 1) rfl rfl (by decide) rfl (fun ls hl => ?_)
          refine lv_goto (tgt := 57) hC.1 hC.2.1 dX7_endToday_106 (by decide) ?_
          exact ih _ _ h _ _ _ G (lv_sub hl [1, 0] rfl)
        · replace h := h.1 c6
          refine lv_aload_n hC.1 hC.2.1 dX7_endToday_93 rfl (lv_at hl 0 rfl) ?_
          refine ag_get hC hT G (by decide) e_ag k_X7 i_X7_endToday_X7 3 (by decide) (wm 2 rfl) rfl dX7_endToday_94 ?_
          refine lv_iload_n hC.1 hC.2.1 dX7_endToday_97 rfl (lv_at hl 1 rfl) ?_
          obtain ⟨hn7, h⟩ := h
          refine ag_aald hC hT G (by decide) _ rfl e_wds hn7 dX7_endToday_98 ?_
          refine lv_iconst (v := 3) hC.1 hC.2.1 dX7_endToday_99 (by decide) ?_
          refine ag_put hC hT G (k_wd (vlt hn7)) (e_wd (vlt hn7)) k_X6 i_X7_endToday_X6 7 (by decide) (wm 5 rfl) rfl rfl (by simp) (e_wd (vlt hn7)) rfl dX7_endToday_100 (fun H locs G => ?_)
          refine lv_iinc (v := v1 + 1) (lv' := [(1, .int (v1 + 1)), (0, .ref (lay 0))]) hC.1 hC.2.1 dX7_endToday_103 hl (k := 1) rfl rfl (by decide) rfl (fun ls hl => ?_)
          refine lv_goto (tgt := 57) hC.1 hC.2.1 dX7_endToday_106 (by decide) ?_
          exact ih _ _ h _ _ _ G (lv_sub hl [1, 0] rfl)
def u_X7_endToday_2 (post : MS → Prop) : Nat → MS → Int32 → Prop
  | 0, _, _ => False
  | n + 1, σ, v1 => (((σ 0 8) ≤ v1 → (∃ k, u_X7_endToday_57 post k σ 0)) ∧ (¬ (σ 0 8) ≤ v1 → (vp_in v1 14 ∧ (((σ (73 + (Int32.toNatClampNeg v1)) 1) = (σ 0 9) → (vp_in v1 14 ∧ (((σ (73 + (Int32.toNatClampNeg v1)) 7) = 1 → (vp_in v1 14 ∧ w_X7_playOut (fun σ13 => u_X7_endToday_2 post n σ13 (v1 + 1)) σ (Int32.toNatClampNeg v1))) ∧ (¬ (σ (73 + (Int32.toNatClampNeg v1)) 7) = 1 → u_X7_endToday_2 post n σ (v1 + 1))))) ∧ (¬ (σ (73 + (Int32.toNatClampNeg v1)) 1) = (σ 0 9) → u_X7_endToday_2 post n σ (v1 + 1))))))
set_option maxHeartbeats 4000000 in
set_option maxRecDepth 100000 in
theorem l_X7_endToday_2 {p : Program} {l : Launch} {e : Env} {s : State} {m : MethodId} {args : Array Value} {below : List Frame} {meth : Method} {c : Code} {D : va_G} {cy : Nat → ClassId} {lay : Nat → Nat} {post : MS → Prop} (hC : CallFix p m c cX7_endToday 2 s args wsX7_endToday RX7) (hr : meth.sig.returnType = none) (hlocks : meth.locks = false) (hT : agT D cy lay s) : ∀ (n : Nat), ∀ (σ : MS) (v1 : Int32), u_X7_endToday_2 post n σ v1 → ∀ (H : Heap) (locs : List Loc) (ls : Array Slot), agG D cy lay σ (agA lay s.heap.size) s.heap H locs → lv_has ls 2 [(0, .ref (lay 0)), (1, .int v1)] → W p l e rm_X7_endToday s m args below meth c H locs 0 0 (MQ below (va_Qv post (agO D cy lay) (agA lay s.heap.size)) args s 0 0 (agA lay s.heap.size)) (F0 m 2 ls []) := by
  intro n
  induction n with
  | zero =>
    intro σ v1 h
    exact h.elim
  | succ n ih =>
    intro σ v1 h H locs ls G hl
    rw [u_X7_endToday_2] at h
    refine lv_iload_n hC.1 hC.2.1 dX7_endToday_2 rfl (lv_at hl 1 rfl) ?_
    refine lv_aload_n hC.1 hC.2.1 dX7_endToday_3 rfl (lv_at hl 0 rfl) ?_
    refine ag_get hC hT G (by decide) e_ag k_X7 i_X7_endToday_X7 8 (by decide) (wm 1 rfl) rfl dX7_endToday_4 ?_
    refine lv_icmp_ge (tgt := 55) hC.1 hC.2.1 dX7_endToday_7 (by decide) (fun c1 => ?_) (fun c1 => ?_)
    · replace h := h.1 c1
      refine lv_iconst (v := 0) hC.1 hC.2.1 dX7_endToday_55 (by decide) ?_
      refine lv_istore_n (lv' := [(1, .int 0), (0, .ref (lay 0))]) hC.1 hC.2.1 dX7_endToday_56 rfl hl (by decide) rfl (fun ls hl => ?_)
      obtain ⟨n1, h⟩ := h
      exact l_X7_endToday_57 hC hr hlocks hT n1 _ _ h _ _ _ G (lv_sub hl [1, 0] rfl)
    · replace h := h.2 c1
      refine lv_aload_n hC.1 hC.2.1 dX7_endToday_10 rfl (lv_at hl 0 rfl) ?_
      refine ag_get hC hT G (by decide) e_ag k_X7 i_X7_endToday_X7 3 (by decide) (wm 2 rfl) rfl dX7_endToday_11 ?_
      refine lv_iload_n hC.1 hC.2.1 dX7_endToday_14 rfl (lv_at hl 1 rfl) ?_
      obtain ⟨hn8, h⟩ := h
      refine ag_aald hC hT G (by decide) _ rfl e_wds hn8 dX7_endToday_15 ?_
      refine ag_get hC hT G (k_wd (vlt hn8)) (e_wd (vlt hn8)) k_X6 i_X7_endToday_X6 1 (by decide) (wm 3 rfl) rfl dX7_endToday_16 ?_
      refine lv_aload_n hC.1 hC.2.1 dX7_endToday_19 rfl (lv_at hl 0 rfl) ?_
      refine ag_get hC hT G (by decide) e_ag k_X7 i_X7_endToday_X7 9 (by decide) (wm 4 rfl) rfl dX7_endToday_20 ?_
      refine lv_icmp_ne (tgt := 49) hC.1 hC.2.1 dX7_endToday_23 (by decide) (fun c9 => ?_) (fun c9 => ?_)
      · replace h := h.2 c9
        refine lv_iinc (v := v1 + 1) (lv' := [(1, .int (v1 + 1)), (0, .ref (lay 0))]) hC.1 hC.2.1 dX7_endToday_49 hl (k := 1) rfl rfl (by decide) rfl (fun ls hl => ?_)
        refine lv_goto (tgt := 2) hC.1 hC.2.1 dX7_endToday_52 (by decide) ?_
        exact ih _ _ h _ _ _ G (lv_sub hl [1, 0] rfl)
      · replace h := h.1 c9
        refine lv_aload_n hC.1 hC.2.1 dX7_endToday_26 rfl (lv_at hl 0 rfl) ?_
        refine ag_get hC hT G (by decide) e_ag k_X7 i_X7_endToday_X7 3 (by decide) (wm 2 rfl) rfl dX7_endToday_27 ?_
        refine lv_iload_n hC.1 hC.2.1 dX7_endToday_30 rfl (lv_at hl 1 rfl) ?_
        obtain ⟨hn10, h⟩ := h
        refine ag_aald hC hT G (by decide) _ rfl e_wds hn10 dX7_endToday_31 ?_
        refine ag_get hC hT G (k_wd (vlt hn10)) (e_wd (vlt hn10)) k_X6 i_X7_endToday_X6 7 (by decide) (wm 5 rfl) rfl dX7_endToday_32 ?_
        refine lv_iconst (v := 1) hC.1 hC.2.1 dX7_endToday_35 (by decide) ?_
        refine lv_icmp_ne (tgt := 49) hC.1 hC.2.1 dX7_endToday_36 (by decide) (fun c11 => ?_) (fun c11 => ?_)
        · replace h := h.2 c11
          refine lv_iinc (v := v1 + 1) (lv' := [(1, .int (v1 + 1)), (0, .ref (lay 0))]) hC.1 hC.2.1 dX7_endToday_49 hl (k := 1) rfl rfl (by decide) rfl (fun ls hl => ?_)
          refine lv_goto (tgt := 2) hC.1 hC.2.1 dX7_endToday_52 (by decide) ?_
          exact ih _ _ h _ _ _ G (lv_sub hl [1, 0] rfl)
        · replace h := h.1 c11
          refine lv_aload_n hC.1 hC.2.1 dX7_endToday_39 rfl (lv_at hl 0 rfl) ?_
          refine lv_aload_n hC.1 hC.2.1 dX7_endToday_40 rfl (lv_at hl 0 rfl) ?_
          refine ag_get hC hT G (by decide) e_ag k_X7 i_X7_endToday_X7 3 (by decide) (wm 2 rfl) rfl dX7_endToday_41 ?_
          refine lv_iload_n hC.1 hC.2.1 dX7_endToday_44 rfl (lv_at hl 1 rfl) ?_
          obtain ⟨hn12, h⟩ := h
          refine ag_aald hC hT G (by decide) _ rfl e_wds hn12 dX7_endToday_45 ?_
          refine ag_v G (ag_runV (As := [.ref (lay (73 + (Int32.toNatClampNeg v1)))]) (rest := []) hC hT G (c_X7_playOut l D cy lay h (vlt hn12) _) (cwV 1 hC.2.2.2.2 gX7_endToday_X7_playOut rfl rfl rfl hdV_X7_playOut ⟨Nat.le_of_ble_eq_true rfl, Nat.le_of_ble_eq_true rfl⟩) (ag_recv hT G (by decide) e_ag k_X7) rfl hl.1 rfl (Nat.le_of_ble_eq_true rfl) dX7_endToday_46 ⟨Nat.le_of_ble_eq_true rfl, Nat.le_of_ble_eq_true rfl⟩) (fun σ13 H locs h G => ?_)
          (try dsimp only at h)
          refine lv_iinc (v := v1 + 1) (lv' := [(1, .int (v1 + 1)), (0, .ref (lay 0))]) hC.1 hC.2.1 dX7_endToday_49 hl (k := 1) rfl rfl (by decide) rfl (fun ls hl => ?_)
          refine lv_goto (tgt := 2) hC.1 hC.2.1 dX7_endToday_52 (by decide) ?_
          exact ih _ _ h _ _ _ G (lv_sub hl [1, 0] rfl)
def w_X7_endToday (post : MS → Prop) (σ : MS) : Prop := (∃ k, u_X7_endToday_2 post k σ 0)
set_option maxHeartbeats 4000000 in
set_option maxRecDepth 100000 in
theorem c_X7_endToday (l : Launch) (D : va_G) (cy : Nat → ClassId) (lay : Nat → Nat) {σ : MS} {post : MS → Prop} (h : w_X7_endToday post σ) (sz : Nat) : Met l yX7_endToday wsX7_endToday rm_X7_endToday (va_Pc [.ref (lay 0)] (agI D cy lay σ sz)) (va_Qv post (agO D cy lay) (agA lay sz)) 0 0 (agA lay sz) := by
  refine ag_ofW (cc := cX7_endToday) (maxL := 2) (ret := none) (own := RX7) (Qc := fun sz => va_Qv post (agO D cy lay) (agA lay sz)) (by decide) rfl (Nat.le_of_ble_eq_true rfl) rfl ?_
  intro p e s m args below meth c ls hC hr hlocks hT G hl
  unfold w_X7_endToday at h
  have hl : lv_has ls 2 [(0, .ref (lay 0))] := hl
  refine lv_iconst (v := 0) hC.1 hC.2.1 dX7_endToday_0 (by decide) ?_
  refine lv_istore_n (lv' := [(1, .int 0), (0, .ref (lay 0))]) hC.1 hC.2.1 dX7_endToday_1 rfl hl (by decide) rfl (fun ls hl => ?_)
  obtain ⟨n1, h⟩ := h
  exact l_X7_endToday_2 hC hr hlocks hT n1 _ _ h _ _ _ G (lv_sub hl [1, 0] rfl)
theorem hdV_X7_endToday : yX7_endToday.cls = RX7 ∧ yX7_endToday.cls ≠ "java/lang/invoke/MethodHandle" ∧ yX7_endToday.cls ≠ "java/lang/invoke/VarHandle" ∧ (parseMethodDescriptor yX7_endToday.desc).map (fun d => d.parameters.length) = some 0 := by decide +kernel
