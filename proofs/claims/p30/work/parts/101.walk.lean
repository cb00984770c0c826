abbrev rm_X6_isFixedWith : Room := { frames := 1, cells := 0, slots := 0, locals := 21 }
theorem i_X6_isFixedWith_X6 : ∀ w ∈ wsX60, w ∈ wsX6_isFixedWith := fun _ h => List.mem_cons_of_mem _ (List.mem_append_right _ h)
def w_X6_isFixedWith (post : Int32 → MS → Prop) (σ : MS) (i0 : Nat) (a1 : Int32) : Prop := (((σ (73 + i0) 7) = 1 → w_X7_has (fun r3 σ2 => ((r3 = 0 → post 0 σ2) ∧ (¬ r3 = 0 → post 1 σ2))) σ (σ (73 + i0) 8) a1) ∧ (¬ (σ (73 + i0) 7) = 1 → post 0 σ))
set_option maxHeartbeats 4000000 in
set_option maxRecDepth 100000 in
theorem c_X6_isFixedWith (l : Launch) (D : va_G) (cy : Nat → ClassId) (lay : Nat → Nat) {σ : MS} {post : Int32 → MS → Prop} {i0 : Nat} {a1 : Int32} (h : w_X6_isFixedWith post σ i0 a1) (hi0 : i0 < 14) (sz : Nat) : Met l yX6_isFixedWith wsX6_isFixedWith rm_X6_isFixedWith (va_Pc [.ref (lay (73 + i0)), .int a1] (agI D cy lay σ sz)) (va_Qi post (agO D cy lay) (agA lay sz)) 0 0 (agA lay sz) := by
  refine ag_ofW (cc := cX6_isFixedWith) (maxL := 2) (ret := some .boolean) (own := RX6) (Qc := fun sz => va_Qi post (agO D cy lay) (agA lay sz)) (by decide) rfl (Nat.le_of_ble_eq_true rfl) rfl ?_
  intro p e s m args below meth c ls hC hr hlocks hT G hl
  unfold w_X6_isFixedWith at h
  have hl : lv_has ls 2 [(0, .ref (lay (73 + i0))), (1, .int a1)] := hl
  refine lv_aload_n hC.1 hC.2.1 dX6_isFixedWith_0 rfl (lv_at hl 0 rfl) ?_
  refine ag_get hC hT G (k_wd hi0) (e_wd hi0) k_X6 i_X6_isFixedWith_X6 7 (by decide) (wm 1 rfl) rfl dX6_isFixedWith_1 ?_
  refine lv_iconst (v := 1) hC.1 hC.2.1 dX6_isFixedWith_4 (by decide) ?_
  refine lv_icmp_ne (tgt := 23) hC.1 hC.2.1 dX6_isFixedWith_5 (by decide) (fun c1 => ?_) (fun c1 => ?_)
  · replace h := h.2 c1
    refine lv_iconst (v := 0) hC.1 hC.2.1 dX6_isFixedWith_23 (by decide) ?_
    exact ag_zret hC hr hlocks G rfl h dX6_isFixedWith_24
  · replace h := h.1 c1
    refine lv_aload_n hC.1 hC.2.1 dX6_isFixedWith_8 rfl (lv_at hl 0 rfl) ?_
    refine ag_get hC hT G (k_wd hi0) (e_wd hi0) k_X6 i_X6_isFixedWith_X6 8 (by decide) (wm 2 rfl) rfl dX6_isFixedWith_9 ?_
    refine lv_iload_n hC.1 hC.2.1 dX6_isFixedWith_12 rfl (lv_at hl 1 rfl) ?_
    refine ag_i G (ag_runSN (As := [.int (σ (73 + i0) 8), .int a1]) (rest := []) hC hT G (c_X7_has l D cy lay h _) ⟨va_cnB 2 hC.2.2.2.2 ggX6_isFixedWith_X7_has rfl rfl rfl (hT.2.1 _ (wm 34 rfl)) (hC.2.2.2.2 (.initialized RX7) (wm 4 rfl)) hdS_X7_has ⟨Nat.le_of_ble_eq_true rfl, Nat.le_of_ble_eq_true rfl⟩, hC.2.2.2.2 (.static yX7_has) (wm 3 rfl), trivial⟩ rfl hl.1 rfl (Nat.le_of_ble_eq_true rfl) dX6_isFixedWith_13 ⟨Nat.le_of_ble_eq_true rfl, Nat.le_of_ble_eq_true rfl⟩) (fun r3 σ2 H locs h G => ?_)
    (try dsimp only at h)
    refine lv_if_eq (tgt := 23) hC.1 hC.2.1 dX6_isFixedWith_16 (by decide) (fun c4 => ?_) (fun c4 => ?_)
    · replace h := h.1 c4
      refine lv_iconst (v := 0) hC.1 hC.2.1 dX6_isFixedWith_23 (by decide) ?_
      exact ag_zret hC hr hlocks G rfl h dX6_isFixedWith_24
    · replace h := h.2 c4
      refine lv_iconst (v := 1) hC.1 hC.2.1 dX6_isFixedWith_19 (by decide) ?_
      refine lv_goto (tgt := 24) hC.1 hC.2.1 dX6_isFixedWith_20 (by decide) ?_
      exact ag_zret hC hr hlocks G rfl h dX6_isFixedWith_24
theorem hdV_X6_isFixedWith : yX6_isFixedWith.cls = RX6 ∧ yX6_isFixedWith.cls ≠ "java/lang/invoke/MethodHandle" ∧ yX6_isFixedWith.cls ≠ "java/lang/invoke/VarHandle" ∧ (parseMethodDescriptor yX6_isFixedWith.desc).map (fun d => d.parameters.length) = some 1 := by decide +kernel
abbrev rm_X5_fitsBeside : Room := { frames := 1, cells := 0, slots := 0, locals := 13 }
theorem i_X5_fitsBeside_X5 : ∀ w ∈ wsX50, w ∈ wsX5_fitsBeside := fun _ h => List.mem_cons_of_mem _ (List.mem_append_right _ h)
def w_X5_fitsBeside (post : Int32 → MS → Prop) (σ : MS) (i0 : Nat) (i1 : Nat) : Prop := (((if 0 ≤ ((σ (39 + i0) 0) - (σ (39 + i1) 0)) then ((σ (39 + i0) 0) - (σ (39 + i1) 0)) else 0 - ((σ (39 + i0) 0) - (σ (39 + i1) 0))) ≤ 2 → post 1 σ) ∧ (¬ (if 0 ≤ ((σ (39 + i0) 0) - (σ (39 + i1) 0)) then ((σ (39 + i0) 0) - (σ (39 + i1) 0)) else 0 - ((σ (39 + i0) 0) - (σ (39 + i1) 0))) ≤ 2 → (((if 0 ≤ ((σ (39 + i0) 0) - (σ (39 + i1) 0)) then ((σ (39 + i0) 0) - (σ (39 + i1) 0)) else 0 - ((σ (39 + i0) 0) - (σ (39 + i1) 0))) < 10 → post 0 σ) ∧ (¬ (if 0 ≤ ((σ (39 + i0) 0) - (σ (39 + i1) 0)) then ((σ (39 + i0) 0) - (σ (39 + i1) 0)) else 0 - ((σ (39 + i0) 0) - (σ (39 + i1) 0))) < 10 → post 1 σ))))
set_option maxHeartbeats 4000000 in
set_option maxRecDepth 100000 in
theorem c_X5_fitsBeside (l : Launch) (D : va_G) (cy : Nat → ClassId) (lay : Nat → Nat) {σ : MS} {post : Int32 → MS → Prop} {i0 : Nat} {i1 : Nat} (h : w_X5_fitsBeside post σ i0 i1) (hi0 : i0 < 16) (hi1 : i1 < 16) (sz : Nat) : Met l yX5_fitsBeside wsX5_fitsBeside rm_X5_fitsBeside (va_Pc [.ref (lay (39 + i0)), .ref (lay (39 + i1))] (agI D cy lay σ sz)) (va_Qi post (agO D cy lay) (agA lay sz)) 0 0 (agA lay sz) := by
  refine ag_ofW (cc := cX5_fitsBeside) (maxL := 3) (ret := some .boolean) (own := RX5) (Qc := fun sz => va_Qi post (agO D cy lay) (agA lay sz)) (by decide) rfl (Nat.le_of_ble_eq_true rfl) rfl ?_
  intro p e s m args below meth c ls hC hr hlocks hT G hl
  unfold w_X5_fitsBeside at h
  have hl : lv_has ls 3 [(0, .ref (lay (39 + i0))), (1, .ref (lay (39 + i1)))] := hl
  refine lv_aload_n hC.1 hC.2.1 dX5_fitsBeside_0 rfl (lv_at hl 0 rfl) ?_
  refine ag_get hC hT G (k_sg hi0) (e_sg hi0) k_X5 i_X5_fitsBeside_X5 0 (by decide) (wm 1 rfl) rfl dX5_fitsBeside_1 ?_
  refine lv_aload_n hC.1 hC.2.1 dX5_fitsBeside_4 rfl (lv_at hl 1 rfl) ?_
  refine ag_get hC hT G (k_sg hi1) (e_sg hi1) k_X5 i_X5_fitsBeside_X5 0 (by decide) (wm 1 rfl) rfl dX5_fitsBeside_5 ?_
  refine lv_isub hC.1 hC.2.1 dX5_fitsBeside_8 ?_
  refine va_mabs hC.1 hC.2.1 (hC.2.2.1.trans hl.1.symm) hC.2.2.2.1 (hC.2.2.2.2 _ (wm 2 rfl)) (hC.2.2.2.2 _ (wm 3 rfl)) (hC.2.2.2.2 _ (wm 4 rfl)) (hC.2.2.2.2 _ (wm 5 rfl)) (Nat.le_of_ble_eq_true rfl) (Nat.le_of_ble_eq_true rfl) (Nat.le_of_ble_eq_true rfl) (Nat.le_of_ble_eq_true rfl) dX5_fitsBeside_9 ?_
  refine lv_istore_n (lv' := [(2, .int (if 0 ≤ ((σ (39 + i0) 0) - (σ (39 + i1) 0)) then ((σ (39 + i0) 0) - (σ (39 + i1) 0)) else 0 - ((σ (39 + i0) 0) - (σ (39 + i1) 0)))), (0, .ref (lay (39 + i0))), (1, .ref (lay (39 + i1)))]) hC.1 hC.2.1 dX5_fitsBeside_12 rfl hl (by decide) rfl (fun ls hl => ?_)
  refine lv_iload_n hC.1 hC.2.1 dX5_fitsBeside_13 rfl (lv_at hl 0 rfl) ?_
  refine lv_iconst (v := 2) hC.1 hC.2.1 dX5_fitsBeside_14 (by decide) ?_
  refine lv_icmp_le (tgt := 24) hC.1 hC.2.1 dX5_fitsBeside_15 (by decide) (fun c1 => ?_) (fun c1 => ?_)
  · replace h := h.1 c1
    refine lv_iconst (v := 1) hC.1 hC.2.1 dX5_fitsBeside_24 (by decide) ?_
    refine lv_goto (tgt := 29) hC.1 hC.2.1 dX5_fitsBeside_25 (by decide) ?_
    exact ag_zret hC hr hlocks G rfl h dX5_fitsBeside_29
  · replace h := h.2 c1
    refine lv_iload_n hC.1 hC.2.1 dX5_fitsBeside_18 rfl (lv_at hl 0 rfl) ?_
    refine lv_bipush (v := 10) hC.1 hC.2.1 dX5_fitsBeside_19 (by decide) ?_
    refine lv_icmp_lt (tgt := 28) hC.1 hC.2.1 dX5_fitsBeside_21 (by decide) (fun c2 => ?_) (fun c2 => ?_)
    · replace h := h.1 c2
      refine lv_iconst (v := 0) hC.1 hC.2.1 dX5_fitsBeside_28 (by decide) ?_
      exact ag_zret hC hr hlocks G rfl h dX5_fitsBeside_29
    · replace h := h.2 c2
      refine lv_iconst (v := 1) hC.1 hC.2.1 dX5_fitsBeside_24 (by decide) ?_
      refine lv_goto (tgt := 29) hC.1 hC.2.1 dX5_fitsBeside_25 (by decide) ?_
      exact ag_zret hC hr hlocks G rfl h dX5_fitsBeside_29
theorem hdV_X5_fitsBeside : yX5_fitsBeside.cls = RX5 ∧ yX5_fitsBeside.cls ≠ "java/lang/invoke/MethodHandle" ∧ yX5_fitsBeside.cls ≠ "java/lang/invoke/VarHandle" ∧ (parseMethodDescriptor yX5_fitsBeside.desc).map (fun d => d.parameters.length) = some 1 := by decide +kernel
abbrev rm_X4_between : Room := { frames := 0, cells := 0, slots := 0, locals := 0 }
theorem i_X4_between_X4 : ∀ w ∈ wsX40, w ∈ wsX4_between := fun _ h => List.mem_cons_of_mem _ (List.mem_append_right _ h)
def w_X4_between (post : Int32 → MS → Prop) (σ : MS) (a1 : Int32) (a2 : Int32) : Prop := (vp_in a1 6 ∧ (vp_in a2 6 ∧ post (σ (23 + (Int32.toNatClampNeg a1)) (Int32.toNatClampNeg a2)) σ))
set_option maxHeartbeats 4000000 in
set_option maxRecDepth 100000 in
theorem c_X4_between (l : Launch) (D : va_G) (cy : Nat → ClassId) (lay : Nat → Nat) {σ : MS} {post : Int32 → MS → Prop} {a1 : Int32} {a2 : Int32} (h : w_X4_between post σ a1 a2) (sz : Nat) : Met l yX4_between wsX4_between rm_X4_between (va_Pc [.ref (lay 5), .int a1, .int a2] (agI D cy lay σ sz)) (va_Qi post (agO D cy lay) (agA lay sz)) 0 0 (agA lay sz) := by
  refine ag_ofW (cc := cX4_between) (maxL := 3) (ret := some .int) (own := RX4) (Qc := fun sz => va_Qi post (agO D cy lay) (agA lay sz)) (by decide) rfl (Nat.le_of_ble_eq_true rfl) rfl ?_
  intro p e s m args below meth c ls hC hr hlocks hT G hl
  unfold w_X4_between at h
  have hl : lv_has ls 3 [(0, .ref (lay 5)), (1, .int a1), (2, .int a2)] := hl
  refine lv_aload_n hC.1 hC.2.1 dX4_between_0 rfl (lv_at hl 0 rfl) ?_
  refine ag_get hC hT G (by decide) e_rd k_X4 i_X4_between_X4 1 (by decide) (wm 1 rfl) rfl dX4_between_1 ?_
  refine lv_iload_n hC.1 hC.2.1 dX4_between_4 rfl (lv_at hl 1 rfl) ?_
  obtain ⟨hn1, h⟩ := h
  refine ag_aalda hC hT G (by decide) e_wys hn1 dX4_between_5 ?_
  refine lv_iload_n hC.1 hC.2.1 dX4_between_6 rfl (lv_at hl 2 rfl) ?_
  obtain ⟨hn2, h⟩ := h
  refine ag_iald hC hT G (k_wyr (vlt hn1)) (e_wyr (vlt hn1)) hn2 dX4_between_7 ?_
  exact ag_iret hC hr hlocks G h dX4_between_8
theorem hdV_X4_between : yX4_between.cls = RX4 ∧ yX4_between.cls ≠ "java/lang/invoke/MethodHandle" ∧ yX4_between.cls ≠ "java/lang/invoke/VarHandle" ∧ (parseMethodDescriptor yX4_between.desc).map (fun d => d.parameters.length) = some 2 := by decide +kernel
abbrev rm_X4_shortenOver : Room := { frames := 1, cells := 0, slots := 0, locals := 15 }
theorem i_X4_shortenOver_X4 : ∀ w ∈ wsX40, w ∈ wsX4_shortenOver := fun _ h => List.mem_cons_of_mem _ (List.mem_append_right _ h)
def u_X4_shortenOver_10 (post : MS → Prop) (a1 : Int32) (K2 : MS → Int32 → Prop) : Nat → MS → Int32 → Int32 → Prop
  | 0, _, _, _ => False
  | n + 1, σ, v2, v3 => ((6 ≤ v3 → K2 σ (v2 + 1)) ∧ (¬ 6 ≤ v3 → (vp_in v2 6 ∧ (vp_in a1 6 ∧ (((σ (23 + (Int32.toNatClampNeg v2)) (Int32.toNatClampNeg a1)) = (-1) → u_X4_shortenOver_10 post a1 K2 n σ v2 (v3 + 1)) ∧ (¬ (σ (23 + (Int32.toNatClampNeg v2)) (Int32.toNatClampNeg a1)) = (-1) → (vp_in a1 6 ∧ (vp_in v3 6 ∧ (((σ (23 + (Int32.toNatClampNeg a1)) (Int32.toNatClampNeg v3)) = (-1) → u_X4_shortenOver_10 post a1 K2 n σ v2 (v3 + 1)) ∧ (¬ (σ (23 + (Int32.toNatClampNeg a1)) (Int32.toNatClampNeg v3)) = (-1) → (vp_in v2 6 ∧ (vp_in a1 6 ∧ (vp_in a1 6 ∧ (vp_in v3 6 ∧ (vp_in v2 6 ∧ (vp_in v2 6 ∧ (vp_in v3 6 ∧ (((σ (23 + (Int32.toNatClampNeg v2)) (Int32.toNatClampNeg v3)) = (-1) → (vp_in v3 6 ∧ u_X4_shortenOver_10 post a1 K2 n (up2 σ (23 + (Int32.toNatClampNeg v2)) (Int32.toNatClampNeg v3) ((σ (23 + (Int32.toNatClampNeg v2)) (Int32.toNatClampNeg a1)) + (σ (23 + (Int32.toNatClampNeg a1)) (Int32.toNatClampNeg v3)))) v2 (v3 + 1))) ∧ (¬ (σ (23 + (Int32.toNatClampNeg v2)) (Int32.toNatClampNeg v3)) = (-1) → (vp_in v2 6 ∧ (vp_in v3 6 ∧ (vp_in v3 6 ∧ u_X4_shortenOver_10 post a1 K2 n (up2 σ (23 + (Int32.toNatClampNeg v2)) (Int32.toNatClampNeg v3) (if ((σ (23 + (Int32.toNatClampNeg v2)) (Int32.toNatClampNeg a1)) + (σ (23 + (Int32.toNatClampNeg a1)) (Int32.toNatClampNeg v3))) < (σ (23 + (Int32.toNatClampNeg v2)) (Int32.toNatClampNeg v3)) then ((σ (23 + (Int32.toNatClampNeg v2)) (Int32.toNatClampNeg a1)) + (σ (23 + (Int32.toNatClampNeg a1)) (Int32.toNatClampNeg v3))) else (σ (23 + (Int32.toNatClampNeg v2)) (Int32.toNatClampNeg v3)))) v2 (v3 + 1)))))))))))))))))))))))
set_option maxHeartbeats 4000000 in
set_option maxRecDepth 100000 in
theorem l_X4_shortenOver_10 {p : Program} {l : Launch} {e : Env} {s : State} {m : MethodId} {args : Array Value} {below : List Frame} {meth : Method} {c : Code} {D : va_G} {cy : Nat → ClassId} {lay : Nat → Nat} {post : MS → Prop} (a1 : Int32) (K2 : MS → Int32 → Prop) (hC : CallFix p m c cX4_shortenOver 5 s args wsX4_shortenOver RX4) (hr : meth.sig.returnType = none) (hlocks : meth.locks = false) (hT : agT D cy lay s) (hK2 : ∀ (σ : MS) (v2 : Int32), K2 σ v2 → ∀ (H : Heap) (locs : List Loc) (ls : Array Slot), agG D cy lay σ (agA lay s.heap.size) s.heap H locs → lv_has ls 5 [(0, .ref (lay 5)), (1, .int a1), (2, .int v2)] → W p l e rm_X4_shortenOver s m args below meth c H locs 0 0 (MQ below (va_Qv post (agO D cy lay) (agA lay s.heap.size)) args s 0 0 (agA lay s.heap.size)) (F0 m 2 ls [])) : ∀ (n : Nat), ∀ (σ : MS) (v2 : Int32) (v3 : Int32), u_X4_shortenOver_10 post a1 K2 n σ v2 v3 → ∀ (H : Heap) (locs : List Loc) (ls : Array Slot), agG D cy lay σ (agA lay s.heap.size) s.heap H locs → lv_has ls 5 [(0, .ref (lay 5)), (1, .int a1), (2, .int v2), (3, .int v3)] → W p l e rm_X4_shortenOver s m args below meth c H locs 0 0 (MQ below (va_Qv post (agO D cy lay) (agA lay s.heap.size)) args s 0 0 (agA lay s.heap.size)) (F0 m 10 ls []) := by
  intro n
  induction n with
  | zero =>
    intro σ v2 v3 h
    exact h.elim
  | succ n ih =>
    intro σ v2 v3 h H locs ls G hl
    rw [u_X4_shortenOver_10] at h
    refine lv_iload_n hC.1 hC.2.1 dX4_shortenOver_10 rfl (lv_at hl 3 rfl) ?_
    refine lv_bipush (v := 6) hC.1 hC.2.1 dX4_shortenOver_11 (by decide) ?_
    refine lv_icmp_ge (tgt := 103) hC.1 hC.2.1 dX4_shortenOver_13 (by decide) (fun c2 => ?_) (fun c2 => ?_)
    · replace h := h.1 c2
      refine lv_iinc (v := v2 + 1) (lv' := [(2, .int (v2 + 1)), (0, .ref (lay 5)), (1, .int a1), (3, .int v3)]) hC.1 hC.2.1 dX4_shortenOver_103 hl (k := 2) rfl rfl (by decide) rfl (fun ls hl => ?_)
      refine lv_goto (tgt := 2) hC.1 hC.2.1 dX4_shortenOver_106 (by decide) ?_
      exact hK2 _ _ h _ _ _ G (lv_sub hl [1, 2, 0] rfl)
    · replace h := h.2 c2
      refine lv_aload_n hC.1 hC.2.1 dX4_shortenOver_16 rfl (lv_at hl 0 rfl) ?_
      refine ag_get hC hT G (by decide) e_rd k_X4 i_X4_shortenOver_X4 1 (by decide) (wm 1 rfl) rfl dX4_shortenOver_17 ?_
      refine lv_iload_n hC.1 hC.2.1 dX4_shortenOver_20 rfl (lv_at hl 2 rfl) ?_
      obtain ⟨hn3, h⟩ := h
      refine ag_aalda hC hT G (by decide) e_wys hn3 dX4_shortenOver_21 ?_
      refine lv_iload_n hC.1 hC.2.1 dX4_shortenOver_22 rfl (lv_at hl 1 rfl) ?_
      obtain ⟨hn4, h⟩ := h
      refine ag_iald hC hT G (k_wyr (vlt hn3)) (e_wyr (vlt hn3)) hn4 dX4_shortenOver_23 ?_
      refine lv_iconst (v := (-1)) hC.1 hC.2.1 dX4_shortenOver_24 (by decide) ?_
      refine lv_icmp_eq (tgt := 97) hC.1 hC.2.1 dX4_shortenOver_25 (by decide) (fun c5 => ?_) (fun c5 => ?_)
      · replace h := h.1 c5
        refine lv_iinc (v := v3 + 1) (lv' := [(3, .int (v3 + 1)), (0, .ref (lay 5)), (1, .int a1), (2, .int v2)]) hC.1 hC.2.1 dX4_shortenOver_97 hl (k := 3) rfl rfl (by decide) rfl (fun ls hl => ?_)
        refine lv_goto (tgt := 10) hC.1 hC.2.1 dX4_shortenOver_100 (by decide) ?_
        exact ih _ _ _ h _ _ _ G (lv_sub hl [1, 2, 3, 0] rfl)
      · replace h := h.2 c5
        refine lv_aload_n hC.1 hC.2.1 dX4_shortenOver_28 rfl (lv_at hl 0 rfl) ?_
        refine ag_get hC hT G (by decide) e_rd k_X4 i_X4_shortenOver_X4 1 (by decide) (wm 1 rfl) rfl dX4_shortenOver_29 ?_
        refine lv_iload_n hC.1 hC.2.1 dX4_shortenOver_32 rfl (lv_at hl 1 rfl) ?_
        obtain ⟨hn6, h⟩ := h
        refine ag_aalda hC hT G (by decide) e_wys hn6 dX4_shortenOver_33 ?_
        refine lv_iload_n hC.1 hC.2.1 dX4_shortenOver_34 rfl (lv_at hl 3 rfl) ?_
        obtain ⟨hn7, h⟩ := h
        refine ag_iald hC hT G (k_wyr (vlt hn6)) (e_wyr (vlt hn6)) hn7 dX4_shortenOver_35 ?_
        refine lv_iconst (v := (-1)) hC.1 hC.2.1 dX4_shortenOver_36 (by decide) ?_
        refine lv_icmp_eq (tgt := 97) hC.1 hC.2.1 dX4_shortenOver_37 (by decide) (fun c8 => ?_) (fun c8 => ?_)
        · replace h := h.1 c8
          refine lv_iinc (v := v3 + 1) (lv' := [(3, .int (v3 + 1)), (0, .ref (lay 5)), (1, .int a1), (2, .int v2)]) hC.1 hC.2.1 dX4_shortenOver_97 hl (k := 3) rfl rfl (by decide) rfl (fun ls hl => ?_)
          refine lv_goto (tgt := 10) hC.1 hC.2.1 dX4_shortenOver_100 (by decide) ?_
          exact ih _ _ _ h _ _ _ G (lv_sub hl [1, 2, 3, 0] rfl)
        · replace h := h.2 c8
          refine lv_aload_n hC.1 hC.2.1 dX4_shortenOver_40 rfl (lv_at hl 0 rfl) ?_
          refine ag_get hC hT G (by decide) e_rd k_X4 i_X4_shortenOver_X4 1 (by decide) (wm 1 rfl) rfl dX4_shortenOver_41 ?_
          refine lv_iload_n hC.1 hC.2.1 dX4_shortenOver_44 rfl (lv_at hl 2 rfl) ?_
          obtain ⟨hn9, h⟩ := h
          refine ag_aalda hC hT G (by decide) e_wys hn9 dX4_shortenOver_45 ?_
          refine lv_iload_n hC.1 hC.2.1 dX4_shortenOver_46 rfl (lv_at hl 1 rfl) ?_
          obtain ⟨hn10, h⟩ := h
          refine ag_iald hC hT G (k_wyr (vlt hn9)) (e_wyr (vlt hn9)) hn10 dX4_shortenOver_47 ?_
          refine lv_aload_n hC.1 hC.2.1 dX4_shortenOver_48 rfl (lv_at hl 0 rfl) ?_
          refine ag_get hC hT G (by decide) e_rd k_X4 i_X4_shortenOver_X4 1 (by decide) (wm 1 rfl) rfl dX4_shortenOver_49 ?_
          refine lv_iload_n hC.1 hC.2.1 dX4_shortenOver_52 rfl (lv_at hl 1 rfl) ?_
          obtain ⟨hn11, h⟩ := h
          refine ag_aalda hC hT G (by decide) e_wys hn11 dX4_shortenOver_53 ?_
          refine lv_iload_n hC.1 hC.2.1 dX4_shortenOver_54 rfl (lv_at hl 3 rfl) ?_
          obtain ⟨hn12, h⟩ := h
          refine ag_iald hC hT G (k_wyr (vlt hn11)) (e_wyr (vlt hn11)) hn12 dX4_shortenOver_55 ?_
          refine lv_iadd hC.1 hC.2.1 dX4_shortenOver_56 ?_
          refine lv_istore (lv' := [(4, .int ((σ (23 + (Int32.toNatClampNeg v2)) (Int32.toNatClampNeg a1)) + (σ (23 + (Int32.toNatClampNeg a1)) (Int32.toNatClampNeg v3)))), (0, .ref (lay 5)), (1, .int a1), (2, .int v2), (3, .int v3)]) hC.1 hC.2.1 dX4_shortenOver_57 hl (by decide) rfl (fun ls hl => ?_)
          refine lv_aload_n hC.1 hC.2.1 dX4_shortenOver_59 rfl (lv_at hl 1 rfl) ?_
          refine ag_get hC hT G (by decide) e_rd k_X4 i_X4_shortenOver_X4 1 (by decide) (wm 1 rfl) rfl dX4_shortenOver_60 ?_
          refine lv_iload_n hC.1 hC.2.1 dX4_shortenOver_63 rfl (lv_at hl 3 rfl) ?_
          obtain ⟨hn13, h⟩ := h
          refine ag_aalda hC hT G (by decide) e_wys hn13 dX4_shortenOver_64 ?_
          refine lv_iload_n hC.1 hC.2.1 dX4_shortenOver_65 rfl (lv_at hl 4 rfl) ?_
          refine lv_aload_n hC.1 hC.2.1 dX4_shortenOver_66 rfl (lv_at hl 1 rfl) ?_
          refine ag_get hC hT G (by decide) e_rd k_X4 i_X4_shortenOver_X4 1 (by decide) (wm 1 rfl) rfl dX4_shortenOver_67 ?_
          refine lv_iload_n hC.1 hC.2.1 dX4_shortenOver_70 rfl (lv_at hl 3 rfl) ?_
          obtain ⟨hn14, h⟩ := h
          refine ag_aalda hC hT G (by decide) e_wys hn14 dX4_shortenOver_71 ?_
          refine lv_iload_n hC.1 hC.2.1 dX4_shortenOver_72 rfl (lv_at hl 4 rfl) ?_
          obtain ⟨hn15, h⟩ := h
          refine ag_iald hC hT G (k_wyr (vlt hn14)) (e_wyr (vlt hn14)) hn15 dX4_shortenOver_73 ?_
          refine lv_iconst (v := (-1)) hC.1 hC.2.1 dX4_shortenOver_74 (by decide) ?_
          refine lv_icmp_ne (tgt := 83) hC.1 hC.2.1 dX4_shortenOver_75 (by decide) (fun c16 => ?_) (fun c16 => ?_)
          · replace h := h.2 c16
            refine lv_aload_n hC.1 hC.2.1 dX4_shortenOver_83 rfl (lv_at hl 1 rfl) ?_
            refine ag_get hC hT G (by decide) e_rd k_X4 i_X4_shortenOver_X4 1 (by decide) (wm 1 rfl) rfl dX4_shortenOver_84 ?_
            refine lv_iload_n hC.1 hC.2.1 dX4_shortenOver_87 rfl (lv_at hl 3 rfl) ?_
            obtain ⟨hn17, h⟩ := h
            refine ag_aalda hC hT G (by decide) e_wys hn17 dX4_shortenOver_88 ?_
            refine lv_iload_n hC.1 hC.2.1 dX4_shortenOver_89 rfl (lv_at hl 4 rfl) ?_
            obtain ⟨hn18, h⟩ := h
            refine ag_iald hC hT G (k_wyr (vlt hn17)) (e_wyr (vlt hn17)) hn18 dX4_shortenOver_90 ?_
            refine lv_iload hC.1 hC.2.1 dX4_shortenOver_91 (lv_at hl 0 rfl) ?_
            refine va_mmin hC.1 hC.2.1 (hC.2.2.1.trans hl.1.symm) hC.2.2.2.1 (hC.2.2.2.2 _ (wm 2 rfl)) (hC.2.2.2.2 _ (wm 3 rfl)) (hC.2.2.2.2 _ (wm 4 rfl)) (hC.2.2.2.2 _ (wm 5 rfl)) (Nat.le_of_ble_eq_true rfl) (Nat.le_of_ble_eq_true rfl) (Nat.le_of_ble_eq_true rfl) (Nat.le_of_ble_eq_true rfl) dX4_shortenOver_93 ?_
            obtain ⟨hn19, h⟩ := h
            refine ag_iast hC hT G (k_wyr (vlt hn13)) (fun _ => (e_wyr (vlt hn13))) hn19 dX4_shortenOver_96 (fun H locs G => ?_)
            refine lv_iinc (v := v3 + 1) (lv' := [(3, .int (v3 + 1)), (4, .int ((σ (23 + (Int32.toNatClampNeg v2)) (Int32.toNatClampNeg a1)) + (σ (23 + (Int32.toNatClampNeg a1)) (Int32.toNatClampNeg v3)))), (0, .ref (lay 5)), (1, .int a1), (2, .int v2)]) hC.1 hC.2.1 dX4_shortenOver_97 hl (k := 4) rfl rfl (by decide) rfl (fun ls hl => ?_)
            refine lv_goto (tgt := 10) hC.1 hC.2.1 dX4_shortenOver_100 (by decide) ?_
            exact ih _ _ _ h _ _ _ G (lv_sub hl [2, 3, 4, 0] rfl)
          · replace h := h.1 c16
            refine lv_iload hC.1 hC.2.1 dX4_shortenOver_78 (lv_at hl 0 rfl) ?_
            refine lv_goto (tgt := 96) hC.1 hC.2.1 dX4_shortenOver_80 (by decide) ?_
            obtain ⟨hn20, h⟩ := h
            refine ag_iast hC hT G (k_wyr (vlt hn13)) (fun _ => (e_wyr (vlt hn13))) hn20 dX4_shortenOver_96 (fun H locs G => ?_)
            refine lv_iinc (v := v3 + 1) (lv' := [(3, .int (v3 + 1)), (4, .int ((σ (23 + (Int32.toNatClampNeg v2)) (Int32.toNatClampNeg a1)) + (σ (23 + (Int32.toNatClampNeg a1)) (Int32.toNatClampNeg v3)))), (0, .ref (lay 5)), (1, .int a1), (2, .int v2)]) hC.1 hC.2.1 dX4_shortenOver_97 hl (k := 4) rfl rfl (by decide) rfl (fun ls hl => ?_)
            refine lv_goto (tgt := 10) hC.1 hC.2.1 dX4_shortenOver_100 (by decide) ?_
            exact ih _ _ _ h _ _ _ G (lv_sub hl [2, 3, 4, 0] rfl)
def u_X4_shortenOver_2 (post : MS → Prop) (a1 : Int32) : Nat → MS → Int32 → Prop
  | 0, _, _ => False
  | n + 1, σ, v2 => ((6 ≤ v2 → post σ) ∧ (¬ 6 ≤ v2 → (∃ k, u_X4_shortenOver_10 post a1 (fun σ w0 => u_X4_shortenOver_2 post a1 n σ w0) k σ v2 0)))
set_option maxHeartbeats 4000000 in
set_option maxRecDepth 100000 in
theorem l_X4_shortenOver_2 {p : Program} {l : Launch} {e : Env} {s : State} {m : MethodId} {args : Array Value} {below : List Frame} {meth : Method} {c : Code} {D : va_G} {cy : Nat → ClassId} {lay : Nat → Nat} {post : MS → Prop} (a1 : Int32) (hC : CallFix p m c cX4_shortenOver 5 s args wsX4_shortenOver RX4) (hr : meth.sig.returnType = none) (hlocks : meth.locks = false) (hT : agT D cy lay s) : ∀ (n : Nat), ∀ (σ : MS) (v2 : Int32), u_X4_shortenOver_2 post a1 n σ v2 → ∀ (H : Heap) (locs : List Loc) (ls : Array Slot), agG D cy lay σ (agA lay s.heap.size) s.heap H locs → lv_has ls 5 [(0, .ref (lay 5)), (1, .int a1), (2, .int v2)] → W p l e rm_X4_shortenOver s m args below meth c H locs 0 0 (MQ below (va_Qv post (agO D cy lay) (agA lay s.heap.size)) args s 0 0 (agA lay s.heap.size)) (F0 m 2 ls []) := by
  intro n
  induction n with
  | zero =>
    intro σ v2 h
    exact h.elim
  | succ n ih =>
    intro σ v2 h H locs ls G hl
    rw [u_X4_shortenOver_2] at h
    refine lv_iload_n hC.1 hC.2.1 dX4_shortenOver_2 rfl (lv_at hl 2 rfl) ?_
    refine lv_bipush (v := 6) hC.1 hC.2.1 dX4_shortenOver_3 (by decide) ?_
    refine lv_icmp_ge (tgt := 109) hC.1 hC.2.1 dX4_shortenOver_5 (by decide) (fun c1 => ?_) (fun c1 => ?_)
    · replace h := h.1 c1
      exact ag_vret hC hr hlocks G h dX4_shortenOver_109
    · replace h := h.2 c1
      refine lv_iconst (v := 0) hC.1 hC.2.1 dX4_shortenOver_8 (by decide) ?_
      refine lv_istore_n (lv' := [(3, .int 0), (0, .ref (lay 5)), (1, .int a1), (2, .int v2)]) hC.1 hC.2.1 dX4_shortenOver_9 rfl hl (by decide) rfl (fun ls hl => ?_)
      obtain ⟨n1, h⟩ := h
      exact l_X4_shortenOver_10 a1 (fun σ w0 => u_X4_shortenOver_2 post a1 n σ w0) hC hr hlocks hT ih n1 _ _ _ h _ _ _ G (lv_sub hl [1, 2, 3, 0] rfl)
def w_X4_shortenOver (post : MS → Prop) (σ : MS) (a1 : Int32) : Prop := (∃ k, u_X4_shortenOver_2 post a1 k σ 0)
set_option maxHeartbeats 4000000 in
set_option maxRecDepth 100000 in
theorem c_X4_shortenOver (l : Launch) (D : va_G) (cy : Nat → ClassId) (lay : Nat → Nat) {σ : MS} {post : MS → Prop} {a1 : Int32} (h : w_X4_shortenOver post σ a1) (sz : Nat) : Met l yX4_shortenOver wsX4_shortenOver rm_X4_shortenOver (va_Pc [.ref (lay 5), .int a1] (agI D cy lay σ sz)) (va_Qv post (agO D cy lay) (agA lay sz)) 0 0 (agA lay sz) := by
  refine ag_ofW (cc := cX4_shortenOver) (maxL := 5) (ret := none) (own := RX4) (Qc := fun sz => va_Qv post (agO D cy lay) (agA lay sz)) (by decide) rfl (Nat.le_of_ble_eq_true rfl) rfl ?_
  intro p e s m args below meth c ls hC hr hlocks hT G hl
  unfold w_X4_shortenOver at h
  have hl : lv_has ls 5 [(0, .ref (lay 5)), (1, .int a1)] := hl
  refine lv_iconst (v := 0) hC.1 hC.2.1 dX4_shortenOver_0 (by decide) ?_
  refine lv_istore_n (lv' := [(2, .int 0), (0, .ref (lay 5)), (1, .int a1)]) hC.1 hC.2.1 dX4_shortenOver_1 rfl hl (by decide) rfl (fun ls hl => ?_)
  obtain ⟨n1, h⟩ := h
  exact l_X4_shortenOver_2 a1 hC hr hlocks hT n1 _ _ h _ _ _ G (lv_sub hl [1, 2, 0] rfl)
theorem hdV_X4_shortenOver : yX4_shortenOver.cls = RX4 ∧ yX4_shortenOver.cls ≠ "java/lang/invoke/MethodHandle" ∧ yX4_shortenOver.cls ≠ "java/lang/invoke/VarHandle" ∧ (parseMethodDescriptor yX4_shortenOver.desc).map (fun d => d.parameters.length) = some 1 := by decide +kernel
abbrev rm_X4_lay : Room := { frames := 2, cells := 0, slots := 0, locals := 39 }
theorem i_X4_lay_X4 : ∀ w ∈ wsX40, w ∈ wsX4_lay := fun _ h => List.mem_cons_of_mem _ (List.mem_append_right _ h)
def u_X4_lay_101 (post : MS → Prop) (a1 : Int32) (a2 : Int32) (a3 : Int32) : Nat → MS → Int32 → Prop
  | 0, _, _ => False
  | n + 1, σ, v4 => ((6 ≤ v4 → post σ) ∧ (¬ 6 ≤ v4 → w_X4_shortenOver (fun σ7 => u_X4_lay_101 post a1 a2 a3 n σ7 (v4 + 1)) σ v4))
set_option maxHeartbeats 4000000 in
set_option maxRecDepth 100000 in
theorem l_X4_lay_101 {p : Program} {l : Launch} {e : Env} {s : State} {m : MethodId} {args : Array Value} {below : List Frame} {meth : Method} {c : Code} {D : va_G} {cy : Nat → ClassId} {lay : Nat → Nat} {post : MS → Prop} (a1 : Int32) (a2 : Int32) (a3 : Int32) (hC : CallFix p m c cX4_lay 6 s args wsX4_lay RX4) (hr : meth.sig.returnType = none) (hlocks : meth.locks = false) (hT : agT D cy lay s) : ∀ (n : Nat), ∀ (σ : MS) (v4 : Int32), u_X4_lay_101 post a1 a2 a3 n σ v4 → ∀ (H : Heap) (locs : List Loc) (ls : Array Slot), agG D cy lay σ (agA lay s.heap.size) s.heap H locs → lv_has ls 6 [(0, .ref (lay 5)), (1, .int a1), (2, .int a2), (3, .int a3), (4, .int v4)] → W p l e rm_X4_lay s m args below meth c H locs 0 0 (MQ below (va_Qv post (agO D cy lay) (agA lay s.heap.size)) args s 0 0 (agA lay s.heap.size)) (F0 m 101 ls []) := by
  intro n
  induction n with
  | zero =>
    intro σ v4 h
    exact h.elim
  | succ n ih =>
    intro σ v4 h H locs ls G hl
    rw [u_X4_lay_101] at h
    refine lv_iload hC.1 hC.2.1 dX4_lay_101 (lv_at hl 4 rfl) ?_
    refine lv_bipush (v := 6) hC.1 hC.2.1 dX4_lay_103 (by decide) ?_
    refine lv_icmp_ge (tgt := 120) hC.1 hC.2.1 dX4_lay_105 (by decide) (fun c6 => ?_) (fun c6 => ?_)
    · replace h := h.1 c6
      exact ag_vret hC hr hlocks G h dX4_lay_120
    · replace h := h.2 c6
      refine lv_aload_n hC.1 hC.2.1 dX4_lay_108 rfl (lv_at hl 0 rfl) ?_
      refine lv_iload hC.1 hC.2.1 dX4_lay_109 (lv_at hl 4 rfl) ?_
      refine ag_v G (ag_runV (As := [.int v4]) (rest := []) hC hT G (c_X4_shortenOver l D cy lay h _) (cwV 1 hC.2.2.2.2 gX4_lay_X4_shortenOver rfl rfl rfl hdV_X4_shortenOver ⟨Nat.le_of_ble_eq_true rfl, Nat.le_of_ble_eq_true rfl⟩) (ag_recv hT G (by decide) e_rd k_X4) rfl hl.1 rfl (Nat.le_of_ble_eq_true rfl) dX4_lay_111 ⟨Nat.le_of_ble_eq_true rfl, Nat.le_of_ble_eq_true rfl⟩) (fun σ7 H locs h G => ?_)
      (try dsimp only at h)
      refine lv_iinc (v := v4 + 1) (lv' := [(4, .int (v4 + 1)), (0, .ref (lay 5)), (1, .int a1), (2, .int a2), (3, .int a3)]) hC.1 hC.2.1 dX4_lay_114 hl (k := 4) rfl rfl (by decide) rfl (fun ls hl => ?_)
      refine lv_goto (tgt := 101) hC.1 hC.2.1 dX4_lay_117 (by decide) ?_
      exact ih _ _ h _ _ _ G (lv_sub hl [1, 2, 3, 4, 0] rfl)
def u_X4_lay_31 (post : MS → Prop) (a1 : Int32) (a2 : Int32) (a3 : Int32) (K21 : MS → Int32 → Prop) : Nat → MS → Int32 → Int32 → Prop
  | 0, _, _, _ => False
  | n + 1, σ, v4, v5 => ((6 ≤ v5 → K21 σ (v4 + 1)) ∧ (¬ 6 ≤ v5 → (vp_in v4 6 ∧ ((v4 = v5 → (vp_in v5 6 ∧ u_X4_lay_31 post a1 a2 a3 K21 n (up2 σ (23 + (Int32.toNatClampNeg v4)) (Int32.toNatClampNeg v5) 0) v4 (v5 + 1))) ∧ (¬ v4 = v5 → (vp_in v4 6 ∧ (vp_in v5 6 ∧ (((σ (17 + (Int32.toNatClampNeg v4)) (Int32.toNatClampNeg v5)) = 0 → (vp_in v5 6 ∧ u_X4_lay_31 post a1 a2 a3 K21 n (up2 σ (23 + (Int32.toNatClampNeg v4)) (Int32.toNatClampNeg v5) (-1)) v4 (v5 + 1))) ∧ (¬ (σ (17 + (Int32.toNatClampNeg v4)) (Int32.toNatClampNeg v5)) = 0 → (vp_in v4 6 ∧ (vp_in v5 6 ∧ (vp_in v5 6 ∧ u_X4_lay_31 post a1 a2 a3 K21 n (up2 σ (23 + (Int32.toNatClampNeg v4)) (Int32.toNatClampNeg v5) (σ (17 + (Int32.toNatClampNeg v4)) (Int32.toNatClampNeg v5))) v4 (v5 + 1)))))))))))))
set_option maxHeartbeats 4000000 in
set_option maxRecDepth 100000 in
theorem l_X4_lay_31 {p : Program} {l : Launch} {e : Env} {s : State} {m : MethodId} {args : Array Value} {below : List Frame} {meth : Method} {c : Code} {D : va_G} {cy : Nat → ClassId} {lay : Nat → Nat} {post : MS → Prop} (a1 : Int32) (a2 : Int32) (a3 : Int32) (K21 : MS → Int32 → Prop) (hC : CallFix p m c cX4_lay 6 s args wsX4_lay RX4) (hr : meth.sig.returnType = none) (hlocks : meth.locks = false) (hT : agT D cy lay s) (hK21 : ∀ (σ : MS) (v4 : Int32), K21 σ v4 → ∀ (H : Heap) (locs : List Loc) (ls : Array Slot), agG D cy lay σ (agA lay s.heap.size) s.heap H locs → lv_has ls 6 [(0, .ref (lay 5)), (1, .int a1), (2, .int a2), (3, .int a3), (4, .int v4)] → W p l e rm_X4_lay s m args below meth c H locs 0 0 (MQ below (va_Qv post (agO D cy lay) (agA lay s.heap.size)) args s 0 0 (agA lay s.heap.size)) (F0 m 21 ls [])) : ∀ (n : Nat), ∀ (σ : MS) (v4 : Int32) (v5 : Int32), u_X4_lay_31 post a1 a2 a3 K21 n σ v4 v5 → ∀ (H : Heap) (locs : List Loc) (ls : Array Slot), agG D cy lay σ (agA lay s.heap.size) s.heap H locs → lv_has ls 6 [(0, .ref (lay 5)), (1, .int a1), (2, .int a2), (3, .int a3), (4, .int v4), (5, .int v5)] → W p l e rm_X4_lay s m args below meth c H locs 0 0 (MQ below (va_Qv post (agO D cy lay) (agA lay s.heap.size)) args s 0 0 (agA lay s.heap.size)) (F0 m 31 ls []) := by
  intro n
  induction n with
  | zero =>
    intro σ v4 v5 h
    exact h.elim
  | succ n ih =>
    intro σ v4 v5 h H locs ls G hl
    rw [u_X4_lay_31] at h
    refine lv_iload hC.1 hC.2.1 dX4_lay_31 (lv_at hl 5 rfl) ?_
    refine lv_bipush (v := 6) hC.1 hC.2.1 dX4_lay_33 (by decide) ?_
    refine lv_icmp_ge (tgt := 92) hC.1 hC.2.1 dX4_lay_35 (by decide) (fun c8 => ?_) (fun c8 => ?_)
    · replace h := h.1 c8
      refine lv_iinc (v := v4 + 1) (lv' := [(4, .int (v4 + 1)), (0, .ref (lay 5)), (1, .int a1), (2, .int a2), (3, .int a3), (5, .int v5)]) hC.1 hC.2.1 dX4_lay_92 hl (k := 4) rfl rfl (by decide) rfl (fun ls hl => ?_)
      refine lv_goto (tgt := 21) hC.1 hC.2.1 dX4_lay_95 (by decide) ?_
      exact hK21 _ _ h _ _ _ G (lv_sub hl [1, 2, 3, 4, 0] rfl)
    · replace h := h.2 c8
      refine lv_aload_n hC.1 hC.2.1 dX4_lay_38 rfl (lv_at hl 0 rfl) ?_
      refine ag_get hC hT G (by decide) e_rd k_X4 i_X4_lay_X4 1 (by decide) (wm 2 rfl) rfl dX4_lay_39 ?_
      refine lv_iload hC.1 hC.2.1 dX4_lay_42 (lv_at hl 4 rfl) ?_
      obtain ⟨hn9, h⟩ := h
      refine ag_aalda hC hT G (by decide) e_wys hn9 dX4_lay_44 ?_
      refine lv_iload hC.1 hC.2.1 dX4_lay_45 (lv_at hl 5 rfl) ?_
      refine lv_iload hC.1 hC.2.1 dX4_lay_47 (lv_at hl 4 rfl) ?_
      refine lv_iload hC.1 hC.2.1 dX4_lay_49 (lv_at hl 5 rfl) ?_
      refine lv_icmp_ne (tgt := 58) hC.1 hC.2.1 dX4_lay_51 (by decide) (fun c10 => ?_) (fun c10 => ?_)
      · replace h := h.2 c10
        refine lv_aload_n hC.1 hC.2.1 dX4_lay_58 rfl (lv_at hl 0 rfl) ?_
        refine ag_get hC hT G (by decide) e_rd k_X4 i_X4_lay_X4 0 (by decide) (wm 1 rfl) rfl dX4_lay_59 ?_
        refine lv_iload hC.1 hC.2.1 dX4_lay_62 (lv_at hl 4 rfl) ?_
        obtain ⟨hn11, h⟩ := h
        refine ag_aalda hC hT G (by decide) e_hrs hn11 dX4_lay_64 ?_
        refine lv_iload hC.1 hC.2.1 dX4_lay_65 (lv_at hl 5 rfl) ?_
        obtain ⟨hn12, h⟩ := h
        refine ag_iald hC hT G (k_hrr (vlt hn11)) (e_hrr (vlt hn11)) hn12 dX4_lay_67 ?_
        refine lv_if_ne (tgt := 75) hC.1 hC.2.1 dX4_lay_68 (by decide) (fun c13 => ?_) (fun c13 => ?_)
        · replace h := h.2 c13
          refine lv_aload_n hC.1 hC.2.1 dX4_lay_75 rfl (lv_at hl 0 rfl) ?_
          refine ag_get hC hT G (by decide) e_rd k_X4 i_X4_lay_X4 0 (by decide) (wm 1 rfl) rfl dX4_lay_76 ?_
          refine lv_iload hC.1 hC.2.1 dX4_lay_79 (lv_at hl 4 rfl) ?_
          obtain ⟨hn14, h⟩ := h
          refine ag_aalda hC hT G (by decide) e_hrs hn14 dX4_lay_81 ?_
          refine lv_iload hC.1 hC.2.1 dX4_lay_82 (lv_at hl 5 rfl) ?_
          obtain ⟨hn15, h⟩ := h
          refine ag_iald hC hT G (k_hrr (vlt hn14)) (e_hrr (vlt hn14)) hn15 dX4_lay_84 ?_
          obtain ⟨hn16, h⟩ := h
          refine ag_iast hC hT G (k_wyr (vlt hn9)) (fun _ => (e_wyr (vlt hn9))) hn16 dX4_lay_85 (fun H locs G => ?_)
          refine lv_iinc (v := v5 + 1) (lv' := [(5, .int (v5 + 1)), (0, .ref (lay 5)), (1, .int a1), (2, .int a2), (3, .int a3), (4, .int v4)]) hC.1 hC.2.1 dX4_lay_86 hl (k := 5) rfl rfl (by decide) rfl (fun ls hl => ?_)
          refine lv_goto (tgt := 31) hC.1 hC.2.1 dX4_lay_89 (by decide) ?_
          exact ih _ _ _ h _ _ _ G (lv_sub hl [1, 2, 3, 4, 5, 0] rfl)
        · replace h := h.1 c13
          refine lv_iconst (v := (-1)) hC.1 hC.2.1 dX4_lay_71 (by decide) ?_
          refine lv_goto (tgt := 85) hC.1 hC.2.1 dX4_lay_72 (by decide) ?_
          obtain ⟨hn17, h⟩ := h
          refine ag_iast hC hT G (k_wyr (vlt hn9)) (fun _ => (e_wyr (vlt hn9))) hn17 dX4_lay_85 (fun H locs G => ?_)
          refine lv_iinc (v := v5 + 1) (lv' := [(5, .int (v5 + 1)), (0, .ref (lay 5)), (1, .int a1), (2, .int a2), (3, .int a3), (4, .int v4)]) hC.1 hC.2.1 dX4_lay_86 hl (k := 5) rfl rfl (by decide) rfl (fun ls hl => ?_)
          refine lv_goto (tgt := 31) hC.1 hC.2.1 dX4_lay_89 (by decide) ?_
          exact ih _ _ _ h _ _ _ G (lv_sub hl [1, 2, 3, 4, 5, 0] rfl)
      · replace h := h.1 c10
        refine lv_iconst (v := 0) hC.1 hC.2.1 dX4_lay_54 (by decide) ?_
        refine lv_goto (tgt := 85) hC.1 hC.2.1 dX4_lay_55 (by decide) ?_
        obtain ⟨hn18, h⟩ := h
        refine ag_iast hC hT G (k_wyr (vlt hn9)) (fun _ => (e_wyr (vlt hn9))) hn18 dX4_lay_85 (fun H locs G => ?_)
        refine lv_iinc (v := v5 + 1) (lv' := [(5, .int (v5 + 1)), (0, .ref (lay 5)), (1, .int a1), (2, .int a2), (3, .int a3), (4, .int v4)]) hC.1 hC.2.1 dX4_lay_86 hl (k := 5) rfl rfl (by decide) rfl (fun ls hl => ?_)
        refine lv_goto (tgt := 31) hC.1 hC.2.1 dX4_lay_89 (by decide) ?_
        exact ih _ _ _ h _ _ _ G (lv_sub hl [1, 2, 3, 4, 5, 0] rfl)
def u_X4_lay_21 (post : MS → Prop) (a1 : Int32) (a2 : Int32) (a3 : Int32) : Nat → MS → Int32 → Prop
  | 0, _, _ => False
  | n + 1, σ, v4 => ((6 ≤ v4 → (∃ k, u_X4_lay_101 post a1 a2 a3 k σ 0)) ∧ (¬ 6 ≤ v4 → (∃ k, u_X4_lay_31 post a1 a2 a3 (fun σ w0 => u_X4_lay_21 post a1 a2 a3 n σ w0) k σ v4 0)))
set_option maxHeartbeats 4000000 in
set_option maxRecDepth 100000 in
theorem l_X4_lay_21 {p : Program} {l : Launch} {e : Env} {s : State} {m : MethodId} {args : Array Value} {below : List Frame} {meth : Method} {c : Code} {D : va_G} {cy : Nat → ClassId} {lay : Nat → Nat} {post : MS → Prop} (a1 : Int32) (a2 : Int32) (a3 : Int32) (hC : CallFix p m c cX4_lay 6 s args wsX4_lay RX4) (hr : meth.sig.returnType = none) (hlocks : meth.locks = false) (hT : agT D cy lay s) : ∀ (n : Nat), ∀ (σ : MS) (v4 : Int32), u_X4_lay_21 post a1 a2 a3 n σ v4 → ∀ (H : Heap) (locs : List Loc) (ls : Array Slot), agG D cy lay σ (agA lay s.heap.size) s.heap H locs → lv_has ls 6 [(0, .ref (lay 5)), (1, .int a1), (2, .int a2), (3, .int a3), (4, .int v4)] → W p l e rm_X4_lay s m args below meth c H locs 0 0 (MQ below (va_Qv post (agO D cy lay) (agA lay s.heap.size)) args s 0 0 (agA lay s.heap.size)) (F0 m 21 ls []) := by
  intro n
  induction n with
  | zero =>
    intro σ v4 h
    exact h.elim
  | succ n ih =>
    intro σ v4 h H locs ls G hl
    rw [u_X4_lay_21] at h
    refine lv_iload hC.1 hC.2.1 dX4_lay_21 (lv_at hl 4 rfl) ?_
    refine lv_bipush (v := 6) hC.1 hC.2.1 dX4_lay_23 (by decide) ?_
    refine lv_icmp_ge (tgt := 98) hC.1 hC.2.1 dX4_lay_25 (by decide) (fun c5 => ?_) (fun c5 => ?_)
    · replace h := h.1 c5
      refine lv_iconst (v := 0) hC.1 hC.2.1 dX4_lay_98 (by decide) ?_
      refine lv_istore (lv' := [(4, .int 0), (0, .ref (lay 5)), (1, .int a1), (2, .int a2), (3, .int a3)]) hC.1 hC.2.1 dX4_lay_99 hl (by decide) rfl (fun ls hl => ?_)
      obtain ⟨n1, h⟩ := h
      exact l_X4_lay_101 a1 a2 a3 hC hr hlocks hT n1 _ _ h _ _ _ G (lv_sub hl [1, 2, 3, 4, 0] rfl)
    · replace h := h.2 c5
      refine lv_iconst (v := 0) hC.1 hC.2.1 dX4_lay_28 (by decide) ?_
      refine lv_istore (lv' := [(5, .int 0), (0, .ref (lay 5)), (1, .int a1), (2, .int a2), (3, .int a3), (4, .int v4)]) hC.1 hC.2.1 dX4_lay_29 hl (by decide) rfl (fun ls hl => ?_)
      obtain ⟨n1, h⟩ := h
      exact l_X4_lay_31 a1 a2 a3 (fun σ w0 => u_X4_lay_21 post a1 a2 a3 n σ w0) hC hr hlocks hT ih n1 _ _ _ h _ _ _ G (lv_sub hl [1, 2, 3, 4, 5, 0] rfl)
def w_X4_lay (post : MS → Prop) (σ : MS) (a1 : Int32) (a2 : Int32) (a3 : Int32) : Prop := (vp_in a1 6 ∧ (vp_in a2 6 ∧ (vp_in a2 6 ∧ (vp_in a1 6 ∧ (∃ k, u_X4_lay_21 post a1 a2 a3 k (up2 (up2 σ (17 + (Int32.toNatClampNeg a1)) (Int32.toNatClampNeg a2) a3) (17 + (Int32.toNatClampNeg a2)) (Int32.toNatClampNeg a1) a3) 0)))))
set_option maxHeartbeats 4000000 in
set_option maxRecDepth 100000 in
theorem c_X4_lay (l : Launch) (D : va_G) (cy : Nat → ClassId) (lay : Nat → Nat) {σ : MS} {post : MS → Prop} {a1 : Int32} {a2 : Int32} {a3 : Int32} (h : w_X4_lay post σ a1 a2 a3) (sz : Nat) : Met l yX4_lay wsX4_lay rm_X4_lay (va_Pc [.ref (lay 5), .int a1, .int a2, .int a3] (agI D cy lay σ sz)) (va_Qv post (agO D cy lay) (agA lay sz)) 0 0 (agA lay sz) := by
  refine ag_ofW (cc := cX4_lay) (maxL := 6) (ret := none) (own := RX4) (Qc := fun sz => va_Qv post (agO D cy lay) (agA lay sz)) (by decide) rfl (Nat.le_of_ble_eq_true rfl) rfl ?_
  intro p e s m args below meth c ls hC hr hlocks hT G hl
  unfold w_X4_lay at h
  have hl : lv_has ls 6 [(0, .ref (lay 5)), (1, .int a1), (2, .int a2), (3, .int a3)] := hl
  refine lv_aload_n hC.1 hC.2.1 dX4_lay_0 rfl (lv_at hl 0 rfl) ?_
  refine ag_get hC hT G (by decide) e_rd k_X4 i_X4_lay_X4 0 (by decide) (wm 1 rfl) rfl dX4_lay_1 ?_
  refine lv_iload_n hC.1 hC.2.1 dX4_lay_4 rfl (lv_at hl 1 rfl) ?_
  obtain ⟨hn1, h⟩ := h
  refine ag_aalda hC hT G (by decide) e_hrs hn1 dX4_lay_5 ?_
  refine lv_iload_n hC.1 hC.2.1 dX4_lay_6 rfl (lv_at hl 2 rfl) ?_
  refine lv_iload_n hC.1 hC.2.1 dX4_lay_7 rfl (lv_at hl 3 rfl) ?_
  obtain ⟨hn2, h⟩ := h
  refine ag_iast hC hT G (k_hrr (vlt hn1)) (fun _ => (e_hrr (vlt hn1))) hn2 dX4_lay_8 (fun H locs G => ?_)
  refine lv_aload_n hC.1 hC.2.1 dX4_lay_9 rfl (lv_at hl 0 rfl) ?_
  refine ag_get hC hT G (by decide) e_rd k_X4 i_X4_lay_X4 0 (by decide) (wm 1 rfl) rfl dX4_lay_10 ?_
  refine lv_iload_n hC.1 hC.2.1 dX4_lay_13 rfl (lv_at hl 2 rfl) ?_
  obtain ⟨hn3, h⟩ := h
  refine ag_aalda hC hT G (by decide) e_hrs hn3 dX4_lay_14 ?_
  refine lv_iload_n hC.1 hC.2.1 dX4_lay_15 rfl (lv_at hl 1 rfl) ?_
  refine lv_iload_n hC.1 hC.2.1 dX4_lay_16 rfl (lv_at hl 3 rfl) ?_
  obtain ⟨hn4, h⟩ := h
  refine ag_iast hC hT G (k_hrr (vlt hn3)) (fun _ => (e_hrr (vlt hn3))) hn4 dX4_lay_17 (fun H locs G => ?_)
  refine lv_iconst (v := 0) hC.1 hC.2.1 dX4_lay_18 (by decide) ?_
  refine lv_istore (lv' := [(4, .int 0), (0, .ref (lay 5)), (1, .int a1), (2, .int a2), (3, .int a3)]) hC.1 hC.2.1 dX4_lay_19 hl (by decide) rfl (fun ls hl => ?_)
  obtain ⟨n1, h⟩ := h
  exact l_X4_lay_21 a1 a2 a3 hC hr hlocks hT n1 _ _ h _ _ _ G (lv_sub hl [1, 2, 3, 4, 0] rfl)
theorem hdV_X4_lay : yX4_lay.cls = RX4 ∧ yX4_lay.cls ≠ "java/lang/invoke/MethodHandle" ∧ yX4_lay.cls ≠ "java/lang/invoke/VarHandle" ∧ (parseMethodDescriptor yX4_lay.desc).map (fun d => d.parameters.length) = some 3 := by decide +kernel
abbrev rm_X2_clear : Room := { frames := 0, cells := 0, slots := 0, locals := 0 }
theorem i_X2_clear_X2 : ∀ w ∈ wsX20, w ∈ wsX2_clear := fun _ h => List.mem_cons_of_mem _ (List.mem_append_right _ h)
def w_X2_clear (post : MS → Prop) (σ : MS) : Prop := post (up2 (up2 (up2 (up2 (up2 (up2 σ 9 0 (-1)) 9 1 (-1)) 9 2 0) 9 3 0) 9 4 (-1)) 9 5 0)
set_option maxHeartbeats 4000000 in
set_option maxRecDepth 100000 in
theorem c_X2_clear (l : Launch) (D : va_G) (cy : Nat → ClassId) (lay : Nat → Nat) {σ : MS} {post : MS → Prop} (h : w_X2_clear post σ) (sz : Nat) : Met l yX2_clear wsX2_clear rm_X2_clear (va_Pc [.ref (lay 9)] (agI D cy lay σ sz)) (va_Qv post (agO D cy lay) (agA lay sz)) 0 0 (agA lay sz) := by
  refine ag_ofW (cc := cX2_clear) (maxL := 1) (ret := none) (own := RX2) (Qc := fun sz => va_Qv post (agO D cy lay) (agA lay sz)) (by decide) rfl (Nat.le_of_ble_eq_true rfl) rfl ?_
  intro p e s m args below meth c ls hC hr hlocks hT G hl
  unfold w_X2_clear at h
  have hl : lv_has ls 1 [(0, .ref (lay 9))] := hl
  refine lv_aload_n hC.1 hC.2.1 dX2_clear_0 rfl (lv_at hl 0 rfl) ?_
  refine lv_iconst (v := (-1)) hC.1 hC.2.1 dX2_clear_1 (by decide) ?_
  refine ag_put hC hT G (by decide) e_fd k_X2 i_X2_clear_X2 0 (by decide) (wm 1 rfl) rfl rfl (by simp) e_fd rfl dX2_clear_2 (fun H locs G => ?_)
  refine lv_aload_n hC.1 hC.2.1 dX2_clear_5 rfl (lv_at hl 0 rfl) ?_
  refine lv_iconst (v := (-1)) hC.1 hC.2.1 dX2_clear_6 (by decide) ?_
  refine ag_put hC hT G (by decide) e_fd k_X2 i_X2_clear_X2 1 (by decide) (wm 2 rfl) rfl rfl (by simp) e_fd rfl dX2_clear_7 (fun H locs G => ?_)
  refine lv_aload_n hC.1 hC.2.1 dX2_clear_10 rfl (lv_at hl 0 rfl) ?_
  refine lv_iconst (v := 0) hC.1 hC.2.1 dX2_clear_11 (by decide) ?_
  refine ag_put hC hT G (by decide) e_fd k_X2 i_X2_clear_X2 2 (by decide) (wm 3 rfl) rfl rfl (by simp) e_fd rfl dX2_clear_12 (fun H locs G => ?_)
  refine lv_aload_n hC.1 hC.2.1 dX2_clear_15 rfl (lv_at hl 0 rfl) ?_
  refine lv_iconst (v := 0) hC.1 hC.2.1 dX2_clear_16 (by decide) ?_
  refine ag_put hC hT G (by decide) e_fd k_X2 i_X2_clear_X2 3 (by decide) (wm 4 rfl) rfl rfl (by simp) e_fd rfl dX2_clear_17 (fun H locs G => ?_)
  refine lv_aload_n hC.1 hC.2.1 dX2_clear_20 rfl (lv_at hl 0 rfl) ?_
  refine lv_iconst (v := (-1)) hC.1 hC.2.1 dX2_clear_21 (by decide) ?_
  refine ag_put hC hT G (by decide) e_fd k_X2 i_X2_clear_X2 4 (by decide) (wm 5 rfl) rfl rfl (by simp) e_fd rfl dX2_clear_22 (fun H locs G => ?_)
  refine lv_aload_n hC.1 hC.2.1 dX2_clear_25 rfl (lv_at hl 0 rfl) ?_
  refine lv_iconst (v := 0) hC.1 hC.2.1 dX2_clear_26 (by decide) ?_
  refine ag_put hC hT G (by decide) e_fd k_X2 i_X2_clear_X2 5 (by decide) (wm 6 rfl) rfl rfl (by simp) e_fd rfl dX2_clear_27 (fun H locs G => ?_)
  exact ag_vret hC hr hlocks G h dX2_clear_30
theorem hdV_X2_clear : yX2_clear.cls = RX2 ∧ yX2_clear.cls ≠ "java/lang/invoke/MethodHandle" ∧ yX2_clear.cls ≠ "java/lang/invoke/VarHandle" ∧ (parseMethodDescriptor yX2_clear.desc).map (fun d => d.parameters.length) = some 0 := by decide +kernel
abbrev rm_X2_add : Room := { frames := 0, cells := 0, slots := 0, locals := 0 }
theorem i_X2_add_X2 : ∀ w ∈ wsX20, w ∈ wsX2_add := fun _ h => List.mem_cons_of_mem _ (List.mem_append_right _ h)
def u_X2_add_46 (post : MS → Prop) (a1 : Int32) (a2 : Int32) (a3 : Int32) (σ : MS) : Prop := post (up2 (up2 σ 9 3 ((σ 9 3) + 1)) 9 4 (((up2 σ 9 3 ((σ 9 3) + 1)) 9 4) &&& a1))
set_option maxHeartbeats 4000000 in
set_option maxRecDepth 100000 in
theorem l_X2_add_46 {p : Program} {l : Launch} {e : Env} {s : State} {m : MethodId} {args : Array Value} {below : List Frame} {meth : Method} {c : Code} {D : va_G} {cy : Nat → ClassId} {lay : Nat → Nat} {post : MS → Prop} (a1 : Int32) (a2 : Int32) (a3 : Int32) (hC : CallFix p m c cX2_add 4 s args wsX2_add RX2) (hr : meth.sig.returnType = none) (hlocks : meth.locks = false) (hT : agT D cy lay s) : ∀ (σ : MS), u_X2_add_46 post a1 a2 a3 σ → ∀ (H : Heap) (locs : List Loc) (ls : Array Slot), agG D cy lay σ (agA lay s.heap.size) s.heap H locs → lv_has ls 4 [(0, .ref (lay 9)), (1, .int a1), (2, .int a2), (3, .int a3)] → W p l e rm_X2_add s m args below meth c H locs 0 0 (MQ below (va_Qv post (agO D cy lay) (agA lay s.heap.size)) args s 0 0 (agA lay s.heap.size)) (F0 m 46 ls []) := by
  intro σ h H locs ls G hl
  unfold u_X2_add_46 at h
  refine lv_aload_n hC.1 hC.2.1 dX2_add_46 rfl (lv_at hl 0 rfl) ?_
  refine lv_dup hC.1 hC.2.1 dX2_add_47 rfl ?_
  refine ag_get hC hT G (by decide) e_fd k_X2 i_X2_add_X2 3 (by decide) (wm 1 rfl) rfl dX2_add_48 ?_
  refine lv_iconst (v := 1) hC.1 hC.2.1 dX2_add_51 (by decide) ?_
  refine lv_iadd hC.1 hC.2.1 dX2_add_52 ?_
  refine ag_put hC hT G (by decide) e_fd k_X2 i_X2_add_X2 3 (by decide) (wm 1 rfl) rfl rfl (by simp) e_fd rfl dX2_add_53 (fun H locs G => ?_)
  refine lv_aload_n hC.1 hC.2.1 dX2_add_56 rfl (lv_at hl 0 rfl) ?_
  refine lv_dup hC.1 hC.2.1 dX2_add_57 rfl ?_
  refine ag_get hC hT G (by decide) e_fd k_X2 i_X2_add_X2 4 (by decide) (wm 5 rfl) rfl dX2_add_58 ?_
  refine lv_iload_n hC.1 hC.2.1 dX2_add_61 rfl (lv_at hl 1 rfl) ?_
  refine lv_iand hC.1 hC.2.1 dX2_add_62 ?_
  refine ag_put hC hT G (by decide) e_fd k_X2 i_X2_add_X2 4 (by decide) (wm 5 rfl) rfl rfl (by simp) e_fd rfl dX2_add_63 (fun H locs G => ?_)
  exact ag_vret hC hr hlocks G h dX2_add_66
def u_X2_add_31 (post : MS → Prop) (a1 : Int32) (a2 : Int32) (a3 : Int32) (σ : MS) : Prop := u_X2_add_46 post a1 a2 a3 (up2 (up2 (up2 σ 9 0 a1) 9 1 a2) 9 2 a3)
set_option maxHeartbeats 4000000 in
set_option maxRecDepth 100000 in
theorem l_X2_add_31 {p : Program} {l : Launch} {e : Env} {s : State} {m : MethodId} {args : Array Value} {below : List Frame} {meth : Method} {c : Code} {D : va_G} {cy : Nat → ClassId} {lay : Nat → Nat} {post : MS → Prop} (a1 : Int32) (a2 : Int32) (a3 : Int32) (hC : CallFix p m c cX2_add 4 s args wsX2_add RX2) (hr : meth.sig.returnType = none) (hlocks : meth.locks = false) (hT : agT D cy lay s) : ∀ (σ : MS), u_X2_add_31 post a1 a2 a3 σ → ∀ (H : Heap) (locs : List Loc) (ls : Array Slot), agG D cy lay σ (agA lay s.heap.size) s.heap H locs → lv_has ls 4 [(0, .ref (lay 9)), (1, .int a1), (2, .int a2), (3, .int a3)] → W p l e rm_X2_add s m args below meth c H locs 0 0 (MQ below (va_Qv post (agO D cy lay) (agA lay s.heap.size)) args s 0 0 (agA lay s.heap.size)) (F0 m 31 ls []) := by
  intro σ h H locs ls G hl
  unfold u_X2_add_31 at h
  refine lv_aload_n hC.1 hC.2.1 dX2_add_31 rfl (lv_at hl 0 rfl) ?_
  refine lv_iload_n hC.1 hC.2.1 dX2_add_32 rfl (lv_at hl 1 rfl) ?_
  refine ag_put hC hT G (by decide) e_fd k_X2 i_X2_add_X2 0 (by decide) (wm 4 rfl) rfl rfl (by simp) e_fd rfl dX2_add_33 (fun H locs G => ?_)
  refine lv_aload_n hC.1 hC.2.1 dX2_add_36 rfl (lv_at hl 0 rfl) ?_
  refine lv_iload_n hC.1 hC.2.1 dX2_add_37 rfl (lv_at hl 2 rfl) ?_
  refine ag_put hC hT G (by decide) e_fd k_X2 i_X2_add_X2 1 (by decide) (wm 3 rfl) rfl rfl (by simp) e_fd rfl dX2_add_38 (fun H locs G => ?_)
  refine lv_aload_n hC.1 hC.2.1 dX2_add_41 rfl (lv_at hl 0 rfl) ?_
  refine lv_iload_n hC.1 hC.2.1 dX2_add_42 rfl (lv_at hl 3 rfl) ?_
  refine ag_put hC hT G (by decide) e_fd k_X2 i_X2_add_X2 2 (by decide) (wm 2 rfl) rfl rfl (by simp) e_fd rfl dX2_add_43 (fun H locs G => ?_)
  exact l_X2_add_46 a1 a2 a3 hC hr hlocks hT _ h _ _ _ G (lv_sub hl [0, 1, 2, 3] rfl)
def w_X2_add (post : MS → Prop) (σ : MS) (a1 : Int32) (a2 : Int32) (a3 : Int32) : Prop := (((σ 9 3) = 0 → u_X2_add_31 post a1 a2 a3 σ) ∧ (¬ (σ 9 3) = 0 → (((σ 9 2) < a3 → u_X2_add_31 post a1 a2 a3 σ) ∧ (¬ (σ 9 2) < a3 → ((a3 = (σ 9 2) → (((σ 9 1) ≤ a2 → u_X2_add_46 post a1 a2 a3 σ) ∧ (¬ (σ 9 1) ≤ a2 → u_X2_add_31 post a1 a2 a3 σ))) ∧ (¬ a3 = (σ 9 2) → u_X2_add_46 post a1 a2 a3 σ))))))
set_option maxHeartbeats 4000000 in
set_option maxRecDepth 100000 in
theorem c_X2_add (l : Launch) (D : va_G) (cy : Nat → ClassId) (lay : Nat → Nat) {σ : MS} {post : MS → Prop} {a1 : Int32} {a2 : Int32} {a3 : Int32} (h : w_X2_add post σ a1 a2 a3) (sz : Nat) : Met l yX2_add wsX2_add rm_X2_add (va_Pc [.ref (lay 9), .int a1, .int a2, .int a3] (agI D cy lay σ sz)) (va_Qv post (agO D cy lay) (agA lay sz)) 0 0 (agA lay sz) := by
  refine ag_ofW (cc := cX2_add) (maxL := 4) (ret := none) (own := RX2) (Qc := fun sz => va_Qv post (agO D cy lay) (agA lay sz)) (by decide) rfl (Nat.le_of_ble_eq_true rfl) rfl ?_
  intro p e s m args below meth c ls hC hr hlocks hT G hl
  unfold w_X2_add at h
  have hl : lv_has ls 4 [(0, .ref (lay 9)), (1, .int a1), (2, .int a2), (3, .int a3)] := hl
  refine lv_aload_n hC.1 hC.2.1 dX2_add_0 rfl (lv_at hl 0 rfl) ?_
  refine ag_get hC hT G (by decide) e_fd k_X2 i_X2_add_X2 3 (by decide) (wm 1 rfl) rfl dX2_add_1 ?_
  refine lv_if_eq (tgt := 31) hC.1 hC.2.1 dX2_add_4 (by decide) (fun c1 => ?_) (fun c1 => ?_)
  · replace h := h.1 c1
    exact l_X2_add_31 a1 a2 a3 hC hr hlocks hT _ h _ _ _ G (lv_sub hl [0, 1, 2, 3] rfl)
  · replace h := h.2 c1
    refine lv_iload_n hC.1 hC.2.1 dX2_add_7 rfl (lv_at hl 3 rfl) ?_
    refine lv_aload_n hC.1 hC.2.1 dX2_add_8 rfl (lv_at hl 0 rfl) ?_
    refine ag_get hC hT G (by decide) e_fd k_X2 i_X2_add_X2 2 (by decide) (wm 2 rfl) rfl dX2_add_9 ?_
    refine lv_icmp_gt (tgt := 31) hC.1 hC.2.1 dX2_add_12 (by decide) (fun c2 => ?_) (fun c2 => ?_)
    · replace h := h.1 c2
      exact l_X2_add_31 a1 a2 a3 hC hr hlocks hT _ h _ _ _ G (lv_sub hl [0, 1, 2, 3] rfl)
    · replace h := h.2 c2
      refine lv_iload_n hC.1 hC.2.1 dX2_add_15 rfl (lv_at hl 3 rfl) ?_
      refine lv_aload_n hC.1 hC.2.1 dX2_add_16 rfl (lv_at hl 0 rfl) ?_
      refine ag_get hC hT G (by decide) e_fd k_X2 i_X2_add_X2 2 (by decide) (wm 2 rfl) rfl dX2_add_17 ?_
      refine lv_icmp_ne (tgt := 46) hC.1 hC.2.1 dX2_add_20 (by decide) (fun c3 => ?_) (fun c3 => ?_)
      · replace h := h.2 c3
        exact l_X2_add_46 a1 a2 a3 hC hr hlocks hT _ h _ _ _ G (lv_sub hl [0, 1, 2, 3] rfl)
      · replace h := h.1 c3
        refine lv_iload_n hC.1 hC.2.1 dX2_add_23 rfl (lv_at hl 2 rfl) ?_
        refine lv_aload_n hC.1 hC.2.1 dX2_add_24 rfl (lv_at hl 0 rfl) ?_
        refine ag_get hC hT G (by decide) e_fd k_X2 i_X2_add_X2 1 (by decide) (wm 3 rfl) rfl dX2_add_25 ?_
        refine lv_icmp_ge (tgt := 46) hC.1 hC.2.1 dX2_add_28 (by decide) (fun c4 => ?_) (fun c4 => ?_)
        · replace h := h.1 c4
          exact l_X2_add_46 a1 a2 a3 hC hr hlocks hT _ h _ _ _ G (lv_sub hl [0, 1, 2, 3] rfl)
        · replace h := h.2 c4
          exact l_X2_add_31 a1 a2 a3 hC hr hlocks hT _ h _ _ _ G (lv_sub hl [0, 1, 2, 3] rfl)
theorem hdV_X2_add : yX2_add.cls = RX2 ∧ yX2_add.cls ≠ "java/lang/invoke/MethodHandle" ∧ yX2_add.cls ≠ "java/lang/invoke/VarHandle" ∧ (parseMethodDescriptor yX2_add.desc).map (fun d => d.parameters.length) = some 3 := by decide +kernel
abbrev rm_X0_take : Room := { frames := 0, cells := 0, slots := 0, locals := 0 }
theorem i_X0_take_X0 : ∀ w ∈ wsX00, w ∈ wsX0_take := fun _ h => List.mem_cons_of_mem _ (List.mem_append_right _ h)
def u_X0_take_26 (post : MS → Prop) (i0 : Nat) (a1 : Int32) (K4 : MS → Int32 → Int32 → Prop) : Nat → MS → Int32 → Int32 → Int32 → Prop
  | 0, _, _, _, _ => False
  | n + 1, σ, v2, v3, v4 => (vp_in v3 6 ∧ (((σ (61 + i0) (Int32.toNatClampNeg v3)) ≤ v4 → K4 σ v2 (v3 + 1)) ∧ (¬ (σ (61 + i0) (Int32.toNatClampNeg v3)) ≤ v4 → ((5 ≤ (σ (55 + i0) 2) → K4 σ v2 (v3 + 1)) ∧ (¬ 5 ≤ (σ (55 + i0) 2) → (vp_in (σ (55 + i0) 2) 5 ∧ u_X0_take_26 post i0 a1 K4 n (up2 (up2 σ (67 + i0) (Int32.toNatClampNeg (σ (55 + i0) 2)) v3) (55 + i0) 2 (((up2 σ (67 + i0) (Int32.toNatClampNeg (σ (55 + i0) 2)) v3) (55 + i0) 2) + 1)) v2 v3 (v4 + 1)))))))
set_option maxHeartbeats 4000000 in
set_option maxRecDepth 100000 in
theorem l_X0_take_26 {p : Program} {l : Launch} {e : Env} {s : State} {m : MethodId} {args : Array Value} {below : List Frame} {meth : Method} {c : Code} {D : va_G} {cy : Nat → ClassId} {lay : Nat → Nat} {post : MS → Prop} (i0 : Nat) (a1 : Int32) (K4 : MS → Int32 → Int32 → Prop) (hC : CallFix p m c cX0_take 5 s args wsX0_take RX0) (hr : meth.sig.returnType = none) (hlocks : meth.locks = false) (hT : agT D cy lay s) (hi0 : i0 < 6) (hK4 : ∀ (σ : MS) (v2 : Int32) (v3 : Int32), K4 σ v2 v3 → ∀ (H : Heap) (locs : List Loc) (ls : Array Slot), agG D cy lay σ (agA lay s.heap.size) s.heap H locs → lv_has ls 5 [(0, .ref (lay (55 + i0))), (1, .int a1), (2, .int v2), (3, .int v3)] → W p l e rm_X0_take s m args below meth c H locs 0 0 (MQ below (va_Qv post (agO D cy lay) (agA lay s.heap.size)) args s 0 0 (agA lay s.heap.size)) (F0 m 4 ls [])) : ∀ (n : Nat), ∀ (σ : MS) (v2 : Int32) (v3 : Int32) (v4 : Int32), u_X0_take_26 post i0 a1 K4 n σ v2 v3 v4 → ∀ (H : Heap) (locs : List Loc) (ls : Array Slot), agG D cy lay σ (agA lay s.heap.size) s.heap H locs → lv_has ls 5 [(0, .ref (lay (55 + i0))), (1, .int a1), (2, .int v2), (3, .int v3), (4, .int v4)] → W p l e rm_X0_take s m args below meth c H locs 0 0 (MQ below (va_Qv post (agO D cy lay) (agA lay s.heap.size)) args s 0 0 (agA lay s.heap.size)) (F0 m 26 ls []) := by
  intro n
  induction n with
  | zero =>
    intro σ v2 v3 v4 h
    exact h.elim
  | succ n ih =>
    intro σ v2 v3 v4 h H locs ls G hl
    rw [u_X0_take_26] at h
    refine lv_iload hC.1 hC.2.1 dX0_take_26 (lv_at hl 4 rfl) ?_
    refine lv_aload_n hC.1 hC.2.1 dX0_take_28 rfl (lv_at hl 0 rfl) ?_
    refine ag_get hC hT G (k_bd hi0) (e_bd hi0) k_X0 i_X0_take_X0 0 (by decide) (wm 1 rfl) rfl dX0_take_29 ?_
    refine lv_iload_n hC.1 hC.2.1 dX0_take_32 rfl (lv_at hl 3 rfl) ?_
    obtain ⟨hn3, h⟩ := h
    refine ag_iald hC hT G (k_nds hi0) (e_nds hi0) hn3 dX0_take_33 ?_
    refine lv_icmp_ge (tgt := 71) hC.1 hC.2.1 dX0_take_34 (by decide) (fun c4 => ?_) (fun c4 => ?_)
    · replace h := h.1 c4
      refine lv_iinc (v := v3 + 1) (lv' := [(3, .int (v3 + 1)), (0, .ref (lay (55 + i0))), (1, .int a1), (2, .int v2), (4, .int v4)]) hC.1 hC.2.1 dX0_take_71 hl (k := 3) rfl rfl (by decide) rfl (fun ls hl => ?_)
      refine lv_goto (tgt := 4) hC.1 hC.2.1 dX0_take_74 (by decide) ?_
      exact hK4 _ _ _ h _ _ _ G (lv_sub hl [1, 2, 3, 0] rfl)
    · replace h := h.2 c4
      refine lv_aload_n hC.1 hC.2.1 dX0_take_37 rfl (lv_at hl 0 rfl) ?_
      refine ag_get hC hT G (k_bd hi0) (e_bd hi0) k_X0 i_X0_take_X0 2 (by decide) (wm 2 rfl) rfl dX0_take_38 ?_
      refine lv_iconst (v := 5) hC.1 hC.2.1 dX0_take_41 (by decide) ?_
      refine lv_icmp_ge (tgt := 71) hC.1 hC.2.1 dX0_take_42 (by decide) (fun c5 => ?_) (fun c5 => ?_)
      · replace h := h.1 c5
        refine lv_iinc (v := v3 + 1) (lv' := [(3, .int (v3 + 1)), (0, .ref (lay (55 + i0))), (1, .int a1), (2, .int v2), (4, .int v4)]) hC.1 hC.2.1 dX0_take_71 hl (k := 3) rfl rfl (by decide) rfl (fun ls hl => ?_)
        refine lv_goto (tgt := 4) hC.1 hC.2.1 dX0_take_74 (by decide) ?_
        exact hK4 _ _ _ h _ _ _ G (lv_sub hl [1, 2, 3, 0] rfl)
      · replace h := h.2 c5
        refine lv_aload_n hC.1 hC.2.1 dX0_take_45 rfl (lv_at hl 0 rfl) ?_
        refine ag_get hC hT G (k_bd hi0) (e_bd hi0) k_X0 i_X0_take_X0 1 (by decide) (wm 3 rfl) rfl dX0_take_46 ?_
        refine lv_aload_n hC.1 hC.2.1 dX0_take_49 rfl (lv_at hl 0 rfl) ?_
        refine ag_get hC hT G (k_bd hi0) (e_bd hi0) k_X0 i_X0_take_X0 2 (by decide) (wm 2 rfl) rfl dX0_take_50 ?_
        refine lv_iload_n hC.1 hC.2.1 dX0_take_53 rfl (lv_at hl 3 rfl) ?_
        obtain ⟨hn6, h⟩ := h
        refine ag_iast hC hT G (k_plc hi0) (fun _ => (e_plc hi0)) hn6 dX0_take_54 (fun H locs G => ?_)
        refine lv_aload_n hC.1 hC.2.1 dX0_take_55 rfl (lv_at hl 0 rfl) ?_
        refine lv_dup hC.1 hC.2.1 dX0_take_56 rfl ?_
        refine ag_get hC hT G (k_bd hi0) (e_bd hi0) k_X0 i_X0_take_X0 2 (by decide) (wm 2 rfl) rfl dX0_take_57 ?_
        refine lv_iconst (v := 1) hC.1 hC.2.1 dX0_take_60 (by decide) ?_
        refine lv_iadd hC.1 hC.2.1 dX0_take_61 ?_
        refine ag_put hC hT G (k_bd hi0) (e_bd hi0) k_X0 i_X0_take_X0 2 (by decide) (wm 2 rfl) rfl rfl (by simp) (e_bd hi0) rfl dX0_take_62 (fun H locs G => ?_)
        refine lv_iinc (v := v4 + 1) (lv' := [(4, .int (v4 + 1)), (0, .ref (lay (55 + i0))), (1, .int a1), (2, .int v2), (3, .int v3)]) hC.1 hC.2.1 dX0_take_65 hl (k := 4) rfl rfl (by decide) rfl (fun ls hl => ?_)
        refine lv_goto (tgt := 26) hC.1 hC.2.1 dX0_take_68 (by decide) ?_
        exact ih _ _ _ _ h _ _ _ G (lv_sub hl [1, 2, 3, 4, 0] rfl)
def u_X0_take_4 (post : MS → Prop) (i0 : Nat) (a1 : Int32) : Nat → MS → Int32 → Int32 → Prop
  | 0, _, _, _ => False
  | n + 1, σ, v2, v3 => ((6 ≤ v3 → post σ) ∧ (¬ 6 ≤ v3 → (vp_in v3 6 ∧ (∃ k, u_X0_take_26 post i0 a1 (fun σ w0 w1 => u_X0_take_4 post i0 a1 n σ w0 w1) k (up2 σ (61 + i0) (Int32.toNatClampNeg v3) (v2 - v2 / 3 * 3)) (v2 / 3) v3 0))))
set_option maxHeartbeats 4000000 in
set_option maxRecDepth 100000 in
theorem l_X0_take_4 {p : Program} {l : Launch} {e : Env} {s : State} {m : MethodId} {args : Array Value} {below : List Frame} {meth : Method} {c : Code} {D : va_G} {cy : Nat → ClassId} {lay : Nat → Nat} {post : MS → Prop} (i0 : Nat) (a1 : Int32) (hC : CallFix p m c cX0_take 5 s args wsX0_take RX0) (hr : meth.sig.returnType = none) (hlocks : meth.locks = false) (hT : agT D cy lay s) (hi0 : i0 < 6) : ∀ (n : Nat), ∀ (σ : MS) (v2 : Int32) (v3 : Int32), u_X0_take_4 post i0 a1 n σ v2 v3 → ∀ (H : Heap) (locs : List Loc) (ls : Array Slot), agG D cy lay σ (agA lay s.heap.size) s.heap H locs → lv_has ls 5 [(0, .ref (lay (55 + i0))), (1, .int a1), (2, .int v2), (3, .int v3)] → W p l e rm_X0_take s m args below meth c H locs 0 0 (MQ below (va_Qv post (agO D cy lay) (agA lay s.heap.size)) args s 0 0 (agA lay s.heap.size)) (F0 m 4 ls []) := by
  intro n
  induction n with
  | zero =>
    intro σ v2 v3 h
    exact h.elim
  | succ n ih =>
    intro σ v2 v3 h H locs ls G hl
    rw [u_X0_take_4] at h
    refine lv_iload_n hC.1 hC.2.1 dX0_take_4 rfl (lv_at hl 3 rfl) ?_
    refine lv_bipush (v := 6) hC.1 hC.2.1 dX0_take_5 (by decide) ?_
    refine lv_icmp_ge (tgt := 77) hC.1 hC.2.1 dX0_take_7 (by decide) (fun c1 => ?_) (fun c1 => ?_)
    · replace h := h.1 c1
      exact ag_vret hC hr hlocks G h dX0_take_77
    · replace h := h.2 c1
      refine lv_aload_n hC.1 hC.2.1 dX0_take_10 rfl (lv_at hl 0 rfl) ?_
      refine ag_get hC hT G (k_bd hi0) (e_bd hi0) k_X0 i_X0_take_X0 0 (by decide) (wm 1 rfl) rfl dX0_take_11 ?_
      refine lv_iload_n hC.1 hC.2.1 dX0_take_14 rfl (lv_at hl 3 rfl) ?_
      refine lv_iload_n hC.1 hC.2.1 dX0_take_15 rfl (lv_at hl 2 rfl) ?_
      refine lv_iconst (v := 3) hC.1 hC.2.1 dX0_take_16 (by decide) ?_
      refine lv_irem hC.1 hC.2.1 dX0_take_17 (by decide) ?_
      obtain ⟨hn2, h⟩ := h
      refine ag_iast hC hT G (k_nds hi0) (fun _ => (e_nds hi0)) hn2 dX0_take_18 (fun H locs G => ?_)
      refine lv_iload_n hC.1 hC.2.1 dX0_take_19 rfl (lv_at hl 2 rfl) ?_
      refine lv_iconst (v := 3) hC.1 hC.2.1 dX0_take_20 (by decide) ?_
      refine lv_idiv hC.1 hC.2.1 dX0_take_21 (by decide) ?_
      refine lv_istore_n (lv' := [(2, .int (v2 / 3)), (0, .ref (lay (55 + i0))), (1, .int a1), (3, .int v3)]) hC.1 hC.2.1 dX0_take_22 rfl hl (by decide) rfl (fun ls hl => ?_)
      refine lv_iconst (v := 0) hC.1 hC.2.1 dX0_take_23 (by decide) ?_
      refine lv_istore (lv' := [(4, .int 0), (2, .int (v2 / 3)), (0, .ref (lay (55 + i0))), (1, .int a1), (3, .int v3)]) hC.1 hC.2.1 dX0_take_24 hl (by decide) rfl (fun ls hl => ?_)
      obtain ⟨n1, h⟩ := h
      exact l_X0_take_26 i0 a1 (fun σ w0 w1 => u_X0_take_4 post i0 a1 n σ w0 w1) hC hr hlocks hT hi0 ih n1 _ _ _ _ h _ _ _ G (lv_sub hl [2, 3, 1, 4, 0] rfl)
def w_X0_take (post : MS → Prop) (σ : MS) (i0 : Nat) (a1 : Int32) : Prop := (∃ k, u_X0_take_4 post i0 a1 k σ a1 0)
set_option maxHeartbeats 4000000 in
set_option maxRecDepth 100000 in
theorem c_X0_take (l : Launch) (D : va_G) (cy : Nat → ClassId) (lay : Nat → Nat) {σ : MS} {post : MS → Prop} {i0 : Nat} {a1 : Int32} (h : w_X0_take post σ i0 a1) (hi0 : i0 < 6) (sz : Nat) : Met l yX0_take wsX0_take rm_X0_take (va_Pc [.ref (lay (55 + i0)), .int a1] (agI D cy lay σ sz)) (va_Qv post (agO D cy lay) (agA lay sz)) 0 0 (agA lay sz) := by
  refine ag_ofW (cc := cX0_take) (maxL := 5) (ret := none) (own := RX0) (Qc := fun sz => va_Qv post (agO D cy lay) (agA lay sz)) (by decide) rfl (Nat.le_of_ble_eq_true rfl) rfl ?_
  intro p e s m args below meth c ls hC hr hlocks hT G hl
  unfold w_X0_take at h
  have hl : lv_has ls 5 [(0, .ref (lay (55 + i0))), (1, .int a1)] := hl
  refine lv_iload_n hC.1 hC.2.1 dX0_take_0 rfl (lv_at hl 1 rfl) ?_
  refine lv_istore_n (lv' := [(2, .int a1), (0, .ref (lay (55 + i0))), (1, .int a1)]) hC.1 hC.2.1 dX0_take_1 rfl hl (by decide) rfl (fun ls hl => ?_)
  refine lv_iconst (v := 0) hC.1 hC.2.1 dX0_take_2 (by decide) ?_
  refine lv_istore_n (lv' := [(3, .int 0), (2, .int a1), (0, .ref (lay (55 + i0))), (1, .int a1)]) hC.1 hC.2.1 dX0_take_3 rfl hl (by decide) rfl (fun ls hl => ?_)
  obtain ⟨n1, h⟩ := h
  exact l_X0_take_4 i0 a1 hC hr hlocks hT hi0 n1 _ _ _ h _ _ _ G (lv_sub hl [2, 3, 1, 0] rfl)
theorem hdV_X0_take : yX0_take.cls = RX0 ∧ yX0_take.cls ≠ "java/lang/invoke/MethodHandle" ∧ yX0_take.cls ≠ "java/lang/invoke/VarHandle" ∧ (parseMethodDescriptor yX0_take.desc).map (fun d => d.parameters.length) = some 1 := by decide +kernel
abbrev rm_X1_betterStart : Room := { frames := 0, cells := 0, slots := 0, locals := 0 }
theorem i_X1_betterStart_X1 : ∀ w ∈ wsX10, w ∈ wsX1_betterStart := fun _ h => List.mem_cons_of_mem _ (List.mem_append_right _ h)
def w_X1_betterStart (post : Int32 → MS → Prop) (σ : MS) (a1 : Int32) (a2 : Int32) : Prop := ((a2 = (-1) → post a1 σ) ∧ (¬ a2 = (-1) → (vp_in a1 16 ∧ (vp_in a2 16 ∧ (((σ 13 (Int32.toNatClampNeg a1)) ≤ (σ 13 (Int32.toNatClampNeg a2)) → (vp_in a1 16 ∧ (vp_in a2 16 ∧ (((σ 13 (Int32.toNatClampNeg a1)) = (σ 13 (Int32.toNatClampNeg a2)) → (vp_in a1 16 ∧ (vp_in a2 16 ∧ (((σ 12 (Int32.toNatClampNeg a2)) ≤ (σ 12 (Int32.toNatClampNeg a1)) → post a2 σ) ∧ (¬ (σ 12 (Int32.toNatClampNeg a2)) ≤ (σ 12 (Int32.toNatClampNeg a1)) → post a1 σ))))) ∧ (¬ (σ 13 (Int32.toNatClampNeg a1)) = (σ 13 (Int32.toNatClampNeg a2)) → post a2 σ))))) ∧ (¬ (σ 13 (Int32.toNatClampNeg a1)) ≤ (σ 13 (Int32.toNatClampNeg a2)) → post a1 σ))))))
set_option maxHeartbeats 4000000 in
set_option maxRecDepth 100000 in
theorem c_X1_betterStart (l : Launch) (D : va_G) (cy : Nat → ClassId) (lay : Nat → Nat) {σ : MS} {post : Int32 → MS → Prop} {a1 : Int32} {a2 : Int32} (h : w_X1_betterStart post σ a1 a2) (sz : Nat) : Met l yX1_betterStart wsX1_betterStart rm_X1_betterStart (va_Pc [.ref (lay 10), .int a1, .int a2] (agI D cy lay σ sz)) (va_Qi post (agO D cy lay) (agA lay sz)) 0 0 (agA lay sz) := by
  refine ag_ofW (cc := cX1_betterStart) (maxL := 3) (ret := some .int) (own := RX1) (Qc := fun sz => va_Qi post (agO D cy lay) (agA lay sz)) (by decide) rfl (Nat.le_of_ble_eq_true rfl) rfl ?_
  intro p e s m args below meth c ls hC hr hlocks hT G hl
  unfold w_X1_betterStart at h
  have hl : lv_has ls 3 [(0, .ref (lay 10)), (1, .int a1), (2, .int a2)] := hl
  refine lv_iload_n hC.1 hC.2.1 dX1_betterStart_0 rfl (lv_at hl 2 rfl) ?_
  refine lv_iconst (v := (-1)) hC.1 hC.2.1 dX1_betterStart_1 (by decide) ?_
  refine lv_icmp_eq (tgt := 20) hC.1 hC.2.1 dX1_betterStart_2 (by decide) (fun c1 => ?_) (fun c1 => ?_)
  · replace h := h.1 c1
    refine lv_iload_n hC.1 hC.2.1 dX1_betterStart_20 rfl (lv_at hl 1 rfl) ?_
    exact ag_iret hC hr hlocks G h dX1_betterStart_21
  · replace h := h.2 c1
    refine lv_aload_n hC.1 hC.2.1 dX1_betterStart_5 rfl (lv_at hl 0 rfl) ?_
    refine ag_get hC hT G (by decide) e_bs k_X1 i_X1_betterStart_X1 4 (by decide) (wm 1 rfl) rfl dX1_betterStart_6 ?_
    refine lv_iload_n hC.1 hC.2.1 dX1_betterStart_9 rfl (lv_at hl 1 rfl) ?_
    obtain ⟨hn2, h⟩ := h
    refine ag_iald hC hT G (by decide) e_lng hn2 dX1_betterStart_10 ?_
    refine lv_aload_n hC.1 hC.2.1 dX1_betterStart_11 rfl (lv_at hl 0 rfl) ?_
    refine ag_get hC hT G (by decide) e_bs k_X1 i_X1_betterStart_X1 4 (by decide) (wm 1 rfl) rfl dX1_betterStart_12 ?_
    refine lv_iload_n hC.1 hC.2.1 dX1_betterStart_15 rfl (lv_at hl 2 rfl) ?_
    obtain ⟨hn3, h⟩ := h
    refine ag_iald hC hT G (by decide) e_lng hn3 dX1_betterStart_16 ?_
    refine lv_icmp_le (tgt := 22) hC.1 hC.2.1 dX1_betterStart_17 (by decide) (fun c4 => ?_) (fun c4 => ?_)
    · replace h := h.1 c4
      refine lv_aload_n hC.1 hC.2.1 dX1_betterStart_22 rfl (lv_at hl 0 rfl) ?_
      refine ag_get hC hT G (by decide) e_bs k_X1 i_X1_betterStart_X1 4 (by decide) (wm 1 rfl) rfl dX1_betterStart_23 ?_
      refine lv_iload_n hC.1 hC.2.1 dX1_betterStart_26 rfl (lv_at hl 1 rfl) ?_
      obtain ⟨hn5, h⟩ := h
      refine ag_iald hC hT G (by decide) e_lng hn5 dX1_betterStart_27 ?_
      refine lv_aload_n hC.1 hC.2.1 dX1_betterStart_28 rfl (lv_at hl 0 rfl) ?_
      refine ag_get hC hT G (by decide) e_bs k_X1 i_X1_betterStart_X1 4 (by decide) (wm 1 rfl) rfl dX1_betterStart_29 ?_
      refine lv_iload_n hC.1 hC.2.1 dX1_betterStart_32 rfl (lv_at hl 2 rfl) ?_
      obtain ⟨hn6, h⟩ := h
      refine ag_iald hC hT G (by decide) e_lng hn6 dX1_betterStart_33 ?_
      refine lv_icmp_ne (tgt := 56) hC.1 hC.2.1 dX1_betterStart_34 (by decide) (fun c7 => ?_) (fun c7 => ?_)
      · replace h := h.2 c7
        refine lv_iload_n hC.1 hC.2.1 dX1_betterStart_56 rfl (lv_at hl 2 rfl) ?_
        exact ag_iret hC hr hlocks G h dX1_betterStart_57
      · replace h := h.1 c7
        refine lv_aload_n hC.1 hC.2.1 dX1_betterStart_37 rfl (lv_at hl 0 rfl) ?_
        refine ag_get hC hT G (by decide) e_bs k_X1 i_X1_betterStart_X1 3 (by decide) (wm 2 rfl) rfl dX1_betterStart_38 ?_
        refine lv_iload_n hC.1 hC.2.1 dX1_betterStart_41 rfl (lv_at hl 1 rfl) ?_
        obtain ⟨hn8, h⟩ := h
        refine ag_iald hC hT G (by decide) e_ord hn8 dX1_betterStart_42 ?_
        refine lv_aload_n hC.1 hC.2.1 dX1_betterStart_43 rfl (lv_at hl 0 rfl) ?_
        refine ag_get hC hT G (by decide) e_bs k_X1 i_X1_betterStart_X1 3 (by decide) (wm 2 rfl) rfl dX1_betterStart_44 ?_
        refine lv_iload_n hC.1 hC.2.1 dX1_betterStart_47 rfl (lv_at hl 2 rfl) ?_
        obtain ⟨hn9, h⟩ := h
        refine ag_iald hC hT G (by decide) e_ord hn9 dX1_betterStart_48 ?_
        refine lv_icmp_ge (tgt := 56) hC.1 hC.2.1 dX1_betterStart_49 (by decide) (fun c10 => ?_) (fun c10 => ?_)
        · replace h := h.1 c10
          refine lv_iload_n hC.1 hC.2.1 dX1_betterStart_56 rfl (lv_at hl 2 rfl) ?_
          exact ag_iret hC hr hlocks G h dX1_betterStart_57
        · replace h := h.2 c10
          refine lv_iload_n hC.1 hC.2.1 dX1_betterStart_52 rfl (lv_at hl 1 rfl) ?_
          refine lv_goto (tgt := 57) hC.1 hC.2.1 dX1_betterStart_53 (by decide) ?_
          exact ag_iret hC hr hlocks G h dX1_betterStart_57
    · replace h := h.2 c4
      refine lv_iload_n hC.1 hC.2.1 dX1_betterStart_20 rfl (lv_at hl 1 rfl) ?_
      exact ag_iret hC hr hlocks G h dX1_betterStart_21
theorem hdV_X1_betterStart : yX1_betterStart.cls = RX1 ∧ yX1_betterStart.cls ≠ "java/lang/invoke/MethodHandle" ∧ yX1_betterStart.cls ≠ "java/lang/invoke/VarHandle" ∧ (parseMethodDescriptor yX1_betterStart.desc).map (fun d => d.parameters.length) = some 2 := by decide +kernel
abbrev rm_X1_sort : Room := { frames := 1, cells := 0, slots := 0, locals := 21 }
theorem i_X1_sort_X1 : ∀ w ∈ wsX10, w ∈ wsX1_sort := fun _ h => List.mem_cons_of_mem _ (List.mem_append_left _ (List.mem_append_right _ h))
theorem i_X1_sort_X5 : ∀ w ∈ wsX50, w ∈ wsX1_sort := fun _ h => List.mem_cons_of_mem _ (List.mem_append_right _ h)
def u_X1_sort_16 (post : MS → Prop) (a2 : Int32) (K7 : MS → Int32 → Prop) : Nat → MS → Int32 → Int32 → Prop
  | 0, _, _, _ => False
  | n + 1, σ, v3, v4 => ((16 ≤ v4 → K7 σ (v3 + 1)) ∧ (¬ 16 ≤ v4 → w_X7_has (fun r4 σ3 => ((r4 = 0 → u_X1_sort_16 post a2 K7 n σ3 v3 (v4 + 1)) ∧ (¬ r4 = 0 → (vp_in v4 16 ∧ (((σ3 (39 + (Int32.toNatClampNeg v4)) 1) = v3 → ((16 ≤ (σ3 10 6) → u_X1_sort_16 post a2 K7 n σ3 v3 (v4 + 1)) ∧ (¬ 16 ≤ (σ3 10 6) → (vp_in (σ3 10 6) 16 ∧ u_X1_sort_16 post a2 K7 n (up2 (up2 σ3 12 (Int32.toNatClampNeg (σ3 10 6)) v4) 10 6 (((up2 σ3 12 (Int32.toNatClampNeg (σ3 10 6)) v4) 10 6) + 1)) v3 (v4 + 1))))) ∧ (¬ (σ3 (39 + (Int32.toNatClampNeg v4)) 1) = v3 → u_X1_sort_16 post a2 K7 n σ3 v3 (v4 + 1))))))) σ a2 v4))
set_option maxHeartbeats 4000000 in
set_option maxRecDepth 100000 in
theorem l_X1_sort_16 {p : Program} {l : Launch} {e : Env} {s : State} {m : MethodId} {args : Array Value} {below : List Frame} {meth : Method} {c : Code} {D : va_G} {cy : Nat → ClassId} {lay : Nat → Nat} {post : MS → Prop} (a2 : Int32) (K7 : MS → Int32 → Prop) (hC : CallFix p m c cX1_sort 5 s args wsX1_sort RX1) (hr : meth.sig.returnType = none) (hlocks : meth.locks = false) (hT : agT D cy lay s) (hK7 : ∀ (σ : MS) (v3 : Int32), K7 σ v3 → ∀ (H : Heap) (locs : List Loc) (ls : Array Slot), agG D cy lay σ (agA lay s.heap.size) s.heap H locs → lv_has ls 5 [(0, .ref (lay 10)), (1, .ref (lay 2)), (2, .int a2), (3, .int v3)] → W p l e rm_X1_sort s m args below meth c H locs 0 0 (MQ below (va_Qv post (agO D cy lay) (agA lay s.heap.size)) args s 0 0 (agA lay s.heap.size)) (F0 m 7 ls [])) : ∀ (n : Nat), ∀ (σ : MS) (v3 : Int32) (v4 : Int32), u_X1_sort_16 post a2 K7 n σ v3 v4 → ∀ (H : Heap) (locs : List Loc) (ls : Array Slot), agG D cy lay σ (agA lay s.heap.size) s.heap H locs → lv_has ls 5 [(0, .ref (lay 10)), (1, .ref (lay 2)), (2, .int a2), (3, .int v3), (4, .int v4)] → W p l e rm_X1_sort s m args below meth c H locs 0 0 (MQ below (va_Qv post (agO D cy lay) (agA lay s.heap.size)) args s 0 0 (agA lay s.heap.size)) (F0 m 16 ls []) := by
  intro n
  induction n with
  | zero =>
    intro σ v3 v4 h
    exact h.elim
  | succ n ih =>
    intro σ v3 v4 h H locs ls G hl
    rw [u_X1_sort_16] at h
    refine lv_iload hC.1 hC.2.1 dX1_sort_16 (lv_at hl 4 rfl) ?_
    refine lv_bipush (v := 16) hC.1 hC.2.1 dX1_sort_18 (by decide) ?_
    refine lv_icmp_ge (tgt := 79) hC.1 hC.2.1 dX1_sort_20 (by decide) (fun c2 => ?_) (fun c2 => ?_)
    · replace h := h.1 c2
      refine lv_iinc (v := v3 + 1) (lv' := [(3, .int (v3 + 1)), (0, .ref (lay 10)), (1, .ref (lay 2)), (2, .int a2), (4, .int v4)]) hC.1 hC.2.1 dX1_sort_79 hl (k := 3) rfl rfl (by decide) rfl (fun ls hl => ?_)
      refine lv_goto (tgt := 7) hC.1 hC.2.1 dX1_sort_82 (by decide) ?_
      exact hK7 _ _ h _ _ _ G (lv_sub hl [1, 2, 3, 0] rfl)
    · replace h := h.2 c2
      refine lv_iload_n hC.1 hC.2.1 dX1_sort_23 rfl (lv_at hl 2 rfl) ?_
      refine lv_iload hC.1 hC.2.1 dX1_sort_24 (lv_at hl 4 rfl) ?_
      refine ag_i G (ag_runSN (As := [.int a2, .int v4]) (rest := []) hC hT G (c_X7_has l D cy lay h _) ⟨va_cnB 2 hC.2.2.2.2 ggX1_sort_X7_has rfl rfl rfl (hT.2.1 _ (wm 33 rfl)) (hC.2.2.2.2 (.initialized RX7) (wm 5 rfl)) hdS_X7_has ⟨Nat.le_of_ble_eq_true rfl, Nat.le_of_ble_eq_true rfl⟩, hC.2.2.2.2 (.static yX7_has) (wm 4 rfl), trivial⟩ rfl hl.1 rfl (Nat.le_of_ble_eq_true rfl) dX1_sort_26 ⟨Nat.le_of_ble_eq_true rfl, Nat.le_of_ble_eq_true rfl⟩) (fun r4 σ3 H locs h G => ?_)
      (try dsimp only at h)
      refine lv_if_eq (tgt := 73) hC.1 hC.2.1 dX1_sort_29 (by decide) (fun c5 => ?_) (fun c5 => ?_)
      · replace h := h.1 c5
        refine lv_iinc (v := v4 + 1) (lv' := [(4, .int (v4 + 1)), (0, .ref (lay 10)), (1, .ref (lay 2)), (2, .int a2), (3, .int v3)]) hC.1 hC.2.1 dX1_sort_73 hl (k := 4) rfl rfl (by decide) rfl (fun ls hl => ?_)
        refine lv_goto (tgt := 16) hC.1 hC.2.1 dX1_sort_76 (by decide) ?_
        exact ih _ _ _ h _ _ _ G (lv_sub hl [1, 2, 3, 4, 0] rfl)
      · replace h := h.2 c5
        refine lv_aload_n hC.1 hC.2.1 dX1_sort_32 rfl (lv_at hl 1 rfl) ?_
        refine lv_iload hC.1 hC.2.1 dX1_sort_33 (lv_at hl 4 rfl) ?_
        obtain ⟨hn6, h⟩ := h
        refine ag_aald hC hT G (by decide) _ rfl e_sgs hn6 dX1_sort_35 ?_
        refine ag_get hC hT G (k_sg (vlt hn6)) (e_sg (vlt hn6)) k_X5 i_X1_sort_X5 1 (by decide) (wm 2 rfl) rfl dX1_sort_36 ?_
        refine lv_iload_n hC.1 hC.2.1 dX1_sort_39 rfl (lv_at hl 3 rfl) ?_
        refine lv_icmp_ne (tgt := 73) hC.1 hC.2.1 dX1_sort_40 (by decide) (fun c7 => ?_) (fun c7 => ?_)
        · replace h := h.2 c7
          refine lv_iinc (v := v4 + 1) (lv' := [(4, .int (v4 + 1)), (0, .ref (lay 10)), (1, .ref (lay 2)), (2, .int a2), (3, .int v3)]) hC.1 hC.2.1 dX1_sort_73 hl (k := 4) rfl rfl (by decide) rfl (fun ls hl => ?_)
          refine lv_goto (tgt := 16) hC.1 hC.2.1 dX1_sort_76 (by decide) ?_
          exact ih _ _ _ h _ _ _ G (lv_sub hl [1, 2, 3, 4, 0] rfl)
        · replace h := h.1 c7
          refine lv_aload_n hC.1 hC.2.1 dX1_sort_43 rfl (lv_at hl 0 rfl) ?_
          refine ag_get hC hT G (by decide) e_bs k_X1 i_X1_sort_X1 6 (by decide) (wm 1 rfl) rfl dX1_sort_44 ?_
          refine lv_bipush (v := 16) hC.1 hC.2.1 dX1_sort_47 (by decide) ?_
          refine lv_icmp_ge (tgt := 73) hC.1 hC.2.1 dX1_sort_49 (by decide) (fun c8 => ?_) (fun c8 => ?_)
          · replace h := h.1 c8
            refine lv_iinc (v := v4 + 1) (lv' := [(4, .int (v4 + 1)), (0, .ref (lay 10)), (1, .ref (lay 2)), (2, .int a2), (3, .int v3)]) hC.1 hC.2.1 dX1_sort_73 hl (k := 4) rfl rfl (by decide) rfl (fun ls hl => ?_)
            refine lv_goto (tgt := 16) hC.1 hC.2.1 dX1_sort_76 (by decide) ?_
            exact ih _ _ _ h _ _ _ G (lv_sub hl [1, 2, 3, 4, 0] rfl)
          · replace h := h.2 c8
            refine lv_aload_n hC.1 hC.2.1 dX1_sort_52 rfl (lv_at hl 0 rfl) ?_
            refine ag_get hC hT G (by decide) e_bs k_X1 i_X1_sort_X1 3 (by decide) (wm 3 rfl) rfl dX1_sort_53 ?_
            refine lv_aload_n hC.1 hC.2.1 dX1_sort_56 rfl (lv_at hl 0 rfl) ?_
            refine ag_get hC hT G (by decide) e_bs k_X1 i_X1_sort_X1 6 (by decide) (wm 1 rfl) rfl dX1_sort_57 ?_
            refine lv_iload hC.1 hC.2.1 dX1_sort_60 (lv_at hl 4 rfl) ?_
            obtain ⟨hn9, h⟩ := h
            refine ag_iast hC hT G (by decide) (fun _ => e_ord) hn9 dX1_sort_62 (fun H locs G => ?_)
            refine lv_aload_n hC.1 hC.2.1 dX1_sort_63 rfl (lv_at hl 0 rfl) ?_
            refine lv_dup hC.1 hC.2.1 dX1_sort_64 rfl ?_
            refine ag_get hC hT G (by decide) e_bs k_X1 i_X1_sort_X1 6 (by decide) (wm 1 rfl) rfl dX1_sort_65 ?_
            refine lv_iconst (v := 1) hC.1 hC.2.1 dX1_sort_68 (by decide) ?_
            refine lv_iadd hC.1 hC.2.1 dX1_sort_69 ?_
            refine ag_put hC hT G (by decide) e_bs k_X1 i_X1_sort_X1 6 (by decide) (wm 1 rfl) rfl rfl (by simp) e_bs rfl dX1_sort_70 (fun H locs G => ?_)
            refine lv_iinc (v := v4 + 1) (lv' := [(4, .int (v4 + 1)), (0, .ref (lay 10)), (1, .ref (lay 2)), (2, .int a2), (3, .int v3)]) hC.1 hC.2.1 dX1_sort_73 hl (k := 4) rfl rfl (by decide) rfl (fun ls hl => ?_)
            refine lv_goto (tgt := 16) hC.1 hC.2.1 dX1_sort_76 (by decide) ?_
            exact ih _ _ _ h _ _ _ G (lv_sub hl [1, 2, 3, 4, 0] rfl)
def u_X1_sort_7 (post : MS → Prop) (a2 : Int32) : Nat → MS → Int32 → Prop
  | 0, _, _ => False
  | n + 1, σ, v3 => ((10 ≤ v3 → post σ) ∧ (¬ 10 ≤ v3 → (∃ k, u_X1_sort_16 post a2 (fun σ w0 => u_X1_sort_7 post a2 n σ w0) k σ v3 0)))
set_option maxHeartbeats 4000000 in
set_option maxRecDepth 100000 in
theorem l_X1_sort_7 {p : Program} {l : Launch} {e : Env} {s : State} {m : MethodId} {args : Array Value} {below : List Frame} {meth : Method} {c : Code} {D : va_G} {cy : Nat → ClassId} {lay : Nat → Nat} {post : MS → Prop} (a2 : Int32) (hC : CallFix p m c cX1_sort 5 s args wsX1_sort RX1) (hr : meth.sig.returnType = none) (hlocks : meth.locks = false) (hT : agT D cy lay s) : ∀ (n : Nat), ∀ (σ : MS) (v3 : Int32), u_X1_sort_7 post a2 n σ v3 → ∀ (H : Heap) (locs : List Loc) (ls : Array Slot), agG D cy lay σ (agA lay s.heap.size) s.heap H locs → lv_has ls 5 [(0, .ref (lay 10)), (1, .ref (lay 2)), (2, .int a2), (3, .int v3)] → W p l e rm_X1_sort s m args below meth c H locs 0 0 (MQ below (va_Qv post (agO D cy lay) (agA lay s.heap.size)) args s 0 0 (agA lay s.heap.size)) (F0 m 7 ls []) := by
  intro n
  induction n with
  | zero =>
    intro σ v3 h
    exact h.elim
  | succ n ih =>
    intro σ v3 h H locs ls G hl
    rw [u_X1_sort_7] at h
    refine lv_iload_n hC.1 hC.2.1 dX1_sort_7 rfl (lv_at hl 3 rfl) ?_
    refine lv_bipush (v := 10) hC.1 hC.2.1 dX1_sort_8 (by decide) ?_
    refine lv_icmp_ge (tgt := 85) hC.1 hC.2.1 dX1_sort_10 (by decide) (fun c1 => ?_) (fun c1 => ?_)
    · replace h := h.1 c1
      exact ag_vret hC hr hlocks G h dX1_sort_85
    · replace h := h.2 c1
      refine lv_iconst (v := 0) hC.1 hC.2.1 dX1_sort_13 (by decide) ?_
      refine lv_istore (lv' := [(4, .int 0), (0, .ref (lay 10)), (1, .ref (lay 2)), (2, .int a2), (3, .int v3)]) hC.1 hC.2.1 dX1_sort_14 hl (by decide) rfl (fun ls hl => ?_)
      obtain ⟨n1, h⟩ := h
      exact l_X1_sort_16 a2 (fun σ w0 => u_X1_sort_7 post a2 n σ w0) hC hr hlocks hT ih n1 _ _ _ h _ _ _ G (lv_sub hl [1, 2, 3, 4, 0] rfl)
def w_X1_sort (post : MS → Prop) (σ : MS) (a2 : Int32) : Prop := (∃ k, u_X1_sort_7 post a2 k (up2 σ 10 6 0) 0)
set_option maxHeartbeats 4000000 in
set_option maxRecDepth 100000 in
theorem c_X1_sort (l : Launch) (D : va_G) (cy : Nat → ClassId) (lay : Nat → Nat) {σ : MS} {post : MS → Prop} {a2 : Int32} (h : w_X1_sort post σ a2) (sz : Nat) : Met l yX1_sort wsX1_sort rm_X1_sort (va_Pc [.ref (lay 10), .ref (lay 2), .int a2] (agI D cy lay σ sz)) (va_Qv post (agO D cy lay) (agA lay sz)) 0 0 (agA lay sz) := by
  refine ag_ofW (cc := cX1_sort) (maxL := 5) (ret := none) (own := RX1) (Qc := fun sz => va_Qv post (agO D cy lay) (agA lay sz)) (by decide) rfl (Nat.le_of_ble_eq_true rfl) rfl ?_
  intro p e s m args below meth c ls hC hr hlocks hT G hl
  unfold w_X1_sort at h
  have hl : lv_has ls 5 [(0, .ref (lay 10)), (1, .ref (lay 2)), (2, .int a2)] := hl
  refine lv_aload_n hC.1 hC.2.1 dX1_sort_0 rfl (lv_at hl 0 rfl) ?_
  refine lv_iconst (v := 0) hC.1 hC.2.1 dX1_sort_1 (by decide) ?_
  refine ag_put hC hT G (by decide) e_bs k_X1 i_X1_sort_X1 6 (by decide) (wm 1 rfl) rfl rfl (by simp) e_bs rfl dX1_sort_2 (fun H locs G => ?_)
  refine lv_iconst (v := 0) hC.1 hC.2.1 dX1_sort_5 (by decide) ?_
  refine lv_istore_n (lv' := [(3, .int 0), (0, .ref (lay 10)), (1, .ref (lay 2)), (2, .int a2)]) hC.1 hC.2.1 dX1_sort_6 rfl hl (by decide) rfl (fun ls hl => ?_)
  obtain ⟨n1, h⟩ := h
  exact l_X1_sort_7 a2 hC hr hlocks hT n1 _ _ h _ _ _ G (lv_sub hl [1, 2, 3, 0] rfl)
theorem hdV_X1_sort : yX1_sort.cls = RX1 ∧ yX1_sort.cls ≠ "java/lang/invoke/MethodHandle" ∧ yX1_sort.cls ≠ "java/lang/invoke/VarHandle" ∧ (parseMethodDescriptor yX1_sort.desc).map (fun d => d.parameters.length) = some 2 := by decide +kernel
