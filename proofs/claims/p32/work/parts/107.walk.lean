abbrev rm_T_X7_ill : Room := { frames := 7, cells := 2, slots := 12, locals := 121 }
theorem i_T_X7_ill_X7 : ∀ w ∈ wsX70, w ∈ wsX7_ill := fun _ h => List.mem_cons_of_mem _ (List.mem_append_left _ (List.mem_append_left _ (List.mem_append_left _ (List.mem_append_left _ (List.mem_append_left _ (List.mem_append_left _ (List.mem_append_left _ (List.mem_append_right _ h))))))))
theorem i_T_X7_ill_X6 : ∀ w ∈ wsX60, w ∈ wsX7_ill := fun _ h => List.mem_cons_of_mem _ (List.mem_append_left _ (List.mem_append_left _ (List.mem_append_left _ (List.mem_append_left _ (List.mem_append_left _ (List.mem_append_left _ (List.mem_append_right _ h)))))))
def u_T_X7_ill_32 (post : Int32 → MS → Prop) (pex : String → MS → Prop) (a1 : Int32) (a2 : Int32) : Nat → MS → Int32 → Int32 → Prop
  | 0, _, _, _ => False
  | n + 1, σ, v3, v4 => (((σ 0 8) ≤ v4 → post v3 σ) ∧ (¬ (σ 0 8) ≤ v4 → (vp_in v4 14 ∧ (((σ (73 + (Int32.toNatClampNeg v4)) 1) = a2 → w_X6_isFixedWith (fun r11 σ10 => ((r11 = 0 → u_T_X7_ill_32 post pex a1 a2 n σ10 v3 (v4 + 1)) ∧ (¬ r11 = 0 → (vp_in v4 14 ∧ w_X7_putOnStage (fun σ14 => u_T_X7_ill_32 post pex a1 a2 n σ14 v3 (v4 + 1)) σ10 (Int32.toNatClampNeg v4) (σ10 7 (Int32.toNatClampNeg v4)))))) σ (Int32.toNatClampNeg v4) a1) ∧ (¬ (σ (73 + (Int32.toNatClampNeg v4)) 1) = a2 → u_T_X7_ill_32 post pex a1 a2 n σ v3 (v4 + 1))))))
set_option maxHeartbeats 4000000 in
set_option maxRecDepth 100000 in
theorem l_T_X7_ill_32 {p : Program} {l : Launch} {e : Env} {s : State} {m : MethodId} {args : Array Value} {below : List Frame} {meth : Method} {c : Code} {D : va_G} {cy : Nat → ClassId} {lay : Nat → Nat} {post : Int32 → MS → Prop} {pex : String → MS → Prop} (a1 : Int32) (a2 : Int32) (hl0 : l.stackTraces = false) (hC : CallFix p m c cX7_ill 6 s args wsX7_ill RX7) (hr : meth.sig.returnType = some .int) (hlocks : meth.locks = false) (htab : ∀ x ∈ c.exceptionTable.toList, False) (hT : agT D cy lay s) : ∀ (n : Nat), ∀ (σ : MS) (v3 : Int32) (v4 : Int32), u_T_X7_ill_32 post pex a1 a2 n σ v3 v4 → ∀ (H : Heap) (locs : List Loc) (ls : Array Slot), agG D cy lay σ (agA lay s.heap.size) s.heap H locs → lv_has ls 6 [(0, .ref (lay 0)), (1, .int a1), (2, .int a2), (3, .int v3), (4, .int v4)] → W p l e rm_T_X7_ill s m args below meth c H locs 2 12 (vx_MQ below (va_Qi post (agO D cy lay) (agA lay s.heap.size)) (agXC D cy lay pex s.heap.size) args s 2 12 (agA lay s.heap.size)) (F0 m 32 ls []) := by
  intro n
  induction n with
  | zero =>
    intro σ v3 v4 h
    exact h.elim
  | succ n ih =>
    intro σ v3 v4 h H locs ls G hl
    rw [u_T_X7_ill_32] at h
    refine lv_iload hC.1 hC.2.1 dX7_ill_32 (lv_at hl 4 rfl) ?_
    refine lv_aload_n hC.1 hC.2.1 dX7_ill_34 rfl (lv_at hl 0 rfl) ?_
    refine ag_get hC hT G (by decide) e_ag k_X7 i_T_X7_ill_X7 8 (by decide) (wm 2 rfl) rfl dX7_ill_35 ?_
    refine lv_icmp_ge (tgt := 87) hC.1 hC.2.1 dX7_ill_38 (by decide) (fun c7 => ?_) (fun c7 => ?_)
    · replace h := h.1 c7
      refine lv_iload_n hC.1 hC.2.1 dX7_ill_87 rfl (lv_at hl 3 rfl) ?_
      refine W.widen (k := 2) (n := 12) (by decide) (by decide) ?_
      exact vx_ret (ag_iret hC hr hlocks G h dX7_ill_88)
    · replace h := h.2 c7
      refine lv_aload_n hC.1 hC.2.1 dX7_ill_41 rfl (lv_at hl 0 rfl) ?_
      refine ag_get hC hT G (by decide) e_ag k_X7 i_T_X7_ill_X7 3 (by decide) (wm 3 rfl) rfl dX7_ill_42 ?_
      refine lv_iload hC.1 hC.2.1 dX7_ill_45 (lv_at hl 4 rfl) ?_
      obtain ⟨hn8, h⟩ := h
      refine ag_aald hC hT G (by decide) _ rfl e_wds hn8 dX7_ill_47 ?_
      refine lv_astore (lv' := [(5, .ref (lay (73 + (Int32.toNatClampNeg v4)))), (0, .ref (lay 0)), (1, .int a1), (2, .int a2), (3, .int v3), (4, .int v4)]) hC.1 hC.2.1 dX7_ill_48 hl (by decide) rfl (fun ls hl => ?_)
      refine lv_aload hC.1 hC.2.1 dX7_ill_50 (lv_at hl 0 rfl) ?_
      refine ag_get hC hT G (k_wd (vlt hn8)) (e_wd (vlt hn8)) k_X6 i_T_X7_ill_X6 1 (by decide) (wm 4 rfl) rfl dX7_ill_52 ?_
      refine lv_iload_n hC.1 hC.2.1 dX7_ill_55 rfl (lv_at hl 3 rfl) ?_
      refine lv_icmp_ne (tgt := 81) hC.1 hC.2.1 dX7_ill_56 (by decide) (fun c9 => ?_) (fun c9 => ?_)
      · replace h := h.2 c9
        refine lv_iinc (v := v4 + 1) (lv' := [(4, .int (v4 + 1)), (5, .ref (lay (73 + (Int32.toNatClampNeg v4)))), (0, .ref (lay 0)), (1, .int a1), (2, .int a2), (3, .int v3)]) hC.1 hC.2.1 dX7_ill_81 hl (k := 5) rfl rfl (by decide) rfl (fun ls hl => ?_)
        refine lv_goto (tgt := 32) hC.1 hC.2.1 dX7_ill_84 (by decide) ?_
        exact ih _ _ _ h _ _ _ G (lv_sub hl [2, 3, 4, 5, 0] rfl)
      · replace h := h.1 c9
        refine lv_aload hC.1 hC.2.1 dX7_ill_59 (lv_at hl 0 rfl) ?_
        refine lv_iload_n hC.1 hC.2.1 dX7_ill_61 rfl (lv_at hl 2 rfl) ?_
        refine ag_i G (ag_runV (As := [.int a1]) (rest := []) hC hT G (c_X6_isFixedWith l D cy lay h (vlt hn8) _) (cwV 1 hC.2.2.2.2 gX7_ill_X6_isFixedWith rfl rfl rfl hdV_X6_isFixedWith ⟨Nat.le_of_ble_eq_true rfl, Nat.le_of_ble_eq_true rfl⟩) (ag_recv hT G (k_wd (vlt hn8)) (e_wd (vlt hn8)) k_X6) rfl hl.1 rfl (Nat.le_of_ble_eq_true rfl) dX7_ill_62 ⟨Nat.le_of_ble_eq_true rfl, Nat.le_of_ble_eq_true rfl⟩) (fun r11 σ10 H locs h G => ?_)
        (try dsimp only at h)
        refine lv_if_eq (tgt := 81) hC.1 hC.2.1 dX7_ill_65 (by decide) (fun c12 => ?_) (fun c12 => ?_)
        · replace h := h.1 c12
          refine lv_iinc (v := v4 + 1) (lv' := [(4, .int (v4 + 1)), (5, .ref (lay (73 + (Int32.toNatClampNeg v4)))), (0, .ref (lay 0)), (1, .int a1), (2, .int a2), (3, .int v3)]) hC.1 hC.2.1 dX7_ill_81 hl (k := 5) rfl rfl (by decide) rfl (fun ls hl => ?_)
          refine lv_goto (tgt := 32) hC.1 hC.2.1 dX7_ill_84 (by decide) ?_
          exact ih _ _ _ h _ _ _ G (lv_sub hl [2, 3, 4, 5, 0] rfl)
        · replace h := h.2 c12
          refine lv_aload_n hC.1 hC.2.1 dX7_ill_68 rfl (lv_at hl 1 rfl) ?_
          refine lv_aload hC.1 hC.2.1 dX7_ill_69 (lv_at hl 0 rfl) ?_
          refine lv_aload_n hC.1 hC.2.1 dX7_ill_71 rfl (lv_at hl 1 rfl) ?_
          refine ag_get hC hT G (by decide) e_ag k_X7 i_T_X7_ill_X7 11 (by decide) (wm 5 rfl) rfl dX7_ill_72 ?_
          refine lv_iload hC.1 hC.2.1 dX7_ill_75 (lv_at hl 5 rfl) ?_
          obtain ⟨hn13, h⟩ := h
          refine ag_iald hC hT G (by decide) e_stg hn13 dX7_ill_77 ?_
          refine ag_v G (ag_runV (As := [.ref (lay (73 + (Int32.toNatClampNeg v4))), .int (σ10 7 (Int32.toNatClampNeg v4))]) (rest := []) hC hT G (c_X7_putOnStage l D cy lay h (vlt hn8) _) (cwV 2 hC.2.2.2.2 gX7_ill_X7_putOnStage rfl rfl rfl hdV_X7_putOnStage ⟨Nat.le_of_ble_eq_true rfl, Nat.le_of_ble_eq_true rfl⟩) (ag_recv hT G (by decide) e_ag k_X7) rfl hl.1 rfl (Nat.le_of_ble_eq_true rfl) dX7_ill_78 ⟨Nat.le_of_ble_eq_true rfl, Nat.le_of_ble_eq_true rfl⟩) (fun σ14 H locs h G => ?_)
          (try dsimp only at h)
          refine lv_iinc (v := v4 + 1) (lv' := [(4, .int (v4 + 1)), (5, .ref (lay (73 + (Int32.toNatClampNeg v4)))), (0, .ref (lay 0)), (1, .int a1), (2, .int a2), (3, .int v3)]) hC.1 hC.2.1 dX7_ill_81 hl (k := 5) rfl rfl (by decide) rfl (fun ls hl => ?_)
          refine lv_goto (tgt := 32) hC.1 hC.2.1 dX7_ill_84 (by decide) ?_
          exact ih _ _ _ h _ _ _ G (lv_sub hl [2, 3, 4, 5, 0] rfl)
def w_T_X7_ill (post : Int32 → MS → Prop) (pex : String → MS → Prop) (σ : MS) (a1 : Int32) (a2 : Int32) : Prop := w_T_X7_checkPlayer (fun σ1 => w_T_X7_checkDayToCome (fun σ2 => w_X7_stageWithout (fun r4 σ3 => (vp_in a2 366 ∧ (vp_in a2 366 ∧ (∃ k, u_T_X7_ill_32 post pex a1 a2 k (up2 σ3 6 (Int32.toNatClampNeg a2) ((σ3 6 (Int32.toNatClampNeg a2)) ||| (1 <<< (a1 &&& 31)))) r4 0)))) σ2 a1 a2) pex σ1 a2) pex σ a1
set_option maxHeartbeats 4000000 in
set_option maxRecDepth 100000 in
theorem c_T_X7_ill (l : Launch) (hl0 : l.stackTraces = false) (D : va_G) (cy : Nat → ClassId) (lay : Nat → Nat) {σ : MS} {post : Int32 → MS → Prop} {pex : String → MS → Prop} {a1 : Int32} {a2 : Int32} (h : w_T_X7_ill post pex σ a1 a2) (sz : Nat) : vx_Met l yX7_ill wsX7_ill rm_T_X7_ill (va_Pc [.ref (lay 0), .int a1, .int a2] (agI D cy lay σ sz)) (va_Qi post (agO D cy lay) (agA lay sz)) (agXC D cy lay pex sz) 2 12 (agA lay sz) := by
  refine ag_ofX (cc := cX7_ill) (maxL := 6) (ret := some .int) (own := RX7) (Qc := fun sz => va_Qi post (agO D cy lay) (agA lay sz)) (by decide) rfl (Nat.le_of_ble_eq_true rfl) rfl ?_
  intro p e s m args below meth c ls hC hr hlocks htab hT G hl
  unfold w_T_X7_ill at h
  have hl : lv_has ls 6 [(0, .ref (lay 0)), (1, .int a1), (2, .int a2)] := hl
  refine lv_aload_n hC.1 hC.2.1 dX7_ill_0 rfl (lv_at hl 0 rfl) ?_
  refine lv_iload_n hC.1 hC.2.1 dX7_ill_1 rfl (lv_at hl 1 rfl) ?_
  refine ag_vT G htab hlocks (ag_runVT (As := [.int a1]) (rest := []) hC hT G (c_T_X7_checkPlayer l hl0 D cy lay h _) (cwV 1 hC.2.2.2.2 gX7_ill_X7_checkPlayer rfl rfl rfl hdV_X7_checkPlayer ⟨Nat.le_of_ble_eq_true rfl, Nat.le_of_ble_eq_true rfl⟩) (ag_recv hT G (by decide) e_ag k_X7) rfl hl.1 rfl (Nat.le_of_ble_eq_true rfl) dX7_ill_2 ⟨Nat.le_of_ble_eq_true rfl, Nat.le_of_ble_eq_true rfl⟩) (by decide) (by decide) (fun σ1 H locs h G => ?_)
  (try dsimp only at h)
  refine lv_aload_n hC.1 hC.2.1 dX7_ill_5 rfl (lv_at hl 0 rfl) ?_
  refine lv_iload_n hC.1 hC.2.1 dX7_ill_6 rfl (lv_at hl 2 rfl) ?_
  refine ag_vT G htab hlocks (ag_runVT (As := [.int a2]) (rest := []) hC hT G (c_T_X7_checkDayToCome l hl0 D cy lay h _) (cwV 1 hC.2.2.2.2 gX7_ill_X7_checkDayToCome rfl rfl rfl hdV_X7_checkDayToCome ⟨Nat.le_of_ble_eq_true rfl, Nat.le_of_ble_eq_true rfl⟩) (ag_recv hT G (by decide) e_ag k_X7) rfl hl.1 rfl (Nat.le_of_ble_eq_true rfl) dX7_ill_7 ⟨Nat.le_of_ble_eq_true rfl, Nat.le_of_ble_eq_true rfl⟩) (by decide) (by decide) (fun σ2 H locs h G => ?_)
  (try dsimp only at h)
  refine lv_aload_n hC.1 hC.2.1 dX7_ill_10 rfl (lv_at hl 0 rfl) ?_
  refine lv_iload_n hC.1 hC.2.1 dX7_ill_11 rfl (lv_at hl 1 rfl) ?_
  refine lv_iload_n hC.1 hC.2.1 dX7_ill_12 rfl (lv_at hl 2 rfl) ?_
  refine ag_i G (ag_runV (As := [.int a1, .int a2]) (rest := []) hC hT G (c_X7_stageWithout l D cy lay h _) (cwV 2 hC.2.2.2.2 gX7_ill_X7_stageWithout rfl rfl rfl hdV_X7_stageWithout ⟨Nat.le_of_ble_eq_true rfl, Nat.le_of_ble_eq_true rfl⟩) (ag_recv hT G (by decide) e_ag k_X7) rfl hl.1 rfl (Nat.le_of_ble_eq_true rfl) dX7_ill_13 ⟨Nat.le_of_ble_eq_true rfl, Nat.le_of_ble_eq_true rfl⟩) (fun r4 σ3 H locs h G => ?_)
  (try dsimp only at h)
  refine lv_istore_n (lv' := [(3, .int r4), (0, .ref (lay 0)), (1, .int a1), (2, .int a2)]) hC.1 hC.2.1 dX7_ill_16 rfl hl (by decide) rfl (fun ls hl => ?_)
  refine lv_aload_n hC.1 hC.2.1 dX7_ill_17 rfl (lv_at hl 1 rfl) ?_
  refine ag_get hC hT G (by decide) e_ag k_X7 i_T_X7_ill_X7 5 (by decide) (wm 1 rfl) rfl dX7_ill_18 ?_
  refine lv_iload_n hC.1 hC.2.1 dX7_ill_21 rfl (lv_at hl 3 rfl) ?_
  refine lv_dup2_11 hC.1 hC.2.1 dX7_ill_22 rfl rfl ?_
  obtain ⟨hn5, h⟩ := h
  refine ag_iald hC hT G (by decide) e_off hn5 dX7_ill_23 ?_
  refine lv_iconst (v := 1) hC.1 hC.2.1 dX7_ill_24 (by decide) ?_
  refine lv_iload_n hC.1 hC.2.1 dX7_ill_25 rfl (lv_at hl 2 rfl) ?_
  refine lv_ishl hC.1 hC.2.1 dX7_ill_26 ?_
  refine lv_ior hC.1 hC.2.1 dX7_ill_27 ?_
  obtain ⟨hn6, h⟩ := h
  refine ag_iast hC hT G (by decide) (fun _ => e_off) hn6 dX7_ill_28 (fun H locs G => ?_)
  refine lv_iconst (v := 0) hC.1 hC.2.1 dX7_ill_29 (by decide) ?_
  refine lv_istore (lv' := [(4, .int 0), (3, .int r4), (0, .ref (lay 0)), (1, .int a1), (2, .int a2)]) hC.1 hC.2.1 dX7_ill_30 hl (by decide) rfl (fun ls hl => ?_)
  obtain ⟨n1, h⟩ := h
  exact l_T_X7_ill_32 a1 a2 hl0 hC hr hlocks htab hT n1 _ _ _ h _ _ _ G (lv_sub hl [2, 3, 4, 1, 0] rfl)
theorem hdV_X7_ill : yX7_ill.cls = RX7 ∧ yX7_ill.cls ≠ "java/lang/invoke/MethodHandle" ∧ yX7_ill.cls ≠ "java/lang/invoke/VarHandle" ∧ (parseMethodDescriptor yX7_ill.desc).map (fun d => d.parameters.length) = some 2 := by decide +kernel
abbrev rm_T_X7_late : Room := { frames := 7, cells := 2, slots := 12, locals := 103 }
theorem i_T_X7_late_X7 : ∀ w ∈ wsX70, w ∈ wsX7_late := fun _ h => List.mem_cons_of_mem _ (List.mem_append_left _ (List.mem_append_left _ (List.mem_append_left _ (List.mem_append_left _ (List.mem_append_right _ h)))))
theorem i_T_X7_late_X6 : ∀ w ∈ wsX60, w ∈ wsX7_late := fun _ h => List.mem_cons_of_mem _ (List.mem_append_left _ (List.mem_append_left _ (List.mem_append_left _ (List.mem_append_right _ h))))
def u_T_X7_late_16 (post : Int32 → MS → Prop) (pex : String → MS → Prop) (a1 : Int32) (a2 : Int32) (σ : MS) : Prop := pex "java/lang/IllegalArgumentException" σ
set_option maxHeartbeats 4000000 in
set_option maxRecDepth 100000 in
theorem l_T_X7_late_16 {p : Program} {l : Launch} {e : Env} {s : State} {m : MethodId} {args : Array Value} {below : List Frame} {meth : Method} {c : Code} {D : va_G} {cy : Nat → ClassId} {lay : Nat → Nat} {post : Int32 → MS → Prop} {pex : String → MS → Prop} (a1 : Int32) (a2 : Int32) (hl0 : l.stackTraces = false) (hC : CallFix p m c cX7_late 3 s args wsX7_late RX7) (hr : meth.sig.returnType = some .int) (hlocks : meth.locks = false) (htab : ∀ x ∈ c.exceptionTable.toList, False) (hT : agT D cy lay s) : ∀ (σ : MS), u_T_X7_late_16 post pex a1 a2 σ → ∀ (H : Heap) (locs : List Loc) (ls : Array Slot), agG D cy lay σ (agA lay s.heap.size) s.heap H locs → lv_has ls 3 [(0, .ref (lay 0)), (1, .int a1), (2, .int a2)] → W p l e rm_T_X7_late s m args below meth c H locs 1 6 (vx_MQ below (va_Qi post (agO D cy lay) (agA lay s.heap.size)) (agXC D cy lay pex s.heap.size) args s 2 12 (agA lay s.heap.size)) (F0 m 16 ls []) := by
  intro σ h H locs ls G hl
  unfold u_T_X7_late_16 at h
  exact ag_throwW (text := "nothing runs that late") (names := ["java/lang/RuntimeException", "java/lang/Exception"]) hl0 hC hT G htab hlocks hl.1 (by decide) (by decide) (wm 1 rfl) (wm 2 rfl) (List.mem_of_getElem? (i := 24) rfl) (fun _ h => List.mem_cons_of_mem _ (List.mem_append_left _ (List.mem_append_left _ (List.mem_append_right _ h)))) exIAE_all exIAE_good dX7_late_16 dX7_late_19 dX7_late_20 dX7_late_23 dX7_late_26 (by decide) (Nat.le_of_ble_eq_true rfl) (Nat.le_of_ble_eq_true rfl) (Nat.le_of_ble_eq_true rfl) (by decide) (by decide) h
def w_T_X7_late (post : Int32 → MS → Prop) (pex : String → MS → Prop) (σ : MS) (a1 : Int32) (a2 : Int32) : Prop := w_T_X7_checkWedding (fun σ1 => ((a2 < 0 → u_T_X7_late_16 post pex a1 a2 σ1) ∧ (¬ a2 < 0 → ((a2 ≤ 240 → (vp_in a1 14 ∧ (((σ1 (73 + (Int32.toNatClampNeg a1)) 7) = 1 → (vp_in a1 14 ∧ (vp_in a1 14 ∧ w_X6_quarters (fun r9 σ8 => post r9 σ8) (up2 σ1 (73 + (Int32.toNatClampNeg a1)) 10 a2) (Int32.toNatClampNeg a1)))) ∧ (¬ (σ1 (73 + (Int32.toNatClampNeg a1)) 7) = 1 → pex "java/lang/IllegalStateException" σ1)))) ∧ (¬ a2 ≤ 240 → u_T_X7_late_16 post pex a1 a2 σ1))))) pex σ a1
set_option maxHeartbeats 4000000 in
set_option maxRecDepth 100000 in
theorem c_T_X7_late (l : Launch) (hl0 : l.stackTraces = false) (D : va_G) (cy : Nat → ClassId) (lay : Nat → Nat) {σ : MS} {post : Int32 → MS → Prop} {pex : String → MS → Prop} {a1 : Int32} {a2 : Int32} (h : w_T_X7_late post pex σ a1 a2) (sz : Nat) : vx_Met l yX7_late wsX7_late rm_T_X7_late (va_Pc [.ref (lay 0), .int a1, .int a2] (agI D cy lay σ sz)) (va_Qi post (agO D cy lay) (agA lay sz)) (agXC D cy lay pex sz) 2 12 (agA lay sz) := by
  refine ag_ofX (cc := cX7_late) (maxL := 3) (ret := some .int) (own := RX7) (Qc := fun sz => va_Qi post (agO D cy lay) (agA lay sz)) (by decide) rfl (Nat.le_of_ble_eq_true rfl) rfl ?_
  intro p e s m args below meth c ls hC hr hlocks htab hT G hl
  unfold w_T_X7_late at h
  have hl : lv_has ls 3 [(0, .ref (lay 0)), (1, .int a1), (2, .int a2)] := hl
  refine lv_aload_n hC.1 hC.2.1 dX7_late_0 rfl (lv_at hl 0 rfl) ?_
  refine lv_iload_n hC.1 hC.2.1 dX7_late_1 rfl (lv_at hl 1 rfl) ?_
  refine ag_vT G htab hlocks (ag_runVT (As := [.int a1]) (rest := []) hC hT G (c_T_X7_checkWedding l hl0 D cy lay h _) (cwV 1 hC.2.2.2.2 gX7_late_X7_checkWedding rfl rfl rfl hdV_X7_checkWedding ⟨Nat.le_of_ble_eq_true rfl, Nat.le_of_ble_eq_true rfl⟩) (ag_recv hT G (by decide) e_ag k_X7) rfl hl.1 rfl (Nat.le_of_ble_eq_true rfl) dX7_late_2 ⟨Nat.le_of_ble_eq_true rfl, Nat.le_of_ble_eq_true rfl⟩) (by decide) (by decide) (fun σ1 H locs h G => ?_)
  (try dsimp only at h)
  refine lv_iload_n hC.1 hC.2.1 dX7_late_5 rfl (lv_at hl 2 rfl) ?_
  refine lv_if_lt (tgt := 16) hC.1 hC.2.1 dX7_late_6 (by decide) (fun c2 => ?_) (fun c2 => ?_)
  · replace h := h.1 c2
    exact l_T_X7_late_16 a1 a2 hl0 hC hr hlocks htab hT _ h _ _ _ G (lv_sub hl [0, 1, 2] rfl)
  · replace h := h.2 c2
    refine lv_iload_n hC.1 hC.2.1 dX7_late_9 rfl (lv_at hl 2 rfl) ?_
    refine lv_sipush (v := 240) hC.1 hC.2.1 dX7_late_10 (by decide) ?_
    refine lv_icmp_le (tgt := 27) hC.1 hC.2.1 dX7_late_13 (by decide) (fun c3 => ?_) (fun c3 => ?_)
    · replace h := h.1 c3
      refine lv_aload_n hC.1 hC.2.1 dX7_late_27 rfl (lv_at hl 0 rfl) ?_
      refine ag_get hC hT G (by decide) e_ag k_X7 i_T_X7_late_X7 3 (by decide) (wm 5 rfl) rfl dX7_late_28 ?_
      refine lv_iload_n hC.1 hC.2.1 dX7_late_31 rfl (lv_at hl 1 rfl) ?_
      obtain ⟨hn4, h⟩ := h
      refine ag_aald hC hT G (by decide) _ rfl e_wds hn4 dX7_late_32 ?_
      refine ag_get hC hT G (k_wd (vlt hn4)) (e_wd (vlt hn4)) k_X6 i_T_X7_late_X6 7 (by decide) (wm 6 rfl) rfl dX7_late_33 ?_
      refine lv_iconst (v := 1) hC.1 hC.2.1 dX7_late_36 (by decide) ?_
      refine lv_icmp_eq (tgt := 51) hC.1 hC.2.1 dX7_late_37 (by decide) (fun c5 => ?_) (fun c5 => ?_)
      · replace h := h.1 c5
        refine lv_aload_n hC.1 hC.2.1 dX7_late_51 rfl (lv_at hl 0 rfl) ?_
        refine ag_get hC hT G (by decide) e_ag k_X7 i_T_X7_late_X7 3 (by decide) (wm 5 rfl) rfl dX7_late_52 ?_
        refine lv_iload_n hC.1 hC.2.1 dX7_late_55 rfl (lv_at hl 1 rfl) ?_
        obtain ⟨hn6, h⟩ := h
        refine ag_aald hC hT G (by decide) _ rfl e_wds hn6 dX7_late_56 ?_
        refine lv_iload_n hC.1 hC.2.1 dX7_late_57 rfl (lv_at hl 2 rfl) ?_
        refine ag_put hC hT G (k_wd (vlt hn6)) (e_wd (vlt hn6)) k_X6 i_T_X7_late_X6 10 (by decide) (wm 7 rfl) rfl rfl (by simp) (e_wd (vlt hn6)) rfl dX7_late_58 (fun H locs G => ?_)
        refine lv_aload_n hC.1 hC.2.1 dX7_late_61 rfl (lv_at hl 0 rfl) ?_
        refine ag_get hC hT G (by decide) e_ag k_X7 i_T_X7_late_X7 3 (by decide) (wm 5 rfl) rfl dX7_late_62 ?_
        refine lv_iload_n hC.1 hC.2.1 dX7_late_65 rfl (lv_at hl 1 rfl) ?_
        obtain ⟨hn7, h⟩ := h
        refine ag_aald hC hT G (by decide) _ rfl e_wds hn7 dX7_late_66 ?_
        refine ag_i G (ag_runV (As := []) (rest := []) hC hT G (c_X6_quarters l D cy lay h (vlt hn7) _) (cwV 0 hC.2.2.2.2 gX7_late_X6_quarters rfl rfl rfl hdV_X6_quarters ⟨Nat.le_of_ble_eq_true rfl, Nat.le_of_ble_eq_true rfl⟩) (ag_recv hT G (k_wd (vlt hn7)) (e_wd (vlt hn7)) k_X6) rfl hl.1 rfl (Nat.le_of_ble_eq_true rfl) dX7_late_67 ⟨Nat.le_of_ble_eq_true rfl, Nat.le_of_ble_eq_true rfl⟩) (fun r9 σ8 H locs h G => ?_)
        (try dsimp only at h)
        refine W.widen (k := 2) (n := 12) (by decide) (by decide) ?_
        exact vx_ret (ag_iret hC hr hlocks G h dX7_late_70)
      · replace h := h.2 c5
        exact ag_throwW (text := "it is not fixed") (names := ["java/lang/RuntimeException", "java/lang/Exception"]) hl0 hC hT G htab hlocks hl.1 (by decide) (by decide) (wm 3 rfl) (wm 4 rfl) (List.mem_of_getElem? (i := 25) rfl) (fun _ h => List.mem_cons_of_mem _ (List.mem_append_left _ (List.mem_append_right _ h))) exISE_all exISE_good dX7_late_40 dX7_late_43 dX7_late_44 dX7_late_47 dX7_late_50 (by decide) (Nat.le_of_ble_eq_true rfl) (Nat.le_of_ble_eq_true rfl) (Nat.le_of_ble_eq_true rfl) (by decide) (by decide) h
    · replace h := h.2 c3
      exact l_T_X7_late_16 a1 a2 hl0 hC hr hlocks htab hT _ h _ _ _ G (lv_sub hl [0, 1, 2] rfl)
theorem hdV_X7_late : yX7_late.cls = RX7 ∧ yX7_late.cls ≠ "java/lang/invoke/MethodHandle" ∧ yX7_late.cls ≠ "java/lang/invoke/VarHandle" ∧ (parseMethodDescriptor yX7_late.desc).map (fun d => d.parameters.length) = some 2 := by decide +kernel
abbrev rm_T_X7_pass : Room := { frames := 6, cells := 1, slots := 6, locals := 114 }
theorem i_T_X7_pass_X7 : ∀ w ∈ wsX70, w ∈ wsX7_pass := fun _ h => List.mem_cons_of_mem _ (List.mem_append_left _ (List.mem_append_left _ (List.mem_append_left _ (List.mem_append_left _ (List.mem_append_left _ (List.mem_append_left _ (List.mem_append_left _ (List.mem_append_right _ h))))))))
def u_T_X7_pass_11 (post : Int32 → MS → Prop) (pex : String → MS → Prop) (a1 : Int32) (σ : MS) : Prop := pex "java/lang/IllegalArgumentException" σ
set_option maxHeartbeats 4000000 in
set_option maxRecDepth 100000 in
theorem l_T_X7_pass_11 {p : Program} {l : Launch} {e : Env} {s : State} {m : MethodId} {args : Array Value} {below : List Frame} {meth : Method} {c : Code} {D : va_G} {cy : Nat → ClassId} {lay : Nat → Nat} {post : Int32 → MS → Prop} {pex : String → MS → Prop} (a1 : Int32) (hl0 : l.stackTraces = false) (hC : CallFix p m c cX7_pass 3 s args wsX7_pass RX7) (hr : meth.sig.returnType = some .int) (hlocks : meth.locks = false) (htab : ∀ x ∈ c.exceptionTable.toList, False) (hT : agT D cy lay s) : ∀ (σ : MS), u_T_X7_pass_11 post pex a1 σ → ∀ (H : Heap) (locs : List Loc) (ls : Array Slot), agG D cy lay σ (agA lay s.heap.size) s.heap H locs → lv_has ls 3 [(0, .ref (lay 0)), (1, .int a1)] → W p l e rm_T_X7_pass s m args below meth c H locs 0 0 (vx_MQ below (va_Qi post (agO D cy lay) (agA lay s.heap.size)) (agXC D cy lay pex s.heap.size) args s 1 6 (agA lay s.heap.size)) (F0 m 11 ls []) := by
  intro σ h H locs ls G hl
  unfold u_T_X7_pass_11 at h
  exact ag_throwW (text := "not so many days") (names := ["java/lang/RuntimeException", "java/lang/Exception"]) hl0 hC hT G htab hlocks hl.1 (by decide) (by decide) (wm 1 rfl) (wm 2 rfl) (List.mem_of_getElem? (i := 27) rfl) (fun _ h => List.mem_cons_of_mem _ (List.mem_append_left _ (List.mem_append_right _ h))) exIAE_all exIAE_good dX7_pass_11 dX7_pass_14 dX7_pass_15 dX7_pass_18 dX7_pass_21 (by decide) (Nat.le_of_ble_eq_true rfl) (Nat.le_of_ble_eq_true rfl) (Nat.le_of_ble_eq_true rfl) (by decide) (by decide) h
def u_T_X7_pass_47 (post : Int32 → MS → Prop) (pex : String → MS → Prop) (a1 : Int32) : Nat → MS → Int32 → Prop
  | 0, _, _ => False
  | n + 1, σ, v2 => ((a1 ≤ v2 → post (σ 0 9) σ) ∧ (¬ a1 ≤ v2 → w_X7_endToday (fun σ5 => w_X7_loseThoseWhoWaited (fun σ6 => u_T_X7_pass_47 post pex a1 n σ6 (v2 + 1)) (up2 σ5 0 9 ((σ5 0 9) + 1))) σ))
set_option maxHeartbeats 4000000 in
set_option maxRecDepth 100000 in
theorem l_T_X7_pass_47 {p : Program} {l : Launch} {e : Env} {s : State} {m : MethodId} {args : Array Value} {below : List Frame} {meth : Method} {c : Code} {D : va_G} {cy : Nat → ClassId} {lay : Nat → Nat} {post : Int32 → MS → Prop} {pex : String → MS → Prop} (a1 : Int32) (hl0 : l.stackTraces = false) (hC : CallFix p m c cX7_pass 3 s args wsX7_pass RX7) (hr : meth.sig.returnType = some .int) (hlocks : meth.locks = false) (htab : ∀ x ∈ c.exceptionTable.toList, False) (hT : agT D cy lay s) : ∀ (n : Nat), ∀ (σ : MS) (v2 : Int32), u_T_X7_pass_47 post pex a1 n σ v2 → ∀ (H : Heap) (locs : List Loc) (ls : Array Slot), agG D cy lay σ (agA lay s.heap.size) s.heap H locs → lv_has ls 3 [(0, .ref (lay 0)), (1, .int a1), (2, .int v2)] → W p l e rm_T_X7_pass s m args below meth c H locs 0 0 (vx_MQ below (va_Qi post (agO D cy lay) (agA lay s.heap.size)) (agXC D cy lay pex s.heap.size) args s 1 6 (agA lay s.heap.size)) (F0 m 47 ls []) := by
  intro n
  induction n with
  | zero =>
    intro σ v2 h
    exact h.elim
  | succ n ih =>
    intro σ v2 h H locs ls G hl
    rw [u_T_X7_pass_47] at h
    refine lv_iload_n hC.1 hC.2.1 dX7_pass_47 rfl (lv_at hl 2 rfl) ?_
    refine lv_iload_n hC.1 hC.2.1 dX7_pass_48 rfl (lv_at hl 1 rfl) ?_
    refine lv_icmp_ge (tgt := 76) hC.1 hC.2.1 dX7_pass_49 (by decide) (fun c4 => ?_) (fun c4 => ?_)
    · replace h := h.1 c4
      refine lv_aload_n hC.1 hC.2.1 dX7_pass_76 rfl (lv_at hl 0 rfl) ?_
      refine ag_get hC hT G (by decide) e_ag k_X7 i_T_X7_pass_X7 9 (by decide) (wm 5 rfl) rfl dX7_pass_77 ?_
      refine W.widen (k := 1) (n := 6) (by decide) (by decide) ?_
      exact vx_ret (ag_iret hC hr hlocks G h dX7_pass_80)
    · replace h := h.2 c4
      refine lv_aload_n hC.1 hC.2.1 dX7_pass_52 rfl (lv_at hl 0 rfl) ?_
      refine ag_v G (ag_runV (As := []) (rest := []) hC hT G (c_X7_endToday l D cy lay h _) (cwV 0 hC.2.2.2.2 gX7_pass_X7_endToday rfl rfl rfl hdV_X7_endToday ⟨Nat.le_of_ble_eq_true rfl, Nat.le_of_ble_eq_true rfl⟩) (ag_recv hT G (by decide) e_ag k_X7) rfl hl.1 rfl (Nat.le_of_ble_eq_true rfl) dX7_pass_53 ⟨Nat.le_of_ble_eq_true rfl, Nat.le_of_ble_eq_true rfl⟩) (fun σ5 H locs h G => ?_)
      (try dsimp only at h)
      refine lv_aload_n hC.1 hC.2.1 dX7_pass_56 rfl (lv_at hl 0 rfl) ?_
      refine lv_dup hC.1 hC.2.1 dX7_pass_57 rfl ?_
      refine ag_get hC hT G (by decide) e_ag k_X7 i_T_X7_pass_X7 9 (by decide) (wm 5 rfl) rfl dX7_pass_58 ?_
      refine lv_iconst (v := 1) hC.1 hC.2.1 dX7_pass_61 (by decide) ?_
      refine lv_iadd hC.1 hC.2.1 dX7_pass_62 ?_
      refine ag_put hC hT G (by decide) e_ag k_X7 i_T_X7_pass_X7 9 (by decide) (wm 5 rfl) rfl rfl (by simp) e_ag rfl dX7_pass_63 (fun H locs G => ?_)
      refine lv_aload_n hC.1 hC.2.1 dX7_pass_66 rfl (lv_at hl 0 rfl) ?_
      refine ag_v G (ag_runV (As := []) (rest := []) hC hT G (c_X7_loseThoseWhoWaited l D cy lay h _) (cwV 0 hC.2.2.2.2 gX7_pass_X7_loseThoseWhoWaited rfl rfl rfl hdV_X7_loseThoseWhoWaited ⟨Nat.le_of_ble_eq_true rfl, Nat.le_of_ble_eq_true rfl⟩) (ag_recv hT G (by decide) e_ag k_X7) rfl hl.1 rfl (Nat.le_of_ble_eq_true rfl) dX7_pass_67 ⟨Nat.le_of_ble_eq_true rfl, Nat.le_of_ble_eq_true rfl⟩) (fun σ6 H locs h G => ?_)
      (try dsimp only at h)
      refine lv_iinc (v := v2 + 1) (lv' := [(2, .int (v2 + 1)), (0, .ref (lay 0)), (1, .int a1)]) hC.1 hC.2.1 dX7_pass_70 hl (k := 2) rfl rfl (by decide) rfl (fun ls hl => ?_)
      refine lv_goto (tgt := 47) hC.1 hC.2.1 dX7_pass_73 (by decide) ?_
      exact ih _ _ h _ _ _ G (lv_sub hl [1, 2, 0] rfl)
def w_T_X7_pass (post : Int32 → MS → Prop) (pex : String → MS → Prop) (σ : MS) (a1 : Int32) : Prop := ((a1 < 1 → u_T_X7_pass_11 post pex a1 σ) ∧ (¬ a1 < 1 → ((a1 ≤ 60 → ((((σ 0 9) + a1) ≤ 365 → (∃ k, u_T_X7_pass_47 post pex a1 k σ 0)) ∧ (¬ ((σ 0 9) + a1) ≤ 365 → pex "java/lang/IllegalStateException" σ))) ∧ (¬ a1 ≤ 60 → u_T_X7_pass_11 post pex a1 σ))))
set_option maxHeartbeats 4000000 in
set_option maxRecDepth 100000 in
theorem c_T_X7_pass (l : Launch) (hl0 : l.stackTraces = false) (D : va_G) (cy : Nat → ClassId) (lay : Nat → Nat) {σ : MS} {post : Int32 → MS → Prop} {pex : String → MS → Prop} {a1 : Int32} (h : w_T_X7_pass post pex σ a1) (sz : Nat) : vx_Met l yX7_pass wsX7_pass rm_T_X7_pass (va_Pc [.ref (lay 0), .int a1] (agI D cy lay σ sz)) (va_Qi post (agO D cy lay) (agA lay sz)) (agXC D cy lay pex sz) 1 6 (agA lay sz) := by
  refine ag_ofX (cc := cX7_pass) (maxL := 3) (ret := some .int) (own := RX7) (Qc := fun sz => va_Qi post (agO D cy lay) (agA lay sz)) (by decide) rfl (Nat.le_of_ble_eq_true rfl) rfl ?_
  intro p e s m args below meth c ls hC hr hlocks htab hT G hl
  unfold w_T_X7_pass at h
  have hl : lv_has ls 3 [(0, .ref (lay 0)), (1, .int a1)] := hl
  refine lv_iload_n hC.1 hC.2.1 dX7_pass_0 rfl (lv_at hl 1 rfl) ?_
  refine lv_iconst (v := 1) hC.1 hC.2.1 dX7_pass_1 (by decide) ?_
  refine lv_icmp_lt (tgt := 11) hC.1 hC.2.1 dX7_pass_2 (by decide) (fun c1 => ?_) (fun c1 => ?_)
  · replace h := h.1 c1
    exact l_T_X7_pass_11 a1 hl0 hC hr hlocks htab hT _ h _ _ _ G (lv_sub hl [0, 1] rfl)
  · replace h := h.2 c1
    refine lv_iload_n hC.1 hC.2.1 dX7_pass_5 rfl (lv_at hl 1 rfl) ?_
    refine lv_bipush (v := 60) hC.1 hC.2.1 dX7_pass_6 (by decide) ?_
    refine lv_icmp_le (tgt := 22) hC.1 hC.2.1 dX7_pass_8 (by decide) (fun c2 => ?_) (fun c2 => ?_)
    · replace h := h.1 c2
      refine lv_aload_n hC.1 hC.2.1 dX7_pass_22 rfl (lv_at hl 0 rfl) ?_
      refine ag_get hC hT G (by decide) e_ag k_X7 i_T_X7_pass_X7 9 (by decide) (wm 5 rfl) rfl dX7_pass_23 ?_
      refine lv_iload_n hC.1 hC.2.1 dX7_pass_26 rfl (lv_at hl 1 rfl) ?_
      refine lv_iadd hC.1 hC.2.1 dX7_pass_27 ?_
      refine lv_sipush (v := 365) hC.1 hC.2.1 dX7_pass_28 (by decide) ?_
      refine lv_icmp_le (tgt := 45) hC.1 hC.2.1 dX7_pass_31 (by decide) (fun c3 => ?_) (fun c3 => ?_)
      · replace h := h.1 c3
        refine lv_iconst (v := 0) hC.1 hC.2.1 dX7_pass_45 (by decide) ?_
        refine lv_istore_n (lv' := [(2, .int 0), (0, .ref (lay 0)), (1, .int a1)]) hC.1 hC.2.1 dX7_pass_46 rfl hl (by decide) rfl (fun ls hl => ?_)
        obtain ⟨n1, h⟩ := h
        exact l_T_X7_pass_47 a1 hl0 hC hr hlocks htab hT n1 _ _ h _ _ _ G (lv_sub hl [1, 2, 0] rfl)
      · replace h := h.2 c3
        exact ag_throwW (text := "there is no such day") (names := ["java/lang/RuntimeException", "java/lang/Exception"]) hl0 hC hT G htab hlocks hl.1 (by decide) (by decide) (wm 3 rfl) (wm 4 rfl) (List.mem_of_getElem? (i := 28) rfl) (fun _ h => List.mem_cons_of_mem _ (List.mem_append_right _ h)) exISE_all exISE_good dX7_pass_34 dX7_pass_37 dX7_pass_38 dX7_pass_41 dX7_pass_44 (by decide) (Nat.le_of_ble_eq_true rfl) (Nat.le_of_ble_eq_true rfl) (Nat.le_of_ble_eq_true rfl) (by decide) (by decide) h
    · replace h := h.2 c2
      exact l_T_X7_pass_11 a1 hl0 hC hr hlocks htab hT _ h _ _ _ G (lv_sub hl [0, 1] rfl)
theorem hdV_X7_pass : yX7_pass.cls = RX7 ∧ yX7_pass.cls ≠ "java/lang/invoke/MethodHandle" ∧ yX7_pass.cls ≠ "java/lang/invoke/VarHandle" ∧ (parseMethodDescriptor yX7_pass.desc).map (fun d => d.parameters.length) = some 1 := by decide +kernel
