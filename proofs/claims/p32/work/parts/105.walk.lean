abbrev rm_N_X7_ofBand : Room := { frames := 1, cells := 0, slots := 0, locals := 24 }
theorem i_N_X7_ofBand_X7 : ∀ w ∈ wsX70, w ∈ wsX7_ofBand := fun _ h => List.mem_cons_of_mem _ (List.mem_append_left _ (List.mem_append_left _ (List.mem_append_left _ (List.mem_append_left _ (List.mem_append_right _ h)))))
theorem i_N_X7_ofBand_X0 : ∀ w ∈ wsX00, w ∈ wsX7_ofBand := fun _ h => List.mem_cons_of_mem _ (List.mem_append_left _ (List.mem_append_left _ (List.mem_append_left _ (List.mem_append_right _ h))))
def u_N_X7_ofBand_15 (post : Int32 → MS → Prop) (a1 : Int32) (a2 : Int32) (σ : MS) : Prop := False
set_option maxHeartbeats 4000000 in
set_option maxRecDepth 100000 in
theorem l_N_X7_ofBand_15 {p : Program} {l : Launch} {e : Env} {s : State} {m : MethodId} {args : Array Value} {below : List Frame} {meth : Method} {c : Code} {D : va_G} {cy : Nat → ClassId} {lay : Nat → Nat} {post : Int32 → MS → Prop} (a1 : Int32) (a2 : Int32) (hC : CallFix p m c cX7_ofBand 3 s args wsX7_ofBand RX7) (hr : meth.sig.returnType = some .int) (hlocks : meth.locks = false) (hT : agT D cy lay s) : ∀ (σ : MS), u_N_X7_ofBand_15 post a1 a2 σ → ∀ (H : Heap) (locs : List Loc) (ls : Array Slot), agG D cy lay σ (agA lay s.heap.size) s.heap H locs → lv_has ls 3 [(0, .ref (lay 0)), (1, .int a1), (2, .int a2)] → W p l e rm_N_X7_ofBand s m args below meth c H locs 0 0 (MQ below (va_Qi post (agO D cy lay) (agA lay s.heap.size)) args s 0 0 (agA lay s.heap.size)) (F0 m 15 ls []) := by
  intro σ h H locs ls G hl
  unfold u_N_X7_ofBand_15 at h
  exact h.elim
def w_N_X7_ofBand (post : Int32 → MS → Prop) (σ : MS) (a1 : Int32) (a2 : Int32) : Prop := w_N_X7_checkBand (fun σ1 => ((a2 < 0 → u_N_X7_ofBand_15 post a1 a2 σ1) ∧ (¬ a2 < 0 → ((a2 ≤ 8 → ((6 ≤ a2 → ((a2 = 6 → (vp_in a1 6 ∧ post (σ1 (55 + (Int32.toNatClampNeg a1)) 2) σ1)) ∧ (¬ a2 = 6 → ((a2 = 8 → w_X7_countOfBand (fun r10 σ9 => post r10 σ9) σ1 a1 1) ∧ (¬ a2 = 8 → w_X7_countOfBand (fun r8 σ7 => post r8 σ7) σ1 a1 0))))) ∧ (¬ 6 ≤ a2 → (vp_in a1 6 ∧ (vp_in a2 6 ∧ post (σ1 (61 + (Int32.toNatClampNeg a1)) (Int32.toNatClampNeg a2)) σ1))))) ∧ (¬ a2 ≤ 8 → u_N_X7_ofBand_15 post a1 a2 σ1))))) σ a1
set_option maxHeartbeats 4000000 in
set_option maxRecDepth 100000 in
theorem c_N_X7_ofBand (l : Launch) (D : va_G) (cy : Nat → ClassId) (lay : Nat → Nat) {σ : MS} {post : Int32 → MS → Prop} {a1 : Int32} {a2 : Int32} (h : w_N_X7_ofBand post σ a1 a2) (sz : Nat) : Met l yX7_ofBand wsX7_ofBand rm_N_X7_ofBand (va_Pc [.ref (lay 0), .int a1, .int a2] (agI D cy lay σ sz)) (va_Qi post (agO D cy lay) (agA lay sz)) 0 0 (agA lay sz) := by
  refine ag_ofW (cc := cX7_ofBand) (maxL := 3) (ret := some .int) (own := RX7) (Qc := fun sz => va_Qi post (agO D cy lay) (agA lay sz)) (by decide) rfl (Nat.le_of_ble_eq_true rfl) rfl ?_
  intro p e s m args below meth c ls hC hr hlocks hT G hl
  unfold w_N_X7_ofBand at h
  have hl : lv_has ls 3 [(0, .ref (lay 0)), (1, .int a1), (2, .int a2)] := hl
  refine lv_aload_n hC.1 hC.2.1 dX7_ofBand_0 rfl (lv_at hl 0 rfl) ?_
  refine lv_iload_n hC.1 hC.2.1 dX7_ofBand_1 rfl (lv_at hl 1 rfl) ?_
  refine ag_v G (ag_runV (As := [.int a1]) (rest := []) hC hT G (c_N_X7_checkBand l D cy lay h _) (cwV 1 hC.2.2.2.2 gX7_ofBand_X7_checkBand rfl rfl rfl hdV_X7_checkBand ⟨Nat.le_of_ble_eq_true rfl, Nat.le_of_ble_eq_true rfl⟩) (ag_recv hT G (by decide) e_ag k_X7) rfl hl.1 rfl (Nat.le_of_ble_eq_true rfl) dX7_ofBand_2 ⟨Nat.le_of_ble_eq_true rfl, Nat.le_of_ble_eq_true rfl⟩) (fun σ1 H locs h G => ?_)
  (try dsimp only at h)
  refine lv_iload_n hC.1 hC.2.1 dX7_ofBand_5 rfl (lv_at hl 2 rfl) ?_
  refine lv_if_lt (tgt := 15) hC.1 hC.2.1 dX7_ofBand_6 (by decide) (fun c2 => ?_) (fun c2 => ?_)
  · replace h := h.1 c2
    exact l_N_X7_ofBand_15 a1 a2 hC hr hlocks hT _ h _ _ _ G (lv_sub hl [0, 1, 2] rfl)
  · replace h := h.2 c2
    refine lv_iload_n hC.1 hC.2.1 dX7_ofBand_9 rfl (lv_at hl 2 rfl) ?_
    refine lv_bipush (v := 8) hC.1 hC.2.1 dX7_ofBand_10 (by decide) ?_
    refine lv_icmp_le (tgt := 26) hC.1 hC.2.1 dX7_ofBand_12 (by decide) (fun c3 => ?_) (fun c3 => ?_)
    · replace h := h.1 c3
      refine lv_iload_n hC.1 hC.2.1 dX7_ofBand_26 rfl (lv_at hl 2 rfl) ?_
      refine lv_bipush (v := 6) hC.1 hC.2.1 dX7_ofBand_27 (by decide) ?_
      refine lv_icmp_ge (tgt := 44) hC.1 hC.2.1 dX7_ofBand_29 (by decide) (fun c4 => ?_) (fun c4 => ?_)
      · replace h := h.1 c4
        refine lv_iload_n hC.1 hC.2.1 dX7_ofBand_44 rfl (lv_at hl 2 rfl) ?_
        refine lv_bipush (v := 6) hC.1 hC.2.1 dX7_ofBand_45 (by decide) ?_
        refine lv_icmp_ne (tgt := 60) hC.1 hC.2.1 dX7_ofBand_47 (by decide) (fun c5 => ?_) (fun c5 => ?_)
        · replace h := h.2 c5
          refine lv_aload_n hC.1 hC.2.1 dX7_ofBand_60 rfl (lv_at hl 0 rfl) ?_
          refine lv_iload_n hC.1 hC.2.1 dX7_ofBand_61 rfl (lv_at hl 1 rfl) ?_
          refine lv_iload_n hC.1 hC.2.1 dX7_ofBand_62 rfl (lv_at hl 2 rfl) ?_
          refine lv_bipush (v := 8) hC.1 hC.2.1 dX7_ofBand_63 (by decide) ?_
          refine lv_icmp_ne (tgt := 72) hC.1 hC.2.1 dX7_ofBand_65 (by decide) (fun c6 => ?_) (fun c6 => ?_)
          · replace h := h.2 c6
            refine lv_iconst (v := 0) hC.1 hC.2.1 dX7_ofBand_72 (by decide) ?_
            refine ag_i G (ag_runV (As := [.int a1, .int 0]) (rest := []) hC hT G (c_X7_countOfBand l D cy lay h _) (cwV 2 hC.2.2.2.2 gX7_ofBand_X7_countOfBand rfl rfl rfl hdV_X7_countOfBand ⟨Nat.le_of_ble_eq_true rfl, Nat.le_of_ble_eq_true rfl⟩) (ag_recv hT G (by decide) e_ag k_X7) rfl hl.1 rfl (Nat.le_of_ble_eq_true rfl) dX7_ofBand_73 ⟨Nat.le_of_ble_eq_true rfl, Nat.le_of_ble_eq_true rfl⟩) (fun r8 σ7 H locs h G => ?_)
            (try dsimp only at h)
            exact ag_iret hC hr hlocks G h dX7_ofBand_76
          · replace h := h.1 c6
            refine lv_iconst (v := 1) hC.1 hC.2.1 dX7_ofBand_68 (by decide) ?_
            refine lv_goto (tgt := 73) hC.1 hC.2.1 dX7_ofBand_69 (by decide) ?_
            refine ag_i G (ag_runV (As := [.int a1, .int 1]) (rest := []) hC hT G (c_X7_countOfBand l D cy lay h _) (cwV 2 hC.2.2.2.2 gX7_ofBand_X7_countOfBand rfl rfl rfl hdV_X7_countOfBand ⟨Nat.le_of_ble_eq_true rfl, Nat.le_of_ble_eq_true rfl⟩) (ag_recv hT G (by decide) e_ag k_X7) rfl hl.1 rfl (Nat.le_of_ble_eq_true rfl) dX7_ofBand_73 ⟨Nat.le_of_ble_eq_true rfl, Nat.le_of_ble_eq_true rfl⟩) (fun r10 σ9 H locs h G => ?_)
            (try dsimp only at h)
            exact ag_iret hC hr hlocks G h dX7_ofBand_76
        · replace h := h.1 c5
          refine lv_aload_n hC.1 hC.2.1 dX7_ofBand_50 rfl (lv_at hl 0 rfl) ?_
          refine ag_get hC hT G (by decide) e_ag k_X7 i_N_X7_ofBand_X7 2 (by decide) (wm 3 rfl) rfl dX7_ofBand_51 ?_
          refine lv_iload_n hC.1 hC.2.1 dX7_ofBand_54 rfl (lv_at hl 1 rfl) ?_
          obtain ⟨hn11, h⟩ := h
          refine ag_aald hC hT G (by decide) _ rfl e_bds hn11 dX7_ofBand_55 ?_
          refine ag_get hC hT G (k_bd (vlt hn11)) (e_bd (vlt hn11)) k_X0 i_N_X7_ofBand_X0 2 (by decide) (wm 5 rfl) rfl dX7_ofBand_56 ?_
          exact ag_iret hC hr hlocks G h dX7_ofBand_59
      · replace h := h.2 c4
        refine lv_aload_n hC.1 hC.2.1 dX7_ofBand_32 rfl (lv_at hl 0 rfl) ?_
        refine ag_get hC hT G (by decide) e_ag k_X7 i_N_X7_ofBand_X7 2 (by decide) (wm 3 rfl) rfl dX7_ofBand_33 ?_
        refine lv_iload_n hC.1 hC.2.1 dX7_ofBand_36 rfl (lv_at hl 1 rfl) ?_
        obtain ⟨hn12, h⟩ := h
        refine ag_aald hC hT G (by decide) _ rfl e_bds hn12 dX7_ofBand_37 ?_
        refine ag_get hC hT G (k_bd (vlt hn12)) (e_bd (vlt hn12)) k_X0 i_N_X7_ofBand_X0 0 (by decide) (wm 4 rfl) rfl dX7_ofBand_38 ?_
        refine lv_iload_n hC.1 hC.2.1 dX7_ofBand_41 rfl (lv_at hl 2 rfl) ?_
        obtain ⟨hn13, h⟩ := h
        refine ag_iald hC hT G (k_nds (vlt hn12)) (e_nds (vlt hn12)) hn13 dX7_ofBand_42 ?_
        exact ag_iret hC hr hlocks G h dX7_ofBand_43
    · replace h := h.2 c3
      exact l_N_X7_ofBand_15 a1 a2 hC hr hlocks hT _ h _ _ _ G (lv_sub hl [0, 1, 2] rfl)
theorem hdV_X7_ofBand : yX7_ofBand.cls = RX7 ∧ yX7_ofBand.cls ≠ "java/lang/invoke/MethodHandle" ∧ yX7_ofBand.cls ≠ "java/lang/invoke/VarHandle" ∧ (parseMethodDescriptor yX7_ofBand.desc).map (fun d => d.parameters.length) = some 2 := by decide +kernel
abbrev rm_N_X7_ofWedding : Room := { frames := 2, cells := 0, slots := 0, locals := 47 }
theorem i_N_X7_ofWedding_X7 : ∀ w ∈ wsX70, w ∈ wsX7_ofWedding := fun _ h => List.mem_cons_of_mem _ (List.mem_append_left _ (List.mem_append_left _ (List.mem_append_left _ (List.mem_append_right _ h))))
theorem i_N_X7_ofWedding_X6 : ∀ w ∈ wsX60, w ∈ wsX7_ofWedding := fun _ h => List.mem_cons_of_mem _ (List.mem_append_left _ (List.mem_append_left _ (List.mem_append_right _ h)))
def w_N_X7_ofWedding (post : Int32 → MS → Prop) (σ : MS) (a1 : Int32) (a2 : Int32) : Prop := w_N_X7_checkWedding (fun σ1 => (vp_in a1 14 ∧ ((a2 = 0 → post (σ1 (73 + (Int32.toNatClampNeg a1)) 0) σ1) ∧ (¬ a2 = 0 → ((a2 = 1 → post (σ1 (73 + (Int32.toNatClampNeg a1)) 1) σ1) ∧ (¬ a2 = 1 → ((a2 = 2 → post (σ1 (73 + (Int32.toNatClampNeg a1)) 2) σ1) ∧ (¬ a2 = 2 → ((a2 = 3 → post (σ1 (73 + (Int32.toNatClampNeg a1)) 3) σ1) ∧ (¬ a2 = 3 → ((a2 = 4 → post (σ1 (73 + (Int32.toNatClampNeg a1)) 4) σ1) ∧ (¬ a2 = 4 → ((a2 = 5 → post (σ1 (73 + (Int32.toNatClampNeg a1)) 5) σ1) ∧ (¬ a2 = 5 → ((a2 = 6 → post (σ1 (73 + (Int32.toNatClampNeg a1)) 7) σ1) ∧ (¬ a2 = 6 → ((a2 = 7 → post (σ1 (73 + (Int32.toNatClampNeg a1)) 8) σ1) ∧ (¬ a2 = 7 → ((a2 = 8 → post (σ1 (73 + (Int32.toNatClampNeg a1)) 9) σ1) ∧ (¬ a2 = 8 → ((a2 = 9 → post (σ1 (73 + (Int32.toNatClampNeg a1)) 10) σ1) ∧ (¬ a2 = 9 → ((a2 = 10 → post (σ1 (73 + (Int32.toNatClampNeg a1)) 11) σ1) ∧ (¬ a2 = 10 → ((a2 = 11 → w_X7_placeInQueue (fun r15 σ14 => post r15 σ14) σ1 a1) ∧ (¬ a2 = 11 → ((a2 = 12 → w_X6_quarters (fun r18 σ17 => post r18 σ17) σ1 (Int32.toNatClampNeg a1)) ∧ (¬ a2 = 12 → False)))))))))))))))))))))))))))) σ a1
set_option maxHeartbeats 4000000 in
set_option maxRecDepth 100000 in
theorem c_N_X7_ofWedding (l : Launch) (D : va_G) (cy : Nat → ClassId) (lay : Nat → Nat) {σ : MS} {post : Int32 → MS → Prop} {a1 : Int32} {a2 : Int32} (h : w_N_X7_ofWedding post σ a1 a2) (sz : Nat) : Met l yX7_ofWedding wsX7_ofWedding rm_N_X7_ofWedding (va_Pc [.ref (lay 0), .int a1, .int a2] (agI D cy lay σ sz)) (va_Qi post (agO D cy lay) (agA lay sz)) 0 0 (agA lay sz) := by
  refine ag_ofW (cc := cX7_ofWedding) (maxL := 4) (ret := some .int) (own := RX7) (Qc := fun sz => va_Qi post (agO D cy lay) (agA lay sz)) (by decide) rfl (Nat.le_of_ble_eq_true rfl) rfl ?_
  intro p e s m args below meth c ls hC hr hlocks hT G hl
  unfold w_N_X7_ofWedding at h
  have hl : lv_has ls 4 [(0, .ref (lay 0)), (1, .int a1), (2, .int a2)] := hl
  refine lv_aload_n hC.1 hC.2.1 dX7_ofWedding_0 rfl (lv_at hl 0 rfl) ?_
  refine lv_iload_n hC.1 hC.2.1 dX7_ofWedding_1 rfl (lv_at hl 1 rfl) ?_
  refine ag_v G (ag_runV (As := [.int a1]) (rest := []) hC hT G (c_N_X7_checkWedding l D cy lay h _) (cwV 1 hC.2.2.2.2 gX7_ofWedding_X7_checkWedding rfl rfl rfl hdV_X7_checkWedding ⟨Nat.le_of_ble_eq_true rfl, Nat.le_of_ble_eq_true rfl⟩) (ag_recv hT G (by decide) e_ag k_X7) rfl hl.1 rfl (Nat.le_of_ble_eq_true rfl) dX7_ofWedding_2 ⟨Nat.le_of_ble_eq_true rfl, Nat.le_of_ble_eq_true rfl⟩) (fun σ1 H locs h G => ?_)
  (try dsimp only at h)
  refine lv_aload_n hC.1 hC.2.1 dX7_ofWedding_5 rfl (lv_at hl 0 rfl) ?_
  refine ag_get hC hT G (by decide) e_ag k_X7 i_N_X7_ofWedding_X7 3 (by decide) (wm 3 rfl) rfl dX7_ofWedding_6 ?_
  refine lv_iload_n hC.1 hC.2.1 dX7_ofWedding_9 rfl (lv_at hl 1 rfl) ?_
  obtain ⟨hn2, h⟩ := h
  refine ag_aald hC hT G (by decide) _ rfl e_wds hn2 dX7_ofWedding_10 ?_
  refine lv_astore_n (lv' := [(3, .ref (lay (73 + (Int32.toNatClampNeg a1)))), (0, .ref (lay 0)), (1, .int a1), (2, .int a2)]) hC.1 hC.2.1 dX7_ofWedding_11 rfl hl (by decide) rfl (fun ls hl => ?_)
  refine lv_iload_n hC.1 hC.2.1 dX7_ofWedding_12 rfl (lv_at hl 3 rfl) ?_
  rcases Decidable.em (a2 = 0) with c3 | c3
  · replace h := h.1 c3
    refine lv_tableIn (off := 67) (tgt := 80) hC.1 hC.2.1 dX7_ofWedding_13 (by rw [c3]; decide) (by rw [c3]; decide) (by rw [c3]; rfl) (by decide) ?_
    refine lv_aload_n hC.1 hC.2.1 dX7_ofWedding_80 rfl (lv_at hl 0 rfl) ?_
    refine ag_get hC hT G (k_wd (vlt hn2)) (e_wd (vlt hn2)) k_X6 i_N_X7_ofWedding_X6 0 (by decide) (wm 4 rfl) rfl dX7_ofWedding_81 ?_
    exact ag_iret hC hr hlocks G h dX7_ofWedding_84
  · replace h := h.2 c3
    rcases Decidable.em (a2 = 1) with c4 | c4
    · replace h := h.1 c4
      refine lv_tableIn (off := 72) (tgt := 85) hC.1 hC.2.1 dX7_ofWedding_13 (by rw [c4]; decide) (by rw [c4]; decide) (by rw [c4]; rfl) (by decide) ?_
      refine lv_aload_n hC.1 hC.2.1 dX7_ofWedding_85 rfl (lv_at hl 0 rfl) ?_
      refine ag_get hC hT G (k_wd (vlt hn2)) (e_wd (vlt hn2)) k_X6 i_N_X7_ofWedding_X6 1 (by decide) (wm 5 rfl) rfl dX7_ofWedding_86 ?_
      exact ag_iret hC hr hlocks G h dX7_ofWedding_89
    · replace h := h.2 c4
      rcases Decidable.em (a2 = 2) with c5 | c5
      · replace h := h.1 c5
        refine lv_tableIn (off := 77) (tgt := 90) hC.1 hC.2.1 dX7_ofWedding_13 (by rw [c5]; decide) (by rw [c5]; decide) (by rw [c5]; rfl) (by decide) ?_
        refine lv_aload_n hC.1 hC.2.1 dX7_ofWedding_90 rfl (lv_at hl 0 rfl) ?_
        refine ag_get hC hT G (k_wd (vlt hn2)) (e_wd (vlt hn2)) k_X6 i_N_X7_ofWedding_X6 2 (by decide) (wm 6 rfl) rfl dX7_ofWedding_91 ?_
        exact ag_iret hC hr hlocks G h dX7_ofWedding_94
      · replace h := h.2 c5
        rcases Decidable.em (a2 = 3) with c6 | c6
        · replace h := h.1 c6
          refine lv_tableIn (off := 82) (tgt := 95) hC.1 hC.2.1 dX7_ofWedding_13 (by rw [c6]; decide) (by rw [c6]; decide) (by rw [c6]; rfl) (by decide) ?_
          refine lv_aload_n hC.1 hC.2.1 dX7_ofWedding_95 rfl (lv_at hl 0 rfl) ?_
          refine ag_get hC hT G (k_wd (vlt hn2)) (e_wd (vlt hn2)) k_X6 i_N_X7_ofWedding_X6 3 (by decide) (wm 7 rfl) rfl dX7_ofWedding_96 ?_
          exact ag_iret hC hr hlocks G h dX7_ofWedding_99
        · replace h := h.2 c6
          rcases Decidable.em (a2 = 4) with c7 | c7
          · replace h := h.1 c7
            refine lv_tableIn (off := 87) (tgt := 100) hC.1 hC.2.1 dX7_ofWedding_13 (by rw [c7]; decide) (by rw [c7]; decide) (by rw [c7]; rfl) (by decide) ?_
            refine lv_aload_n hC.1 hC.2.1 dX7_ofWedding_100 rfl (lv_at hl 0 rfl) ?_
            refine ag_get hC hT G (k_wd (vlt hn2)) (e_wd (vlt hn2)) k_X6 i_N_X7_ofWedding_X6 4 (by decide) (wm 8 rfl) rfl dX7_ofWedding_101 ?_
            exact ag_iret hC hr hlocks G h dX7_ofWedding_104
          · replace h := h.2 c7
            rcases Decidable.em (a2 = 5) with c8 | c8
            · replace h := h.1 c8
              refine lv_tableIn (off := 92) (tgt := 105) hC.1 hC.2.1 dX7_ofWedding_13 (by rw [c8]; decide) (by rw [c8]; decide) (by rw [c8]; rfl) (by decide) ?_
              refine lv_aload_n hC.1 hC.2.1 dX7_ofWedding_105 rfl (lv_at hl 0 rfl) ?_
              refine ag_get hC hT G (k_wd (vlt hn2)) (e_wd (vlt hn2)) k_X6 i_N_X7_ofWedding_X6 5 (by decide) (wm 9 rfl) rfl dX7_ofWedding_106 ?_
              exact ag_iret hC hr hlocks G h dX7_ofWedding_109
            · replace h := h.2 c8
              rcases Decidable.em (a2 = 6) with c9 | c9
              · replace h := h.1 c9
                refine lv_tableIn (off := 97) (tgt := 110) hC.1 hC.2.1 dX7_ofWedding_13 (by rw [c9]; decide) (by rw [c9]; decide) (by rw [c9]; rfl) (by decide) ?_
                refine lv_aload_n hC.1 hC.2.1 dX7_ofWedding_110 rfl (lv_at hl 0 rfl) ?_
                refine ag_get hC hT G (k_wd (vlt hn2)) (e_wd (vlt hn2)) k_X6 i_N_X7_ofWedding_X6 7 (by decide) (wm 10 rfl) rfl dX7_ofWedding_111 ?_
                exact ag_iret hC hr hlocks G h dX7_ofWedding_114
              · replace h := h.2 c9
                rcases Decidable.em (a2 = 7) with c10 | c10
                · replace h := h.1 c10
                  refine lv_tableIn (off := 102) (tgt := 115) hC.1 hC.2.1 dX7_ofWedding_13 (by rw [c10]; decide) (by rw [c10]; decide) (by rw [c10]; rfl) (by decide) ?_
                  refine lv_aload_n hC.1 hC.2.1 dX7_ofWedding_115 rfl (lv_at hl 0 rfl) ?_
                  refine ag_get hC hT G (k_wd (vlt hn2)) (e_wd (vlt hn2)) k_X6 i_N_X7_ofWedding_X6 8 (by decide) (wm 11 rfl) rfl dX7_ofWedding_116 ?_
                  exact ag_iret hC hr hlocks G h dX7_ofWedding_119
                · replace h := h.2 c10
                  rcases Decidable.em (a2 = 8) with c11 | c11
                  · replace h := h.1 c11
                    refine lv_tableIn (off := 107) (tgt := 120) hC.1 hC.2.1 dX7_ofWedding_13 (by rw [c11]; decide) (by rw [c11]; decide) (by rw [c11]; rfl) (by decide) ?_
                    refine lv_aload_n hC.1 hC.2.1 dX7_ofWedding_120 rfl (lv_at hl 0 rfl) ?_
                    refine ag_get hC hT G (k_wd (vlt hn2)) (e_wd (vlt hn2)) k_X6 i_N_X7_ofWedding_X6 9 (by decide) (wm 12 rfl) rfl dX7_ofWedding_121 ?_
                    exact ag_iret hC hr hlocks G h dX7_ofWedding_124
                  · replace h := h.2 c11
                    rcases Decidable.em (a2 = 9) with c12 | c12
                    · replace h := h.1 c12
                      refine lv_tableIn (off := 112) (tgt := 125) hC.1 hC.2.1 dX7_ofWedding_13 (by rw [c12]; decide) (by rw [c12]; decide) (by rw [c12]; rfl) (by decide) ?_
                      refine lv_aload_n hC.1 hC.2.1 dX7_ofWedding_125 rfl (lv_at hl 0 rfl) ?_
                      refine ag_get hC hT G (k_wd (vlt hn2)) (e_wd (vlt hn2)) k_X6 i_N_X7_ofWedding_X6 10 (by decide) (wm 13 rfl) rfl dX7_ofWedding_126 ?_
                      exact ag_iret hC hr hlocks G h dX7_ofWedding_129
                    · replace h := h.2 c12
                      rcases Decidable.em (a2 = 10) with c13 | c13
                      · replace h := h.1 c13
                        refine lv_tableIn (off := 117) (tgt := 130) hC.1 hC.2.1 dX7_ofWedding_13 (by rw [c13]; decide) (by rw [c13]; decide) (by rw [c13]; rfl) (by decide) ?_
                        refine lv_aload_n hC.1 hC.2.1 dX7_ofWedding_130 rfl (lv_at hl 0 rfl) ?_
                        refine ag_get hC hT G (k_wd (vlt hn2)) (e_wd (vlt hn2)) k_X6 i_N_X7_ofWedding_X6 11 (by decide) (wm 14 rfl) rfl dX7_ofWedding_131 ?_
                        exact ag_iret hC hr hlocks G h dX7_ofWedding_134
                      · replace h := h.2 c13
                        rcases Decidable.em (a2 = 11) with c16 | c16
                        · replace h := h.1 c16
                          refine lv_tableIn (off := 122) (tgt := 135) hC.1 hC.2.1 dX7_ofWedding_13 (by rw [c16]; decide) (by rw [c16]; decide) (by rw [c16]; rfl) (by decide) ?_
                          refine lv_aload_n hC.1 hC.2.1 dX7_ofWedding_135 rfl (lv_at hl 1 rfl) ?_
                          refine lv_iload_n hC.1 hC.2.1 dX7_ofWedding_136 rfl (lv_at hl 2 rfl) ?_
                          refine ag_i G (ag_runV (As := [.int a1]) (rest := []) hC hT G (c_X7_placeInQueue l D cy lay h _) (cwV 1 hC.2.2.2.2 gX7_ofWedding_X7_placeInQueue rfl rfl rfl hdV_X7_placeInQueue ⟨Nat.le_of_ble_eq_true rfl, Nat.le_of_ble_eq_true rfl⟩) (ag_recv hT G (by decide) e_ag k_X7) rfl hl.1 rfl (Nat.le_of_ble_eq_true rfl) dX7_ofWedding_137 ⟨Nat.le_of_ble_eq_true rfl, Nat.le_of_ble_eq_true rfl⟩) (fun r15 σ14 H locs h G => ?_)
                          (try dsimp only at h)
                          exact ag_iret hC hr hlocks G h dX7_ofWedding_140
                        · replace h := h.2 c16
                          rcases Decidable.em (a2 = 12) with c19 | c19
                          · replace h := h.1 c19
                            refine lv_tableIn (off := 128) (tgt := 141) hC.1 hC.2.1 dX7_ofWedding_13 (by rw [c19]; decide) (by rw [c19]; decide) (by rw [c19]; rfl) (by decide) ?_
                            refine lv_aload_n hC.1 hC.2.1 dX7_ofWedding_141 rfl (lv_at hl 0 rfl) ?_
                            refine ag_i G (ag_runV (As := []) (rest := []) hC hT G (c_X6_quarters l D cy lay h (vlt hn2) _) (cwV 0 hC.2.2.2.2 gX7_ofWedding_X6_quarters rfl rfl rfl hdV_X6_quarters ⟨Nat.le_of_ble_eq_true rfl, Nat.le_of_ble_eq_true rfl⟩) (ag_recv hT G (k_wd (vlt hn2)) (e_wd (vlt hn2)) k_X6) rfl hl.1 rfl (Nat.le_of_ble_eq_true rfl) dX7_ofWedding_142 ⟨Nat.le_of_ble_eq_true rfl, Nat.le_of_ble_eq_true rfl⟩) (fun r18 σ17 H locs h G => ?_)
                            (try dsimp only at h)
                            exact ag_iret hC hr hlocks G h dX7_ofWedding_145
                          · replace h := h.2 c19
                            refine lv_tableOut (tgt := 146) hC.1 hC.2.1 dX7_ofWedding_13 (tsw_out 13 rfl (by decide) (fun k hk => by rcases (show k = 0 ∨ k = 1 ∨ k = 2 ∨ k = 3 ∨ k = 4 ∨ k = 5 ∨ k = 6 ∨ k = 7 ∨ k = 8 ∨ k = 9 ∨ k = 10 ∨ k = 11 ∨ k = 12 by omega) with rfl | rfl | rfl | rfl | rfl | rfl | rfl | rfl | rfl | rfl | rfl | rfl | rfl <;> assumption)) (by decide) ?_
                            exact h.elim
theorem hdV_X7_ofWedding : yX7_ofWedding.cls = RX7 ∧ yX7_ofWedding.cls ≠ "java/lang/invoke/MethodHandle" ∧ yX7_ofWedding.cls ≠ "java/lang/invoke/VarHandle" ∧ (parseMethodDescriptor yX7_ofWedding.desc).map (fun d => d.parameters.length) = some 2 := by decide +kernel
abbrev rm_N_X7_set : Room := { frames := 3, cells := 0, slots := 0, locals := 70 }
theorem i_N_X7_set_X7 : ∀ w ∈ wsX70, w ∈ wsX7_set := fun _ h => List.mem_cons_of_mem _ (List.mem_append_left _ (List.mem_append_left _ (List.mem_append_left _ (List.mem_append_left _ (List.mem_append_right _ h)))))
theorem i_N_X7_set_X1 : ∀ w ∈ wsX10, w ∈ wsX7_set := fun _ h => List.mem_cons_of_mem _ (List.mem_append_left _ (List.mem_append_left _ (List.mem_append_left _ (List.mem_append_right _ h))))
def u_N_X7_set_14 (post : Int32 → MS → Prop) (a1 : Int32) (a2 : Int32) (σ : MS) : Prop := False
set_option maxHeartbeats 4000000 in
set_option maxRecDepth 100000 in
theorem l_N_X7_set_14 {p : Program} {l : Launch} {e : Env} {s : State} {m : MethodId} {args : Array Value} {below : List Frame} {meth : Method} {c : Code} {D : va_G} {cy : Nat → ClassId} {lay : Nat → Nat} {post : Int32 → MS → Prop} (a1 : Int32) (a2 : Int32) (hC : CallFix p m c cX7_set 3 s args wsX7_set RX7) (hr : meth.sig.returnType = some .int) (hlocks : meth.locks = false) (hT : agT D cy lay s) : ∀ (σ : MS), u_N_X7_set_14 post a1 a2 σ → ∀ (H : Heap) (locs : List Loc) (ls : Array Slot), agG D cy lay σ (agA lay s.heap.size) s.heap H locs → lv_has ls 3 [(0, .ref (lay 0)), (1, .int a1), (2, .int a2)] → W p l e rm_N_X7_set s m args below meth c H locs 0 0 (MQ below (va_Qi post (agO D cy lay) (agA lay s.heap.size)) args s 0 0 (agA lay s.heap.size)) (F0 m 14 ls []) := by
  intro σ h H locs ls G hl
  unfold u_N_X7_set_14 at h
  exact h.elim
def w_N_X7_set (post : Int32 → MS → Prop) (σ : MS) (a1 : Int32) (a2 : Int32) : Prop := ((a1 < 0 → u_N_X7_set_14 post a1 a2 σ) ∧ (¬ a1 < 0 → ((a1 < (1 <<< ((σ 0 6) &&& 31)) → w_X7_playableFor (fun r4 σ3 => w_X1_choose (fun σ5 => ((a2 = 0 → post (σ5 10 1) σ5) ∧ (¬ a2 = 0 → post (σ5 10 2) σ5))) σ3 r4) σ a1) ∧ (¬ a1 < (1 <<< ((σ 0 6) &&& 31)) → u_N_X7_set_14 post a1 a2 σ))))
set_option maxHeartbeats 4000000 in
set_option maxRecDepth 100000 in
theorem c_N_X7_set (l : Launch) (D : va_G) (cy : Nat → ClassId) (lay : Nat → Nat) {σ : MS} {post : Int32 → MS → Prop} {a1 : Int32} {a2 : Int32} (h : w_N_X7_set post σ a1 a2) (sz : Nat) : Met l yX7_set wsX7_set rm_N_X7_set (va_Pc [.ref (lay 0), .int a1, .int a2] (agI D cy lay σ sz)) (va_Qi post (agO D cy lay) (agA lay sz)) 0 0 (agA lay sz) := by
  refine ag_ofW (cc := cX7_set) (maxL := 3) (ret := some .int) (own := RX7) (Qc := fun sz => va_Qi post (agO D cy lay) (agA lay sz)) (by decide) rfl (Nat.le_of_ble_eq_true rfl) rfl ?_
  intro p e s m args below meth c ls hC hr hlocks hT G hl
  unfold w_N_X7_set at h
  have hl : lv_has ls 3 [(0, .ref (lay 0)), (1, .int a1), (2, .int a2)] := hl
  refine lv_iload_n hC.1 hC.2.1 dX7_set_0 rfl (lv_at hl 1 rfl) ?_
  refine lv_if_lt (tgt := 14) hC.1 hC.2.1 dX7_set_1 (by decide) (fun c1 => ?_) (fun c1 => ?_)
  · replace h := h.1 c1
    exact l_N_X7_set_14 a1 a2 hC hr hlocks hT _ h _ _ _ G (lv_sub hl [0, 1, 2] rfl)
  · replace h := h.2 c1
    refine lv_iload_n hC.1 hC.2.1 dX7_set_4 rfl (lv_at hl 1 rfl) ?_
    refine lv_iconst (v := 1) hC.1 hC.2.1 dX7_set_5 (by decide) ?_
    refine lv_aload_n hC.1 hC.2.1 dX7_set_6 rfl (lv_at hl 0 rfl) ?_
    refine ag_get hC hT G (by decide) e_ag k_X7 i_N_X7_set_X7 6 (by decide) (wm 3 rfl) rfl dX7_set_7 ?_
    refine lv_ishl hC.1 hC.2.1 dX7_set_10 ?_
    refine lv_icmp_lt (tgt := 25) hC.1 hC.2.1 dX7_set_11 (by decide) (fun c2 => ?_) (fun c2 => ?_)
    · replace h := h.1 c2
      refine lv_aload_n hC.1 hC.2.1 dX7_set_25 rfl (lv_at hl 0 rfl) ?_
      refine ag_get hC hT G (by decide) e_ag k_X7 i_N_X7_set_X7 14 (by decide) (wm 4 rfl) rfl dX7_set_26 ?_
      refine lv_aload_n hC.1 hC.2.1 dX7_set_29 rfl (lv_at hl 0 rfl) ?_
      refine ag_get hC hT G (by decide) e_ag k_X7 i_N_X7_set_X7 1 (by decide) (wm 5 rfl) rfl dX7_set_30 ?_
      refine lv_aload_n hC.1 hC.2.1 dX7_set_33 rfl (lv_at hl 0 rfl) ?_
      refine lv_iload_n hC.1 hC.2.1 dX7_set_34 rfl (lv_at hl 1 rfl) ?_
      refine ag_i G (ag_runV (As := [.int a1]) (rest := [.ref (lay 2), .ref (lay 10)]) hC hT G (c_X7_playableFor l D cy lay h _) (cwV 1 hC.2.2.2.2 gX7_set_X7_playableFor rfl rfl rfl hdV_X7_playableFor ⟨Nat.le_of_ble_eq_true rfl, Nat.le_of_ble_eq_true rfl⟩) (ag_recv hT G (by decide) e_ag k_X7) rfl hl.1 rfl (Nat.le_of_ble_eq_true rfl) dX7_set_35 ⟨Nat.le_of_ble_eq_true rfl, Nat.le_of_ble_eq_true rfl⟩) (fun r4 σ3 H locs h G => ?_)
      (try dsimp only at h)
      refine ag_v G (ag_runV (As := [.ref (lay 2), .int r4]) (rest := []) hC hT G (c_X1_choose l D cy lay h _) (cwV 2 hC.2.2.2.2 gX7_set_X1_choose rfl rfl rfl hdV_X1_choose ⟨Nat.le_of_ble_eq_true rfl, Nat.le_of_ble_eq_true rfl⟩) (ag_recv hT G (by decide) e_bs k_X1) rfl hl.1 rfl (Nat.le_of_ble_eq_true rfl) dX7_set_38 ⟨Nat.le_of_ble_eq_true rfl, Nat.le_of_ble_eq_true rfl⟩) (fun σ5 H locs h G => ?_)
      (try dsimp only at h)
      refine lv_iload_n hC.1 hC.2.1 dX7_set_41 rfl (lv_at hl 2 rfl) ?_
      refine lv_if_eq (tgt := 55) hC.1 hC.2.1 dX7_set_42 (by decide) (fun c6 => ?_) (fun c6 => ?_)
      · replace h := h.1 c6
        refine lv_aload_n hC.1 hC.2.1 dX7_set_55 rfl (lv_at hl 0 rfl) ?_
        refine ag_get hC hT G (by decide) e_ag k_X7 i_N_X7_set_X7 14 (by decide) (wm 4 rfl) rfl dX7_set_56 ?_
        refine ag_get hC hT G (by decide) e_bs k_X1 i_N_X7_set_X1 1 (by decide) (wm 7 rfl) rfl dX7_set_59 ?_
        exact ag_iret hC hr hlocks G h dX7_set_62
      · replace h := h.2 c6
        refine lv_aload_n hC.1 hC.2.1 dX7_set_45 rfl (lv_at hl 0 rfl) ?_
        refine ag_get hC hT G (by decide) e_ag k_X7 i_N_X7_set_X7 14 (by decide) (wm 4 rfl) rfl dX7_set_46 ?_
        refine ag_get hC hT G (by decide) e_bs k_X1 i_N_X7_set_X1 2 (by decide) (wm 6 rfl) rfl dX7_set_49 ?_
        refine lv_goto (tgt := 62) hC.1 hC.2.1 dX7_set_52 (by decide) ?_
        exact ag_iret hC hr hlocks G h dX7_set_62
    · replace h := h.2 c2
      exact l_N_X7_set_14 a1 a2 hC hr hlocks hT _ h _ _ _ G (lv_sub hl [0, 1, 2] rfl)
theorem hdV_X7_set : yX7_set.cls = RX7 ∧ yX7_set.cls ≠ "java/lang/invoke/MethodHandle" ∧ yX7_set.cls ≠ "java/lang/invoke/VarHandle" ∧ (parseMethodDescriptor yX7_set.desc).map (fun d => d.parameters.length) = some 2 := by decide +kernel
abbrev rm_N_X7_digestWedding : Room := { frames := 5, cells := 0, slots := 0, locals := 118 }
theorem i_N_X7_digestWedding_X7 : ∀ w ∈ wsX70, w ∈ wsX7_digestWedding := fun _ h => List.mem_cons_of_mem _ (List.mem_append_left _ (List.mem_append_left _ (List.mem_append_left _ (List.mem_append_left _ (List.mem_append_left _ (List.mem_append_left _ (List.mem_append_left _ (List.mem_append_left _ (List.mem_append_left _ (List.mem_append_right _ h))))))))))
theorem i_N_X7_digestWedding_X6 : ∀ w ∈ wsX60, w ∈ wsX7_digestWedding := fun _ h => List.mem_cons_of_mem _ (List.mem_append_left _ (List.mem_append_left _ (List.mem_append_left _ (List.mem_append_left _ (List.mem_append_left _ (List.mem_append_left _ (List.mem_append_left _ (List.mem_append_left _ (List.mem_append_right _ h)))))))))
theorem i_N_X7_digestWedding_X2 : ∀ w ∈ wsX20, w ∈ wsX7_digestWedding := fun _ h => List.mem_cons_of_mem _ (List.mem_append_left _ (List.mem_append_left _ (List.mem_append_left _ (List.mem_append_left _ (List.mem_append_left _ (List.mem_append_left _ (List.mem_append_left _ (List.mem_append_right _ h))))))))
def u_N_X7_digestWedding_121 (post : Int64 → MS → Prop) (a1 : Int64) (a2 : Int32) (σ : MS) (v4 : Int64) : Prop := (vp_in a2 14 ∧ w_N_X7_set (fun r6 σ5 => post ((v4 * 31) + (Int32.toInt64 r6)) σ5) σ (σ (73 + (Int32.toNatClampNeg a2)) 8) 0)
set_option maxHeartbeats 4000000 in
set_option maxRecDepth 100000 in
theorem l_N_X7_digestWedding_121 {p : Program} {l : Launch} {e : Env} {s : State} {m : MethodId} {args : Array Value} {below : List Frame} {meth : Method} {c : Code} {D : va_G} {cy : Nat → ClassId} {lay : Nat → Nat} {post : Int64 → MS → Prop} (a1 : Int64) (a2 : Int32) (hC : CallFix p m c cX7_digestWedding 7 s args wsX7_digestWedding RX7) (hr : meth.sig.returnType = some .long) (hlocks : meth.locks = false) (hT : agT D cy lay s) : ∀ (σ : MS) (v4 : Int64), u_N_X7_digestWedding_121 post a1 a2 σ v4 → ∀ (H : Heap) (locs : List Loc) (ls : Array Slot), agG D cy lay σ (agA lay s.heap.size) s.heap H locs → lv_has ls 7 [(0, .ref (lay 0)), (1, .long a1), (3, .int a2), (4, .long v4)] → W p l e rm_N_X7_digestWedding s m args below meth c H locs 0 0 (MQ below (va_Ql post (agO D cy lay) (agA lay s.heap.size)) args s 0 0 (agA lay s.heap.size)) (F0 m 121 ls []) := by
  intro σ v4 h H locs ls G hl
  unfold u_N_X7_digestWedding_121 at h
  refine lv_lload hC.1 hC.2.1 dX7_digestWedding_121 (lv_at hl 3 rfl) ?_
  refine lv_ldc2 (v := 31) hC.1 hC.2.1 hC.2.2.2.1 (hC.2.2.2.2 _ (wm 1 rfl)) dX7_digestWedding_123 ?_
  refine lv_lmul hC.1 hC.2.1 dX7_digestWedding_126 ?_
  refine lv_aload_n hC.1 hC.2.1 dX7_digestWedding_127 rfl (lv_at hl 0 rfl) ?_
  refine lv_aload_n hC.1 hC.2.1 dX7_digestWedding_128 rfl (lv_at hl 0 rfl) ?_
  refine ag_get hC hT G (by decide) e_ag k_X7 i_N_X7_digestWedding_X7 3 (by decide) (wm 2 rfl) rfl dX7_digestWedding_129 ?_
  refine lv_iload_n hC.1 hC.2.1 dX7_digestWedding_132 rfl (lv_at hl 2 rfl) ?_
  obtain ⟨hn4, h⟩ := h
  refine ag_aald hC hT G (by decide) _ rfl e_wds hn4 dX7_digestWedding_133 ?_
  refine ag_get hC hT G (k_wd (vlt hn4)) (e_wd (vlt hn4)) k_X6 i_N_X7_digestWedding_X6 8 (by decide) (wm 9 rfl) rfl dX7_digestWedding_134 ?_
  refine lv_iconst (v := 0) hC.1 hC.2.1 dX7_digestWedding_137 (by decide) ?_
  refine ag_i G (ag_runV (As := [.int (σ (73 + (Int32.toNatClampNeg a2)) 8), .int 0]) (rest := [.long (v4 * 31)]) hC hT G (c_N_X7_set l D cy lay h _) (cwV 2 hC.2.2.2.2 gX7_digestWedding_X7_set rfl rfl rfl hdV_X7_set ⟨Nat.le_of_ble_eq_true rfl, Nat.le_of_ble_eq_true rfl⟩) (ag_recv hT G (by decide) e_ag k_X7) rfl hl.1 rfl (Nat.le_of_ble_eq_true rfl) dX7_digestWedding_138 ⟨Nat.le_of_ble_eq_true rfl, Nat.le_of_ble_eq_true rfl⟩) (fun r6 σ5 H locs h G => ?_)
  (try dsimp only at h)
  refine lv_i2l (v := Int32.toInt64 r6) hC.1 hC.2.1 dX7_digestWedding_141 rfl ?_
  refine lv_ladd hC.1 hC.2.1 dX7_digestWedding_142 ?_
  exact ag_lret hC hr hlocks G h dX7_digestWedding_143
def u_N_X7_digestWedding_6 (post : Int64 → MS → Prop) (a1 : Int64) (a2 : Int32) : Nat → MS → Int64 → Int32 → Prop
  | 0, _, _, _ => False
  | n + 1, σ, v4, v6 => ((12 < v6 → (vp_in a2 14 ∧ (((σ (73 + (Int32.toNatClampNeg a2)) 7) = 0 → w_X7_surveyNow (fun σ7 => u_N_X7_digestWedding_121 post a1 a2 σ7 ((((((((v4 * 31) + (Int32.toInt64 (σ7 9 0))) * 31) + (Int32.toInt64 (σ7 9 1))) * 31) + (Int32.toInt64 (σ7 9 3))) * 31) + (Int32.toInt64 (σ7 9 5)))) σ a2) ∧ (¬ (σ (73 + (Int32.toNatClampNeg a2)) 7) = 0 → u_N_X7_digestWedding_121 post a1 a2 σ v4)))) ∧ (¬ 12 < v6 → w_N_X7_ofWedding (fun r9 σ8 => u_N_X7_digestWedding_6 post a1 a2 n σ8 ((v4 * 31) + (Int32.toInt64 r9)) (v6 + 1)) σ a2 v6))
set_option maxHeartbeats 4000000 in
set_option maxRecDepth 100000 in
theorem l_N_X7_digestWedding_6 {p : Program} {l : Launch} {e : Env} {s : State} {m : MethodId} {args : Array Value} {below : List Frame} {meth : Method} {c : Code} {D : va_G} {cy : Nat → ClassId} {lay : Nat → Nat} {post : Int64 → MS → Prop} (a1 : Int64) (a2 : Int32) (hC : CallFix p m c cX7_digestWedding 7 s args wsX7_digestWedding RX7) (hr : meth.sig.returnType = some .long) (hlocks : meth.locks = false) (hT : agT D cy lay s) : ∀ (n : Nat), ∀ (σ : MS) (v4 : Int64) (v6 : Int32), u_N_X7_digestWedding_6 post a1 a2 n σ v4 v6 → ∀ (H : Heap) (locs : List Loc) (ls : Array Slot), agG D cy lay σ (agA lay s.heap.size) s.heap H locs → lv_has ls 7 [(0, .ref (lay 0)), (1, .long a1), (3, .int a2), (4, .long v4), (6, .int v6)] → W p l e rm_N_X7_digestWedding s m args below meth c H locs 0 0 (MQ below (va_Ql post (agO D cy lay) (agA lay s.heap.size)) args s 0 0 (agA lay s.heap.size)) (F0 m 6 ls []) := by
  intro n
  induction n with
  | zero =>
    intro σ v4 v6 h
    exact h.elim
  | succ n ih =>
    intro σ v4 v6 h H locs ls G hl
    rw [u_N_X7_digestWedding_6] at h
    refine lv_iload hC.1 hC.2.1 dX7_digestWedding_6 (lv_at hl 4 rfl) ?_
    refine lv_bipush (v := 12) hC.1 hC.2.1 dX7_digestWedding_8 (by decide) ?_
    refine lv_icmp_gt (tgt := 36) hC.1 hC.2.1 dX7_digestWedding_10 (by decide) (fun c1 => ?_) (fun c1 => ?_)
    · replace h := h.1 c1
      refine lv_aload_n hC.1 hC.2.1 dX7_digestWedding_36 rfl (lv_at hl 0 rfl) ?_
      refine ag_get hC hT G (by decide) e_ag k_X7 i_N_X7_digestWedding_X7 3 (by decide) (wm 2 rfl) rfl dX7_digestWedding_37 ?_
      refine lv_iload_n hC.1 hC.2.1 dX7_digestWedding_40 rfl (lv_at hl 2 rfl) ?_
      obtain ⟨hn2, h⟩ := h
      refine ag_aald hC hT G (by decide) _ rfl e_wds hn2 dX7_digestWedding_41 ?_
      refine ag_get hC hT G (k_wd (vlt hn2)) (e_wd (vlt hn2)) k_X6 i_N_X7_digestWedding_X6 7 (by decide) (wm 3 rfl) rfl dX7_digestWedding_42 ?_
      refine lv_if_ne (tgt := 121) hC.1 hC.2.1 dX7_digestWedding_45 (by decide) (fun c3 => ?_) (fun c3 => ?_)
      · replace h := h.2 c3
        exact l_N_X7_digestWedding_121 a1 a2 hC hr hlocks hT _ _ h _ _ _ G (lv_sub hl [0, 1, 2, 3] rfl)
      · replace h := h.1 c3
        refine lv_aload_n hC.1 hC.2.1 dX7_digestWedding_48 rfl (lv_at hl 0 rfl) ?_
        refine lv_iload_n hC.1 hC.2.1 dX7_digestWedding_49 rfl (lv_at hl 2 rfl) ?_
        refine ag_v G (ag_runV (As := [.int a2]) (rest := []) hC hT G (c_X7_surveyNow l D cy lay h _) (cwV 1 hC.2.2.2.2 gX7_digestWedding_X7_surveyNow rfl rfl rfl hdV_X7_surveyNow ⟨Nat.le_of_ble_eq_true rfl, Nat.le_of_ble_eq_true rfl⟩) (ag_recv hT G (by decide) e_ag k_X7) rfl hl.1 rfl (Nat.le_of_ble_eq_true rfl) dX7_digestWedding_50 ⟨Nat.le_of_ble_eq_true rfl, Nat.le_of_ble_eq_true rfl⟩) (fun σ7 H locs h G => ?_)
        (try dsimp only at h)
        refine lv_lload hC.1 hC.2.1 dX7_digestWedding_53 (lv_at hl 3 rfl) ?_
        refine lv_ldc2 (v := 31) hC.1 hC.2.1 hC.2.2.2.1 (hC.2.2.2.2 _ (wm 1 rfl)) dX7_digestWedding_55 ?_
        refine lv_lmul hC.1 hC.2.1 dX7_digestWedding_58 ?_
        refine lv_aload_n hC.1 hC.2.1 dX7_digestWedding_59 rfl (lv_at hl 0 rfl) ?_
        refine ag_get hC hT G (by decide) e_ag k_X7 i_N_X7_digestWedding_X7 13 (by decide) (wm 4 rfl) rfl dX7_digestWedding_60 ?_
        refine ag_get hC hT G (by decide) e_fd k_X2 i_N_X7_digestWedding_X2 0 (by decide) (wm 5 rfl) rfl dX7_digestWedding_63 ?_
        refine lv_i2l (v := Int32.toInt64 (σ7 9 0)) hC.1 hC.2.1 dX7_digestWedding_66 rfl ?_
        refine lv_ladd hC.1 hC.2.1 dX7_digestWedding_67 ?_
        refine lv_lstore (lv' := [(4, .long ((v4 * 31) + (Int32.toInt64 (σ7 9 0)))), (0, .ref (lay 0)), (1, .long a1), (3, .int a2), (6, .int v6)]) hC.1 hC.2.1 dX7_digestWedding_68 hl (by decide) rfl (fun ls hl => ?_)
        refine lv_lload hC.1 hC.2.1 dX7_digestWedding_70 (lv_at hl 0 rfl) ?_
        refine lv_ldc2 (v := 31) hC.1 hC.2.1 hC.2.2.2.1 (hC.2.2.2.2 _ (wm 1 rfl)) dX7_digestWedding_72 ?_
        refine lv_lmul hC.1 hC.2.1 dX7_digestWedding_75 ?_
        refine lv_aload_n hC.1 hC.2.1 dX7_digestWedding_76 rfl (lv_at hl 1 rfl) ?_
        refine ag_get hC hT G (by decide) e_ag k_X7 i_N_X7_digestWedding_X7 13 (by decide) (wm 4 rfl) rfl dX7_digestWedding_77 ?_
        refine ag_get hC hT G (by decide) e_fd k_X2 i_N_X7_digestWedding_X2 1 (by decide) (wm 6 rfl) rfl dX7_digestWedding_80 ?_
        refine lv_i2l (v := Int32.toInt64 (σ7 9 1)) hC.1 hC.2.1 dX7_digestWedding_83 rfl ?_
        refine lv_ladd hC.1 hC.2.1 dX7_digestWedding_84 ?_
        refine lv_lstore (lv' := [(4, .long ((((v4 * 31) + (Int32.toInt64 (σ7 9 0))) * 31) + (Int32.toInt64 (σ7 9 1)))), (0, .ref (lay 0)), (1, .long a1), (3, .int a2), (6, .int v6)]) hC.1 hC.2.1 dX7_digestWedding_85 hl (by decide) rfl (fun ls hl => ?_)
        refine lv_lload hC.1 hC.2.1 dX7_digestWedding_87 (lv_at hl 0 rfl) ?_
        refine lv_ldc2 (v := 31) hC.1 hC.2.1 hC.2.2.2.1 (hC.2.2.2.2 _ (wm 1 rfl)) dX7_digestWedding_89 ?_
        refine lv_lmul hC.1 hC.2.1 dX7_digestWedding_92 ?_
        refine lv_aload_n hC.1 hC.2.1 dX7_digestWedding_93 rfl (lv_at hl 1 rfl) ?_
        refine ag_get hC hT G (by decide) e_ag k_X7 i_N_X7_digestWedding_X7 13 (by decide) (wm 4 rfl) rfl dX7_digestWedding_94 ?_
        refine ag_get hC hT G (by decide) e_fd k_X2 i_N_X7_digestWedding_X2 3 (by decide) (wm 7 rfl) rfl dX7_digestWedding_97 ?_
        refine lv_i2l (v := Int32.toInt64 (σ7 9 3)) hC.1 hC.2.1 dX7_digestWedding_100 rfl ?_
        refine lv_ladd hC.1 hC.2.1 dX7_digestWedding_101 ?_
        refine lv_lstore (lv' := [(4, .long ((((((v4 * 31) + (Int32.toInt64 (σ7 9 0))) * 31) + (Int32.toInt64 (σ7 9 1))) * 31) + (Int32.toInt64 (σ7 9 3)))), (0, .ref (lay 0)), (1, .long a1), (3, .int a2), (6, .int v6)]) hC.1 hC.2.1 dX7_digestWedding_102 hl (by decide) rfl (fun ls hl => ?_)
        refine lv_lload hC.1 hC.2.1 dX7_digestWedding_104 (lv_at hl 0 rfl) ?_
        refine lv_ldc2 (v := 31) hC.1 hC.2.1 hC.2.2.2.1 (hC.2.2.2.2 _ (wm 1 rfl)) dX7_digestWedding_106 ?_
        refine lv_lmul hC.1 hC.2.1 dX7_digestWedding_109 ?_
        refine lv_aload_n hC.1 hC.2.1 dX7_digestWedding_110 rfl (lv_at hl 1 rfl) ?_
        refine ag_get hC hT G (by decide) e_ag k_X7 i_N_X7_digestWedding_X7 13 (by decide) (wm 4 rfl) rfl dX7_digestWedding_111 ?_
        refine ag_get hC hT G (by decide) e_fd k_X2 i_N_X7_digestWedding_X2 5 (by decide) (wm 8 rfl) rfl dX7_digestWedding_114 ?_
        refine lv_i2l (v := Int32.toInt64 (σ7 9 5)) hC.1 hC.2.1 dX7_digestWedding_117 rfl ?_
        refine lv_ladd hC.1 hC.2.1 dX7_digestWedding_118 ?_
        refine lv_lstore (lv' := [(4, .long ((((((((v4 * 31) + (Int32.toInt64 (σ7 9 0))) * 31) + (Int32.toInt64 (σ7 9 1))) * 31) + (Int32.toInt64 (σ7 9 3))) * 31) + (Int32.toInt64 (σ7 9 5)))), (0, .ref (lay 0)), (1, .long a1), (3, .int a2), (6, .int v6)]) hC.1 hC.2.1 dX7_digestWedding_119 hl (by decide) rfl (fun ls hl => ?_)
        exact l_N_X7_digestWedding_121 a1 a2 hC hr hlocks hT _ _ h _ _ _ G (lv_sub hl [1, 2, 3, 0] rfl)
    · replace h := h.2 c1
      refine lv_lload hC.1 hC.2.1 dX7_digestWedding_13 (lv_at hl 3 rfl) ?_
      refine lv_ldc2 (v := 31) hC.1 hC.2.1 hC.2.2.2.1 (hC.2.2.2.2 _ (wm 1 rfl)) dX7_digestWedding_15 ?_
      refine lv_lmul hC.1 hC.2.1 dX7_digestWedding_18 ?_
      refine lv_aload_n hC.1 hC.2.1 dX7_digestWedding_19 rfl (lv_at hl 0 rfl) ?_
      refine lv_iload_n hC.1 hC.2.1 dX7_digestWedding_20 rfl (lv_at hl 2 rfl) ?_
      refine lv_iload hC.1 hC.2.1 dX7_digestWedding_21 (lv_at hl 4 rfl) ?_
      refine ag_i G (ag_runV (As := [.int a2, .int v6]) (rest := [.long (v4 * 31)]) hC hT G (c_N_X7_ofWedding l D cy lay h _) (cwV 2 hC.2.2.2.2 gX7_digestWedding_X7_ofWedding rfl rfl rfl hdV_X7_ofWedding ⟨Nat.le_of_ble_eq_true rfl, Nat.le_of_ble_eq_true rfl⟩) (ag_recv hT G (by decide) e_ag k_X7) rfl hl.1 rfl (Nat.le_of_ble_eq_true rfl) dX7_digestWedding_23 ⟨Nat.le_of_ble_eq_true rfl, Nat.le_of_ble_eq_true rfl⟩) (fun r9 σ8 H locs h G => ?_)
      (try dsimp only at h)
      refine lv_i2l (v := Int32.toInt64 r9) hC.1 hC.2.1 dX7_digestWedding_26 rfl ?_
      refine lv_ladd hC.1 hC.2.1 dX7_digestWedding_27 ?_
      refine lv_lstore (lv' := [(4, .long ((v4 * 31) + (Int32.toInt64 r9))), (0, .ref (lay 0)), (1, .long a1), (3, .int a2), (6, .int v6)]) hC.1 hC.2.1 dX7_digestWedding_28 hl (by decide) rfl (fun ls hl => ?_)
      refine lv_iinc (v := v6 + 1) (lv' := [(6, .int (v6 + 1)), (4, .long ((v4 * 31) + (Int32.toInt64 r9))), (0, .ref (lay 0)), (1, .long a1), (3, .int a2)]) hC.1 hC.2.1 dX7_digestWedding_30 hl (k := 4) rfl rfl (by decide) rfl (fun ls hl => ?_)
      refine lv_goto (tgt := 6) hC.1 hC.2.1 dX7_digestWedding_33 (by decide) ?_
      exact ih _ _ _ h _ _ _ G (lv_sub hl [2, 3, 4, 1, 0] rfl)
def w_N_X7_digestWedding (post : Int64 → MS → Prop) (σ : MS) (a1 : Int64) (a2 : Int32) : Prop := (∃ k, u_N_X7_digestWedding_6 post a1 a2 k σ a1 0)
set_option maxHeartbeats 4000000 in
set_option maxRecDepth 100000 in
theorem c_N_X7_digestWedding (l : Launch) (D : va_G) (cy : Nat → ClassId) (lay : Nat → Nat) {σ : MS} {post : Int64 → MS → Prop} {a1 : Int64} {a2 : Int32} (h : w_N_X7_digestWedding post σ a1 a2) (sz : Nat) : Met l yX7_digestWedding wsX7_digestWedding rm_N_X7_digestWedding (va_Pc [.ref (lay 0), .long a1, .int a2] (agI D cy lay σ sz)) (va_Ql post (agO D cy lay) (agA lay sz)) 0 0 (agA lay sz) := by
  refine ag_ofW (cc := cX7_digestWedding) (maxL := 7) (ret := some .long) (own := RX7) (Qc := fun sz => va_Ql post (agO D cy lay) (agA lay sz)) (by decide) rfl (Nat.le_of_ble_eq_true rfl) rfl ?_
  intro p e s m args below meth c ls hC hr hlocks hT G hl
  unfold w_N_X7_digestWedding at h
  have hl : lv_has ls 7 [(0, .ref (lay 0)), (1, .long a1), (3, .int a2)] := hl
  refine lv_lload_n hC.1 hC.2.1 dX7_digestWedding_0 rfl (lv_at hl 1 rfl) ?_
  refine lv_lstore (lv' := [(4, .long a1), (0, .ref (lay 0)), (1, .long a1), (3, .int a2)]) hC.1 hC.2.1 dX7_digestWedding_1 hl (by decide) rfl (fun ls hl => ?_)
  refine lv_iconst (v := 0) hC.1 hC.2.1 dX7_digestWedding_3 (by decide) ?_
  refine lv_istore (lv' := [(6, .int 0), (4, .long a1), (0, .ref (lay 0)), (1, .long a1), (3, .int a2)]) hC.1 hC.2.1 dX7_digestWedding_4 hl (by decide) rfl (fun ls hl => ?_)
  obtain ⟨n1, h⟩ := h
  exact l_N_X7_digestWedding_6 a1 a2 hC hr hlocks hT n1 _ _ _ h _ _ _ G (lv_sub hl [2, 3, 4, 1, 0] rfl)
theorem hdV_X7_digestWedding : yX7_digestWedding.cls = RX7 ∧ yX7_digestWedding.cls ≠ "java/lang/invoke/MethodHandle" ∧ yX7_digestWedding.cls ≠ "java/lang/invoke/VarHandle" ∧ (parseMethodDescriptor yX7_digestWedding.desc).map (fun d => d.parameters.length) = some 2 := by decide +kernel
abbrev rm_N_X7_digest : Room := { frames := 6, cells := 0, slots := 0, locals := 144 }
theorem i_N_X7_digest_X7 : ∀ w ∈ wsX70, w ∈ wsX7_digest := fun _ h => List.mem_cons_of_mem _ (List.mem_append_left _ (List.mem_append_left _ (List.mem_append_left _ (List.mem_append_left _ (List.mem_append_left _ (List.mem_append_left _ (List.mem_append_left _ (List.mem_append_left _ (List.mem_append_left _ (List.mem_append_right _ h))))))))))
def u_N_X7_digest_171 (post : Int64 → MS → Prop) : Nat → MS → Int64 → Int32 → Prop
  | 0, _, _, _ => False
  | n + 1, σ, v1, v3 => (((σ 0 8) ≤ v3 → w_N_X7_set (fun r7 σ6 => w_N_X7_drive (fun r9 σ8 => w_X7_isSound (fun r11 σ10 => ((r11 = 0 → post ((((((v1 * 31) + (Int32.toInt64 r7)) * 31) + (Int32.toInt64 r9)) * 31) + (Int32.toInt64 0)) σ10) ∧ (¬ r11 = 0 → post ((((((v1 * 31) + (Int32.toInt64 r7)) * 31) + (Int32.toInt64 r9)) * 31) + (Int32.toInt64 1)) σ10))) σ8) σ6 0 5) σ ((1 <<< ((σ 0 6) &&& 31)) - 1) 1) ∧ (¬ (σ 0 8) ≤ v3 → w_N_X7_digestWedding (fun r14 σ13 => u_N_X7_digest_171 post n σ13 r14 (v3 + 1)) σ v1 v3))
set_option maxHeartbeats 4000000 in
set_option maxRecDepth 100000 in
theorem l_N_X7_digest_171 {p : Program} {l : Launch} {e : Env} {s : State} {m : MethodId} {args : Array Value} {below : List Frame} {meth : Method} {c : Code} {D : va_G} {cy : Nat → ClassId} {lay : Nat → Nat} {post : Int64 → MS → Prop} (hC : CallFix p m c cX7_digest 5 s args wsX7_digest RX7) (hr : meth.sig.returnType = some .long) (hlocks : meth.locks = false) (hT : agT D cy lay s) : ∀ (n : Nat), ∀ (σ : MS) (v1 : Int64) (v3 : Int32), u_N_X7_digest_171 post n σ v1 v3 → ∀ (H : Heap) (locs : List Loc) (ls : Array Slot), agG D cy lay σ (agA lay s.heap.size) s.heap H locs → lv_has ls 5 [(0, .ref (lay 0)), (1, .long v1), (3, .int v3)] → W p l e rm_N_X7_digest s m args below meth c H locs 0 0 (MQ below (va_Ql post (agO D cy lay) (agA lay s.heap.size)) args s 0 0 (agA lay s.heap.size)) (F0 m 171 ls []) := by
  intro n
  induction n with
  | zero =>
    intro σ v1 v3 h
    exact h.elim
  | succ n ih =>
    intro σ v1 v3 h H locs ls G hl
    rw [u_N_X7_digest_171] at h
    refine lv_iload_n hC.1 hC.2.1 dX7_digest_171 rfl (lv_at hl 2 rfl) ?_
    refine lv_aload_n hC.1 hC.2.1 dX7_digest_172 rfl (lv_at hl 0 rfl) ?_
    refine ag_get hC hT G (by decide) e_ag k_X7 i_N_X7_digest_X7 8 (by decide) (wm 5 rfl) rfl dX7_digest_173 ?_
    refine lv_icmp_ge (tgt := 192) hC.1 hC.2.1 dX7_digest_176 (by decide) (fun c5 => ?_) (fun c5 => ?_)
    · replace h := h.1 c5
      refine lv_lload_n hC.1 hC.2.1 dX7_digest_192 rfl (lv_at hl 1 rfl) ?_
      refine lv_ldc2 (v := 31) hC.1 hC.2.1 hC.2.2.2.1 (hC.2.2.2.2 _ (wm 2 rfl)) dX7_digest_193 ?_
      refine lv_lmul hC.1 hC.2.1 dX7_digest_196 ?_
      refine lv_aload_n hC.1 hC.2.1 dX7_digest_197 rfl (lv_at hl 0 rfl) ?_
      refine lv_iconst (v := 1) hC.1 hC.2.1 dX7_digest_198 (by decide) ?_
      refine lv_aload_n hC.1 hC.2.1 dX7_digest_199 rfl (lv_at hl 0 rfl) ?_
      refine ag_get hC hT G (by decide) e_ag k_X7 i_N_X7_digest_X7 6 (by decide) (wm 3 rfl) rfl dX7_digest_200 ?_
      refine lv_ishl hC.1 hC.2.1 dX7_digest_203 ?_
      refine lv_iconst (v := 1) hC.1 hC.2.1 dX7_digest_204 (by decide) ?_
      refine lv_isub hC.1 hC.2.1 dX7_digest_205 ?_
      refine lv_iconst (v := 1) hC.1 hC.2.1 dX7_digest_206 (by decide) ?_
      refine ag_i G (ag_runV (As := [.int ((1 <<< ((σ 0 6) &&& 31)) - 1), .int 1]) (rest := [.long (v1 * 31)]) hC hT G (c_N_X7_set l D cy lay h _) (cwV 2 hC.2.2.2.2 gX7_digest_X7_set rfl rfl rfl hdV_X7_set ⟨Nat.le_of_ble_eq_true rfl, Nat.le_of_ble_eq_true rfl⟩) (ag_recv hT G (by decide) e_ag k_X7) rfl hl.1 rfl (Nat.le_of_ble_eq_true rfl) dX7_digest_207 ⟨Nat.le_of_ble_eq_true rfl, Nat.le_of_ble_eq_true rfl⟩) (fun r7 σ6 H locs h G => ?_)
      (try dsimp only at h)
      refine lv_i2l (v := Int32.toInt64 r7) hC.1 hC.2.1 dX7_digest_210 rfl ?_
      refine lv_ladd hC.1 hC.2.1 dX7_digest_211 ?_
      refine lv_lstore_n (lv' := [(1, .long ((v1 * 31) + (Int32.toInt64 r7))), (0, .ref (lay 0)), (3, .int v3)]) hC.1 hC.2.1 dX7_digest_212 rfl hl (by decide) rfl (fun ls hl => ?_)
      refine lv_lload_n hC.1 hC.2.1 dX7_digest_213 rfl (lv_at hl 0 rfl) ?_
      refine lv_ldc2 (v := 31) hC.1 hC.2.1 hC.2.2.2.1 (hC.2.2.2.2 _ (wm 2 rfl)) dX7_digest_214 ?_
      refine lv_lmul hC.1 hC.2.1 dX7_digest_217 ?_
      refine lv_aload_n hC.1 hC.2.1 dX7_digest_218 rfl (lv_at hl 1 rfl) ?_
      refine lv_iconst (v := 0) hC.1 hC.2.1 dX7_digest_219 (by decide) ?_
      refine lv_iconst (v := 5) hC.1 hC.2.1 dX7_digest_220 (by decide) ?_
      refine ag_i G (ag_runV (As := [.int 0, .int 5]) (rest := [.long (((v1 * 31) + (Int32.toInt64 r7)) * 31)]) hC hT G (c_N_X7_drive l D cy lay h _) (cwV 2 hC.2.2.2.2 gX7_digest_X7_drive rfl rfl rfl hdV_X7_drive ⟨Nat.le_of_ble_eq_true rfl, Nat.le_of_ble_eq_true rfl⟩) (ag_recv hT G (by decide) e_ag k_X7) rfl hl.1 rfl (Nat.le_of_ble_eq_true rfl) dX7_digest_221 ⟨Nat.le_of_ble_eq_true rfl, Nat.le_of_ble_eq_true rfl⟩) (fun r9 σ8 H locs h G => ?_)
      (try dsimp only at h)
      refine lv_i2l (v := Int32.toInt64 r9) hC.1 hC.2.1 dX7_digest_224 rfl ?_
      refine lv_ladd hC.1 hC.2.1 dX7_digest_225 ?_
      refine lv_lstore_n (lv' := [(1, .long ((((v1 * 31) + (Int32.toInt64 r7)) * 31) + (Int32.toInt64 r9))), (0, .ref (lay 0)), (3, .int v3)]) hC.1 hC.2.1 dX7_digest_226 rfl hl (by decide) rfl (fun ls hl => ?_)
      refine lv_lload_n hC.1 hC.2.1 dX7_digest_227 rfl (lv_at hl 0 rfl) ?_
      refine lv_ldc2 (v := 31) hC.1 hC.2.1 hC.2.2.2.1 (hC.2.2.2.2 _ (wm 2 rfl)) dX7_digest_228 ?_
      refine lv_lmul hC.1 hC.2.1 dX7_digest_231 ?_
      refine lv_aload_n hC.1 hC.2.1 dX7_digest_232 rfl (lv_at hl 1 rfl) ?_
      refine ag_i G (ag_runV (As := []) (rest := [.long (((((v1 * 31) + (Int32.toInt64 r7)) * 31) + (Int32.toInt64 r9)) * 31)]) hC hT G (c_X7_isSound l D cy lay h _) (cwV 0 hC.2.2.2.2 gX7_digest_X7_isSound rfl rfl rfl hdV_X7_isSound ⟨Nat.le_of_ble_eq_true rfl, Nat.le_of_ble_eq_true rfl⟩) (ag_recv hT G (by decide) e_ag k_X7) rfl hl.1 rfl (Nat.le_of_ble_eq_true rfl) dX7_digest_233 ⟨Nat.le_of_ble_eq_true rfl, Nat.le_of_ble_eq_true rfl⟩) (fun r11 σ10 H locs h G => ?_)
      (try dsimp only at h)
      refine lv_if_eq (tgt := 243) hC.1 hC.2.1 dX7_digest_236 (by decide) (fun c12 => ?_) (fun c12 => ?_)
      · replace h := h.1 c12
        refine lv_iconst (v := 0) hC.1 hC.2.1 dX7_digest_243 (by decide) ?_
        refine lv_i2l (v := Int32.toInt64 0) hC.1 hC.2.1 dX7_digest_244 rfl ?_
        refine lv_ladd hC.1 hC.2.1 dX7_digest_245 ?_
        exact ag_lret hC hr hlocks G h dX7_digest_246
      · replace h := h.2 c12
        refine lv_iconst (v := 1) hC.1 hC.2.1 dX7_digest_239 (by decide) ?_
        refine lv_goto (tgt := 244) hC.1 hC.2.1 dX7_digest_240 (by decide) ?_
        refine lv_i2l (v := Int32.toInt64 1) hC.1 hC.2.1 dX7_digest_244 rfl ?_
        refine lv_ladd hC.1 hC.2.1 dX7_digest_245 ?_
        exact ag_lret hC hr hlocks G h dX7_digest_246
    · replace h := h.2 c5
      refine lv_aload_n hC.1 hC.2.1 dX7_digest_179 rfl (lv_at hl 0 rfl) ?_
      refine lv_lload_n hC.1 hC.2.1 dX7_digest_180 rfl (lv_at hl 1 rfl) ?_
      refine lv_iload_n hC.1 hC.2.1 dX7_digest_181 rfl (lv_at hl 2 rfl) ?_
      refine ag_l G (ag_runV (As := [.long v1, .int v3]) (rest := []) hC hT G (c_N_X7_digestWedding l D cy lay h _) (cwV 2 hC.2.2.2.2 gX7_digest_X7_digestWedding rfl rfl rfl hdV_X7_digestWedding ⟨Nat.le_of_ble_eq_true rfl, Nat.le_of_ble_eq_true rfl⟩) (ag_recv hT G (by decide) e_ag k_X7) rfl hl.1 rfl (Nat.le_of_ble_eq_true rfl) dX7_digest_182 ⟨Nat.le_of_ble_eq_true rfl, Nat.le_of_ble_eq_true rfl⟩) (fun r14 σ13 H locs h G => ?_)
      (try dsimp only at h)
      refine lv_lstore_n (lv' := [(1, .long r14), (0, .ref (lay 0)), (3, .int v3)]) hC.1 hC.2.1 dX7_digest_185 rfl hl (by decide) rfl (fun ls hl => ?_)
      refine lv_iinc (v := v3 + 1) (lv' := [(3, .int (v3 + 1)), (1, .long r14), (0, .ref (lay 0))]) hC.1 hC.2.1 dX7_digest_186 hl (k := 2) rfl rfl (by decide) rfl (fun ls hl => ?_)
      refine lv_goto (tgt := 171) hC.1 hC.2.1 dX7_digest_189 (by decide) ?_
      exact ih _ _ _ h _ _ _ G (lv_sub hl [2, 1, 0] rfl)
def u_N_X7_digest_135 (post : Int64 → MS → Prop) (K124 : MS → Int64 → Int32 → Prop) : Nat → MS → Int64 → Int32 → Int32 → Prop
  | 0, _, _, _, _ => False
  | n + 1, σ, v1, v3, v4 => ((8 < v4 → K124 σ v1 (v3 + 1)) ∧ (¬ 8 < v4 → w_N_X7_ofBand (fun r17 σ16 => u_N_X7_digest_135 post K124 n σ16 ((v1 * 31) + (Int32.toInt64 r17)) v3 (v4 + 1)) σ v3 v4))
set_option maxHeartbeats 4000000 in
set_option maxRecDepth 100000 in
theorem l_N_X7_digest_135 {p : Program} {l : Launch} {e : Env} {s : State} {m : MethodId} {args : Array Value} {below : List Frame} {meth : Method} {c : Code} {D : va_G} {cy : Nat → ClassId} {lay : Nat → Nat} {post : Int64 → MS → Prop} (K124 : MS → Int64 → Int32 → Prop) (hC : CallFix p m c cX7_digest 5 s args wsX7_digest RX7) (hr : meth.sig.returnType = some .long) (hlocks : meth.locks = false) (hT : agT D cy lay s) (hK124 : ∀ (σ : MS) (v1 : Int64) (v3 : Int32), K124 σ v1 v3 → ∀ (H : Heap) (locs : List Loc) (ls : Array Slot), agG D cy lay σ (agA lay s.heap.size) s.heap H locs → lv_has ls 5 [(0, .ref (lay 0)), (1, .long v1), (3, .int v3)] → W p l e rm_N_X7_digest s m args below meth c H locs 0 0 (MQ below (va_Ql post (agO D cy lay) (agA lay s.heap.size)) args s 0 0 (agA lay s.heap.size)) (F0 m 124 ls [])) : ∀ (n : Nat), ∀ (σ : MS) (v1 : Int64) (v3 : Int32) (v4 : Int32), u_N_X7_digest_135 post K124 n σ v1 v3 v4 → ∀ (H : Heap) (locs : List Loc) (ls : Array Slot), agG D cy lay σ (agA lay s.heap.size) s.heap H locs → lv_has ls 5 [(0, .ref (lay 0)), (1, .long v1), (3, .int v3), (4, .int v4)] → W p l e rm_N_X7_digest s m args below meth c H locs 0 0 (MQ below (va_Ql post (agO D cy lay) (agA lay s.heap.size)) args s 0 0 (agA lay s.heap.size)) (F0 m 135 ls []) := by
  intro n
  induction n with
  | zero =>
    intro σ v1 v3 v4 h
    exact h.elim
  | succ n ih =>
    intro σ v1 v3 v4 h H locs ls G hl
    rw [u_N_X7_digest_135] at h
    refine lv_iload hC.1 hC.2.1 dX7_digest_135 (lv_at hl 3 rfl) ?_
    refine lv_bipush (v := 8) hC.1 hC.2.1 dX7_digest_137 (by decide) ?_
    refine lv_icmp_gt (tgt := 163) hC.1 hC.2.1 dX7_digest_139 (by decide) (fun c15 => ?_) (fun c15 => ?_)
    · replace h := h.1 c15
      refine lv_iinc (v := v3 + 1) (lv' := [(3, .int (v3 + 1)), (0, .ref (lay 0)), (1, .long v1), (4, .int v4)]) hC.1 hC.2.1 dX7_digest_163 hl (k := 2) rfl rfl (by decide) rfl (fun ls hl => ?_)
      refine lv_goto (tgt := 124) hC.1 hC.2.1 dX7_digest_166 (by decide) ?_
      exact hK124 _ _ _ h _ _ _ G (lv_sub hl [1, 2, 0] rfl)
    · replace h := h.2 c15
      refine lv_lload_n hC.1 hC.2.1 dX7_digest_142 rfl (lv_at hl 1 rfl) ?_
      refine lv_ldc2 (v := 31) hC.1 hC.2.1 hC.2.2.2.1 (hC.2.2.2.2 _ (wm 2 rfl)) dX7_digest_143 ?_
      refine lv_lmul hC.1 hC.2.1 dX7_digest_146 ?_
      refine lv_aload_n hC.1 hC.2.1 dX7_digest_147 rfl (lv_at hl 0 rfl) ?_
      refine lv_iload_n hC.1 hC.2.1 dX7_digest_148 rfl (lv_at hl 2 rfl) ?_
      refine lv_iload hC.1 hC.2.1 dX7_digest_149 (lv_at hl 3 rfl) ?_
      refine ag_i G (ag_runV (As := [.int v3, .int v4]) (rest := [.long (v1 * 31)]) hC hT G (c_N_X7_ofBand l D cy lay h _) (cwV 2 hC.2.2.2.2 gX7_digest_X7_ofBand rfl rfl rfl hdV_X7_ofBand ⟨Nat.le_of_ble_eq_true rfl, Nat.le_of_ble_eq_true rfl⟩) (ag_recv hT G (by decide) e_ag k_X7) rfl hl.1 rfl (Nat.le_of_ble_eq_true rfl) dX7_digest_151 ⟨Nat.le_of_ble_eq_true rfl, Nat.le_of_ble_eq_true rfl⟩) (fun r17 σ16 H locs h G => ?_)
      (try dsimp only at h)
      refine lv_i2l (v := Int32.toInt64 r17) hC.1 hC.2.1 dX7_digest_154 rfl ?_
      refine lv_ladd hC.1 hC.2.1 dX7_digest_155 ?_
      refine lv_lstore_n (lv' := [(1, .long ((v1 * 31) + (Int32.toInt64 r17))), (0, .ref (lay 0)), (3, .int v3), (4, .int v4)]) hC.1 hC.2.1 dX7_digest_156 rfl hl (by decide) rfl (fun ls hl => ?_)
      refine lv_iinc (v := v4 + 1) (lv' := [(4, .int (v4 + 1)), (1, .long ((v1 * 31) + (Int32.toInt64 r17))), (0, .ref (lay 0)), (3, .int v3)]) hC.1 hC.2.1 dX7_digest_157 hl (k := 3) rfl rfl (by decide) rfl (fun ls hl => ?_)
      refine lv_goto (tgt := 135) hC.1 hC.2.1 dX7_digest_160 (by decide) ?_
      exact ih _ _ _ _ h _ _ _ G (lv_sub hl [2, 1, 3, 0] rfl)
def u_N_X7_digest_124 (post : Int64 → MS → Prop) : Nat → MS → Int64 → Int32 → Prop
  | 0, _, _, _ => False
  | n + 1, σ, v1, v3 => (((σ 0 7) ≤ v3 → (∃ k, u_N_X7_digest_171 post k σ v1 0)) ∧ (¬ (σ 0 7) ≤ v3 → (∃ k, u_N_X7_digest_135 post (fun σ w0 w1 => u_N_X7_digest_124 post n σ w0 w1) k σ v1 v3 0)))
set_option maxHeartbeats 4000000 in
set_option maxRecDepth 100000 in
theorem l_N_X7_digest_124 {p : Program} {l : Launch} {e : Env} {s : State} {m : MethodId} {args : Array Value} {below : List Frame} {meth : Method} {c : Code} {D : va_G} {cy : Nat → ClassId} {lay : Nat → Nat} {post : Int64 → MS → Prop} (hC : CallFix p m c cX7_digest 5 s args wsX7_digest RX7) (hr : meth.sig.returnType = some .long) (hlocks : meth.locks = false) (hT : agT D cy lay s) : ∀ (n : Nat), ∀ (σ : MS) (v1 : Int64) (v3 : Int32), u_N_X7_digest_124 post n σ v1 v3 → ∀ (H : Heap) (locs : List Loc) (ls : Array Slot), agG D cy lay σ (agA lay s.heap.size) s.heap H locs → lv_has ls 5 [(0, .ref (lay 0)), (1, .long v1), (3, .int v3)] → W p l e rm_N_X7_digest s m args below meth c H locs 0 0 (MQ below (va_Ql post (agO D cy lay) (agA lay s.heap.size)) args s 0 0 (agA lay s.heap.size)) (F0 m 124 ls []) := by
  intro n
  induction n with
  | zero =>
    intro σ v1 v3 h
    exact h.elim
  | succ n ih =>
    intro σ v1 v3 h H locs ls G hl
    rw [u_N_X7_digest_124] at h
    refine lv_iload_n hC.1 hC.2.1 dX7_digest_124 rfl (lv_at hl 2 rfl) ?_
    refine lv_aload_n hC.1 hC.2.1 dX7_digest_125 rfl (lv_at hl 0 rfl) ?_
    refine ag_get hC hT G (by decide) e_ag k_X7 i_N_X7_digest_X7 7 (by decide) (wm 4 rfl) rfl dX7_digest_126 ?_
    refine lv_icmp_ge (tgt := 169) hC.1 hC.2.1 dX7_digest_129 (by decide) (fun c4 => ?_) (fun c4 => ?_)
    · replace h := h.1 c4
      refine lv_iconst (v := 0) hC.1 hC.2.1 dX7_digest_169 (by decide) ?_
      refine lv_istore_n (lv' := [(3, .int 0), (0, .ref (lay 0)), (1, .long v1)]) hC.1 hC.2.1 dX7_digest_170 rfl hl (by decide) rfl (fun ls hl => ?_)
      obtain ⟨n1, h⟩ := h
      exact l_N_X7_digest_171 hC hr hlocks hT n1 _ _ _ h _ _ _ G (lv_sub hl [1, 2, 0] rfl)
    · replace h := h.2 c4
      refine lv_iconst (v := 0) hC.1 hC.2.1 dX7_digest_132 (by decide) ?_
      refine lv_istore (lv' := [(4, .int 0), (0, .ref (lay 0)), (1, .long v1), (3, .int v3)]) hC.1 hC.2.1 dX7_digest_133 hl (by decide) rfl (fun ls hl => ?_)
      obtain ⟨n1, h⟩ := h
      exact l_N_X7_digest_135 (fun σ w0 w1 => u_N_X7_digest_124 post n σ w0 w1) hC hr hlocks hT ih n1 _ _ _ _ h _ _ _ G (lv_sub hl [1, 2, 3, 0] rfl)
def u_N_X7_digest_89 (post : Int64 → MS → Prop) (K80 : MS → Int64 → Int32 → Prop) : Nat → MS → Int64 → Int32 → Int32 → Prop
  | 0, _, _, _, _ => False
  | n + 1, σ, v1, v3, v4 => ((5 < v4 → K80 σ v1 (v3 + 1)) ∧ (¬ 5 < v4 → w_N_X7_ofSong (fun r20 σ19 => u_N_X7_digest_89 post K80 n σ19 ((v1 * 31) + (Int32.toInt64 r20)) v3 (v4 + 1)) σ v3 v4))
set_option maxHeartbeats 4000000 in
set_option maxRecDepth 100000 in
theorem l_N_X7_digest_89 {p : Program} {l : Launch} {e : Env} {s : State} {m : MethodId} {args : Array Value} {below : List Frame} {meth : Method} {c : Code} {D : va_G} {cy : Nat → ClassId} {lay : Nat → Nat} {post : Int64 → MS → Prop} (K80 : MS → Int64 → Int32 → Prop) (hC : CallFix p m c cX7_digest 5 s args wsX7_digest RX7) (hr : meth.sig.returnType = some .long) (hlocks : meth.locks = false) (hT : agT D cy lay s) (hK80 : ∀ (σ : MS) (v1 : Int64) (v3 : Int32), K80 σ v1 v3 → ∀ (H : Heap) (locs : List Loc) (ls : Array Slot), agG D cy lay σ (agA lay s.heap.size) s.heap H locs → lv_has ls 5 [(0, .ref (lay 0)), (1, .long v1), (3, .int v3)] → W p l e rm_N_X7_digest s m args below meth c H locs 0 0 (MQ below (va_Ql post (agO D cy lay) (agA lay s.heap.size)) args s 0 0 (agA lay s.heap.size)) (F0 m 80 ls [])) : ∀ (n : Nat), ∀ (σ : MS) (v1 : Int64) (v3 : Int32) (v4 : Int32), u_N_X7_digest_89 post K80 n σ v1 v3 v4 → ∀ (H : Heap) (locs : List Loc) (ls : Array Slot), agG D cy lay σ (agA lay s.heap.size) s.heap H locs → lv_has ls 5 [(0, .ref (lay 0)), (1, .long v1), (3, .int v3), (4, .int v4)] → W p l e rm_N_X7_digest s m args below meth c H locs 0 0 (MQ below (va_Ql post (agO D cy lay) (agA lay s.heap.size)) args s 0 0 (agA lay s.heap.size)) (F0 m 89 ls []) := by
  intro n
  induction n with
  | zero =>
    intro σ v1 v3 v4 h
    exact h.elim
  | succ n ih =>
    intro σ v1 v3 v4 h H locs ls G hl
    rw [u_N_X7_digest_89] at h
    refine lv_iload hC.1 hC.2.1 dX7_digest_89 (lv_at hl 3 rfl) ?_
    refine lv_iconst (v := 5) hC.1 hC.2.1 dX7_digest_91 (by decide) ?_
    refine lv_icmp_gt (tgt := 116) hC.1 hC.2.1 dX7_digest_92 (by decide) (fun c18 => ?_) (fun c18 => ?_)
    · replace h := h.1 c18
      refine lv_iinc (v := v3 + 1) (lv' := [(3, .int (v3 + 1)), (0, .ref (lay 0)), (1, .long v1), (4, .int v4)]) hC.1 hC.2.1 dX7_digest_116 hl (k := 2) rfl rfl (by decide) rfl (fun ls hl => ?_)
      refine lv_goto (tgt := 80) hC.1 hC.2.1 dX7_digest_119 (by decide) ?_
      exact hK80 _ _ _ h _ _ _ G (lv_sub hl [1, 2, 0] rfl)
    · replace h := h.2 c18
      refine lv_lload_n hC.1 hC.2.1 dX7_digest_95 rfl (lv_at hl 1 rfl) ?_
      refine lv_ldc2 (v := 31) hC.1 hC.2.1 hC.2.2.2.1 (hC.2.2.2.2 _ (wm 2 rfl)) dX7_digest_96 ?_
      refine lv_lmul hC.1 hC.2.1 dX7_digest_99 ?_
      refine lv_aload_n hC.1 hC.2.1 dX7_digest_100 rfl (lv_at hl 0 rfl) ?_
      refine lv_iload_n hC.1 hC.2.1 dX7_digest_101 rfl (lv_at hl 2 rfl) ?_
      refine lv_iload hC.1 hC.2.1 dX7_digest_102 (lv_at hl 3 rfl) ?_
      refine ag_i G (ag_runV (As := [.int v3, .int v4]) (rest := [.long (v1 * 31)]) hC hT G (c_N_X7_ofSong l D cy lay h _) (cwV 2 hC.2.2.2.2 gX7_digest_X7_ofSong rfl rfl rfl hdV_X7_ofSong ⟨Nat.le_of_ble_eq_true rfl, Nat.le_of_ble_eq_true rfl⟩) (ag_recv hT G (by decide) e_ag k_X7) rfl hl.1 rfl (Nat.le_of_ble_eq_true rfl) dX7_digest_104 ⟨Nat.le_of_ble_eq_true rfl, Nat.le_of_ble_eq_true rfl⟩) (fun r20 σ19 H locs h G => ?_)
      (try dsimp only at h)
      refine lv_i2l (v := Int32.toInt64 r20) hC.1 hC.2.1 dX7_digest_107 rfl ?_
      refine lv_ladd hC.1 hC.2.1 dX7_digest_108 ?_
      refine lv_lstore_n (lv' := [(1, .long ((v1 * 31) + (Int32.toInt64 r20))), (0, .ref (lay 0)), (3, .int v3), (4, .int v4)]) hC.1 hC.2.1 dX7_digest_109 rfl hl (by decide) rfl (fun ls hl => ?_)
      refine lv_iinc (v := v4 + 1) (lv' := [(4, .int (v4 + 1)), (1, .long ((v1 * 31) + (Int32.toInt64 r20))), (0, .ref (lay 0)), (3, .int v3)]) hC.1 hC.2.1 dX7_digest_110 hl (k := 3) rfl rfl (by decide) rfl (fun ls hl => ?_)
      refine lv_goto (tgt := 89) hC.1 hC.2.1 dX7_digest_113 (by decide) ?_
      exact ih _ _ _ _ h _ _ _ G (lv_sub hl [2, 1, 3, 0] rfl)
def u_N_X7_digest_80 (post : Int64 → MS → Prop) : Nat → MS → Int64 → Int32 → Prop
  | 0, _, _, _ => False
  | n + 1, σ, v1, v3 => ((16 ≤ v3 → (∃ k, u_N_X7_digest_124 post k σ v1 0)) ∧ (¬ 16 ≤ v3 → (∃ k, u_N_X7_digest_89 post (fun σ w0 w1 => u_N_X7_digest_80 post n σ w0 w1) k σ v1 v3 0)))
set_option maxHeartbeats 4000000 in
set_option maxRecDepth 100000 in
theorem l_N_X7_digest_80 {p : Program} {l : Launch} {e : Env} {s : State} {m : MethodId} {args : Array Value} {below : List Frame} {meth : Method} {c : Code} {D : va_G} {cy : Nat → ClassId} {lay : Nat → Nat} {post : Int64 → MS → Prop} (hC : CallFix p m c cX7_digest 5 s args wsX7_digest RX7) (hr : meth.sig.returnType = some .long) (hlocks : meth.locks = false) (hT : agT D cy lay s) : ∀ (n : Nat), ∀ (σ : MS) (v1 : Int64) (v3 : Int32), u_N_X7_digest_80 post n σ v1 v3 → ∀ (H : Heap) (locs : List Loc) (ls : Array Slot), agG D cy lay σ (agA lay s.heap.size) s.heap H locs → lv_has ls 5 [(0, .ref (lay 0)), (1, .long v1), (3, .int v3)] → W p l e rm_N_X7_digest s m args below meth c H locs 0 0 (MQ below (va_Ql post (agO D cy lay) (agA lay s.heap.size)) args s 0 0 (agA lay s.heap.size)) (F0 m 80 ls []) := by
  intro n
  induction n with
  | zero =>
    intro σ v1 v3 h
    exact h.elim
  | succ n ih =>
    intro σ v1 v3 h H locs ls G hl
    rw [u_N_X7_digest_80] at h
    refine lv_iload_n hC.1 hC.2.1 dX7_digest_80 rfl (lv_at hl 2 rfl) ?_
    refine lv_bipush (v := 16) hC.1 hC.2.1 dX7_digest_81 (by decide) ?_
    refine lv_icmp_ge (tgt := 122) hC.1 hC.2.1 dX7_digest_83 (by decide) (fun c3 => ?_) (fun c3 => ?_)
    · replace h := h.1 c3
      refine lv_iconst (v := 0) hC.1 hC.2.1 dX7_digest_122 (by decide) ?_
      refine lv_istore_n (lv' := [(3, .int 0), (0, .ref (lay 0)), (1, .long v1)]) hC.1 hC.2.1 dX7_digest_123 rfl hl (by decide) rfl (fun ls hl => ?_)
      obtain ⟨n1, h⟩ := h
      exact l_N_X7_digest_124 hC hr hlocks hT n1 _ _ _ h _ _ _ G (lv_sub hl [1, 2, 0] rfl)
    · replace h := h.2 c3
      refine lv_iconst (v := 0) hC.1 hC.2.1 dX7_digest_86 (by decide) ?_
      refine lv_istore (lv' := [(4, .int 0), (0, .ref (lay 0)), (1, .long v1), (3, .int v3)]) hC.1 hC.2.1 dX7_digest_87 hl (by decide) rfl (fun ls hl => ?_)
      obtain ⟨n1, h⟩ := h
      exact l_N_X7_digest_89 (fun σ w0 w1 => u_N_X7_digest_80 post n σ w0 w1) hC hr hlocks hT ih n1 _ _ _ _ h _ _ _ G (lv_sub hl [1, 2, 3, 0] rfl)
def u_N_X7_digest_44 (post : Int64 → MS → Prop) (K33 : MS → Int64 → Int32 → Prop) : Nat → MS → Int64 → Int32 → Int32 → Prop
  | 0, _, _, _, _ => False
  | n + 1, σ, v1, v3, v4 => ((8 < v4 → K33 σ v1 (v3 + 1)) ∧ (¬ 8 < v4 → w_N_X7_ofPlayer (fun r23 σ22 => u_N_X7_digest_44 post K33 n σ22 ((v1 * 31) + (Int32.toInt64 r23)) v3 (v4 + 1)) σ v3 v4))
set_option maxHeartbeats 4000000 in
set_option maxRecDepth 100000 in
theorem l_N_X7_digest_44 {p : Program} {l : Launch} {e : Env} {s : State} {m : MethodId} {args : Array Value} {below : List Frame} {meth : Method} {c : Code} {D : va_G} {cy : Nat → ClassId} {lay : Nat → Nat} {post : Int64 → MS → Prop} (K33 : MS → Int64 → Int32 → Prop) (hC : CallFix p m c cX7_digest 5 s args wsX7_digest RX7) (hr : meth.sig.returnType = some .long) (hlocks : meth.locks = false) (hT : agT D cy lay s) (hK33 : ∀ (σ : MS) (v1 : Int64) (v3 : Int32), K33 σ v1 v3 → ∀ (H : Heap) (locs : List Loc) (ls : Array Slot), agG D cy lay σ (agA lay s.heap.size) s.heap H locs → lv_has ls 5 [(0, .ref (lay 0)), (1, .long v1), (3, .int v3)] → W p l e rm_N_X7_digest s m args below meth c H locs 0 0 (MQ below (va_Ql post (agO D cy lay) (agA lay s.heap.size)) args s 0 0 (agA lay s.heap.size)) (F0 m 33 ls [])) : ∀ (n : Nat), ∀ (σ : MS) (v1 : Int64) (v3 : Int32) (v4 : Int32), u_N_X7_digest_44 post K33 n σ v1 v3 v4 → ∀ (H : Heap) (locs : List Loc) (ls : Array Slot), agG D cy lay σ (agA lay s.heap.size) s.heap H locs → lv_has ls 5 [(0, .ref (lay 0)), (1, .long v1), (3, .int v3), (4, .int v4)] → W p l e rm_N_X7_digest s m args below meth c H locs 0 0 (MQ below (va_Ql post (agO D cy lay) (agA lay s.heap.size)) args s 0 0 (agA lay s.heap.size)) (F0 m 44 ls []) := by
  intro n
  induction n with
  | zero =>
    intro σ v1 v3 v4 h
    exact h.elim
  | succ n ih =>
    intro σ v1 v3 v4 h H locs ls G hl
    rw [u_N_X7_digest_44] at h
    refine lv_iload hC.1 hC.2.1 dX7_digest_44 (lv_at hl 3 rfl) ?_
    refine lv_bipush (v := 8) hC.1 hC.2.1 dX7_digest_46 (by decide) ?_
    refine lv_icmp_gt (tgt := 72) hC.1 hC.2.1 dX7_digest_48 (by decide) (fun c21 => ?_) (fun c21 => ?_)
    · replace h := h.1 c21
      refine lv_iinc (v := v3 + 1) (lv' := [(3, .int (v3 + 1)), (0, .ref (lay 0)), (1, .long v1), (4, .int v4)]) hC.1 hC.2.1 dX7_digest_72 hl (k := 2) rfl rfl (by decide) rfl (fun ls hl => ?_)
      refine lv_goto (tgt := 33) hC.1 hC.2.1 dX7_digest_75 (by decide) ?_
      exact hK33 _ _ _ h _ _ _ G (lv_sub hl [1, 2, 0] rfl)
    · replace h := h.2 c21
      refine lv_lload_n hC.1 hC.2.1 dX7_digest_51 rfl (lv_at hl 1 rfl) ?_
      refine lv_ldc2 (v := 31) hC.1 hC.2.1 hC.2.2.2.1 (hC.2.2.2.2 _ (wm 2 rfl)) dX7_digest_52 ?_
      refine lv_lmul hC.1 hC.2.1 dX7_digest_55 ?_
      refine lv_aload_n hC.1 hC.2.1 dX7_digest_56 rfl (lv_at hl 0 rfl) ?_
      refine lv_iload_n hC.1 hC.2.1 dX7_digest_57 rfl (lv_at hl 2 rfl) ?_
      refine lv_iload hC.1 hC.2.1 dX7_digest_58 (lv_at hl 3 rfl) ?_
      refine ag_i G (ag_runV (As := [.int v3, .int v4]) (rest := [.long (v1 * 31)]) hC hT G (c_N_X7_ofPlayer l D cy lay h _) (cwV 2 hC.2.2.2.2 gX7_digest_X7_ofPlayer rfl rfl rfl hdV_X7_ofPlayer ⟨Nat.le_of_ble_eq_true rfl, Nat.le_of_ble_eq_true rfl⟩) (ag_recv hT G (by decide) e_ag k_X7) rfl hl.1 rfl (Nat.le_of_ble_eq_true rfl) dX7_digest_60 ⟨Nat.le_of_ble_eq_true rfl, Nat.le_of_ble_eq_true rfl⟩) (fun r23 σ22 H locs h G => ?_)
      (try dsimp only at h)
      refine lv_i2l (v := Int32.toInt64 r23) hC.1 hC.2.1 dX7_digest_63 rfl ?_
      refine lv_ladd hC.1 hC.2.1 dX7_digest_64 ?_
      refine lv_lstore_n (lv' := [(1, .long ((v1 * 31) + (Int32.toInt64 r23))), (0, .ref (lay 0)), (3, .int v3), (4, .int v4)]) hC.1 hC.2.1 dX7_digest_65 rfl hl (by decide) rfl (fun ls hl => ?_)
      refine lv_iinc (v := v4 + 1) (lv' := [(4, .int (v4 + 1)), (1, .long ((v1 * 31) + (Int32.toInt64 r23))), (0, .ref (lay 0)), (3, .int v3)]) hC.1 hC.2.1 dX7_digest_66 hl (k := 3) rfl rfl (by decide) rfl (fun ls hl => ?_)
      refine lv_goto (tgt := 44) hC.1 hC.2.1 dX7_digest_69 (by decide) ?_
      exact ih _ _ _ _ h _ _ _ G (lv_sub hl [2, 1, 3, 0] rfl)
def u_N_X7_digest_33 (post : Int64 → MS → Prop) : Nat → MS → Int64 → Int32 → Prop
  | 0, _, _, _ => False
  | n + 1, σ, v1, v3 => (((σ 0 6) ≤ v3 → (∃ k, u_N_X7_digest_80 post k σ v1 0)) ∧ (¬ (σ 0 6) ≤ v3 → (∃ k, u_N_X7_digest_44 post (fun σ w0 w1 => u_N_X7_digest_33 post n σ w0 w1) k σ v1 v3 0)))
set_option maxHeartbeats 4000000 in
set_option maxRecDepth 100000 in
theorem l_N_X7_digest_33 {p : Program} {l : Launch} {e : Env} {s : State} {m : MethodId} {args : Array Value} {below : List Frame} {meth : Method} {c : Code} {D : va_G} {cy : Nat → ClassId} {lay : Nat → Nat} {post : Int64 → MS → Prop} (hC : CallFix p m c cX7_digest 5 s args wsX7_digest RX7) (hr : meth.sig.returnType = some .long) (hlocks : meth.locks = false) (hT : agT D cy lay s) : ∀ (n : Nat), ∀ (σ : MS) (v1 : Int64) (v3 : Int32), u_N_X7_digest_33 post n σ v1 v3 → ∀ (H : Heap) (locs : List Loc) (ls : Array Slot), agG D cy lay σ (agA lay s.heap.size) s.heap H locs → lv_has ls 5 [(0, .ref (lay 0)), (1, .long v1), (3, .int v3)] → W p l e rm_N_X7_digest s m args below meth c H locs 0 0 (MQ below (va_Ql post (agO D cy lay) (agA lay s.heap.size)) args s 0 0 (agA lay s.heap.size)) (F0 m 33 ls []) := by
  intro n
  induction n with
  | zero =>
    intro σ v1 v3 h
    exact h.elim
  | succ n ih =>
    intro σ v1 v3 h H locs ls G hl
    rw [u_N_X7_digest_33] at h
    refine lv_iload_n hC.1 hC.2.1 dX7_digest_33 rfl (lv_at hl 2 rfl) ?_
    refine lv_aload_n hC.1 hC.2.1 dX7_digest_34 rfl (lv_at hl 0 rfl) ?_
    refine ag_get hC hT G (by decide) e_ag k_X7 i_N_X7_digest_X7 6 (by decide) (wm 3 rfl) rfl dX7_digest_35 ?_
    refine lv_icmp_ge (tgt := 78) hC.1 hC.2.1 dX7_digest_38 (by decide) (fun c2 => ?_) (fun c2 => ?_)
    · replace h := h.1 c2
      refine lv_iconst (v := 0) hC.1 hC.2.1 dX7_digest_78 (by decide) ?_
      refine lv_istore_n (lv' := [(3, .int 0), (0, .ref (lay 0)), (1, .long v1)]) hC.1 hC.2.1 dX7_digest_79 rfl hl (by decide) rfl (fun ls hl => ?_)
      obtain ⟨n1, h⟩ := h
      exact l_N_X7_digest_80 hC hr hlocks hT n1 _ _ _ h _ _ _ G (lv_sub hl [1, 2, 0] rfl)
    · replace h := h.2 c2
      refine lv_iconst (v := 0) hC.1 hC.2.1 dX7_digest_41 (by decide) ?_
      refine lv_istore (lv' := [(4, .int 0), (0, .ref (lay 0)), (1, .long v1), (3, .int v3)]) hC.1 hC.2.1 dX7_digest_42 hl (by decide) rfl (fun ls hl => ?_)
      obtain ⟨n1, h⟩ := h
      exact l_N_X7_digest_44 (fun σ w0 w1 => u_N_X7_digest_33 post n σ w0 w1) hC hr hlocks hT ih n1 _ _ _ _ h _ _ _ G (lv_sub hl [1, 2, 3, 0] rfl)
def u_N_X7_digest_6 (post : Int64 → MS → Prop) : Nat → MS → Int64 → Int32 → Prop
  | 0, _, _, _ => False
  | n + 1, σ, v1, v3 => ((12 < v3 → (∃ k, u_N_X7_digest_33 post k σ v1 0)) ∧ (¬ 12 < v3 → w_N_X7_desk (fun r25 σ24 => u_N_X7_digest_6 post n σ24 ((v1 * 31) + (Int32.toInt64 r25)) (v3 + 1)) σ v3))
set_option maxHeartbeats 4000000 in
set_option maxRecDepth 100000 in
theorem l_N_X7_digest_6 {p : Program} {l : Launch} {e : Env} {s : State} {m : MethodId} {args : Array Value} {below : List Frame} {meth : Method} {c : Code} {D : va_G} {cy : Nat → ClassId} {lay : Nat → Nat} {post : Int64 → MS → Prop} (hC : CallFix p m c cX7_digest 5 s args wsX7_digest RX7) (hr : meth.sig.returnType = some .long) (hlocks : meth.locks = false) (hT : agT D cy lay s) : ∀ (n : Nat), ∀ (σ : MS) (v1 : Int64) (v3 : Int32), u_N_X7_digest_6 post n σ v1 v3 → ∀ (H : Heap) (locs : List Loc) (ls : Array Slot), agG D cy lay σ (agA lay s.heap.size) s.heap H locs → lv_has ls 5 [(0, .ref (lay 0)), (1, .long v1), (3, .int v3)] → W p l e rm_N_X7_digest s m args below meth c H locs 0 0 (MQ below (va_Ql post (agO D cy lay) (agA lay s.heap.size)) args s 0 0 (agA lay s.heap.size)) (F0 m 6 ls []) := by
  intro n
  induction n with
  | zero =>
    intro σ v1 v3 h
    exact h.elim
  | succ n ih =>
    intro σ v1 v3 h H locs ls G hl
    rw [u_N_X7_digest_6] at h
    refine lv_iload_n hC.1 hC.2.1 dX7_digest_6 rfl (lv_at hl 2 rfl) ?_
    refine lv_bipush (v := 12) hC.1 hC.2.1 dX7_digest_7 (by decide) ?_
    refine lv_icmp_gt (tgt := 31) hC.1 hC.2.1 dX7_digest_9 (by decide) (fun c1 => ?_) (fun c1 => ?_)
    · replace h := h.1 c1
      refine lv_iconst (v := 0) hC.1 hC.2.1 dX7_digest_31 (by decide) ?_
      refine lv_istore_n (lv' := [(3, .int 0), (0, .ref (lay 0)), (1, .long v1)]) hC.1 hC.2.1 dX7_digest_32 rfl hl (by decide) rfl (fun ls hl => ?_)
      obtain ⟨n1, h⟩ := h
      exact l_N_X7_digest_33 hC hr hlocks hT n1 _ _ _ h _ _ _ G (lv_sub hl [1, 2, 0] rfl)
    · replace h := h.2 c1
      refine lv_lload_n hC.1 hC.2.1 dX7_digest_12 rfl (lv_at hl 1 rfl) ?_
      refine lv_ldc2 (v := 31) hC.1 hC.2.1 hC.2.2.2.1 (hC.2.2.2.2 _ (wm 2 rfl)) dX7_digest_13 ?_
      refine lv_lmul hC.1 hC.2.1 dX7_digest_16 ?_
      refine lv_aload_n hC.1 hC.2.1 dX7_digest_17 rfl (lv_at hl 0 rfl) ?_
      refine lv_iload_n hC.1 hC.2.1 dX7_digest_18 rfl (lv_at hl 2 rfl) ?_
      refine ag_i G (ag_runV (As := [.int v3]) (rest := [.long (v1 * 31)]) hC hT G (c_N_X7_desk l D cy lay h _) (cwV 1 hC.2.2.2.2 gX7_digest_X7_desk rfl rfl rfl hdV_X7_desk ⟨Nat.le_of_ble_eq_true rfl, Nat.le_of_ble_eq_true rfl⟩) (ag_recv hT G (by decide) e_ag k_X7) rfl hl.1 rfl (Nat.le_of_ble_eq_true rfl) dX7_digest_19 ⟨Nat.le_of_ble_eq_true rfl, Nat.le_of_ble_eq_true rfl⟩) (fun r25 σ24 H locs h G => ?_)
      (try dsimp only at h)
      refine lv_i2l (v := Int32.toInt64 r25) hC.1 hC.2.1 dX7_digest_22 rfl ?_
      refine lv_ladd hC.1 hC.2.1 dX7_digest_23 ?_
      refine lv_lstore_n (lv' := [(1, .long ((v1 * 31) + (Int32.toInt64 r25))), (0, .ref (lay 0)), (3, .int v3)]) hC.1 hC.2.1 dX7_digest_24 rfl hl (by decide) rfl (fun ls hl => ?_)
      refine lv_iinc (v := v3 + 1) (lv' := [(3, .int (v3 + 1)), (1, .long ((v1 * 31) + (Int32.toInt64 r25))), (0, .ref (lay 0))]) hC.1 hC.2.1 dX7_digest_25 hl (k := 2) rfl rfl (by decide) rfl (fun ls hl => ?_)
      refine lv_goto (tgt := 6) hC.1 hC.2.1 dX7_digest_28 (by decide) ?_
      exact ih _ _ _ h _ _ _ G (lv_sub hl [2, 1, 0] rfl)
def w_N_X7_digest (post : Int64 → MS → Prop) (σ : MS) : Prop := (∃ k, u_N_X7_digest_6 post k σ 58278 0)
set_option maxHeartbeats 4000000 in
set_option maxRecDepth 100000 in
theorem c_N_X7_digest (l : Launch) (D : va_G) (cy : Nat → ClassId) (lay : Nat → Nat) {σ : MS} {post : Int64 → MS → Prop} (h : w_N_X7_digest post σ) (sz : Nat) : Met l yX7_digest wsX7_digest rm_N_X7_digest (va_Pc [.ref (lay 0)] (agI D cy lay σ sz)) (va_Ql post (agO D cy lay) (agA lay sz)) 0 0 (agA lay sz) := by
  refine ag_ofW (cc := cX7_digest) (maxL := 5) (ret := some .long) (own := RX7) (Qc := fun sz => va_Ql post (agO D cy lay) (agA lay sz)) (by decide) rfl (Nat.le_of_ble_eq_true rfl) rfl ?_
  intro p e s m args below meth c ls hC hr hlocks hT G hl
  unfold w_N_X7_digest at h
  have hl : lv_has ls 5 [(0, .ref (lay 0))] := hl
  refine lv_ldc2 (v := 58278) hC.1 hC.2.1 hC.2.2.2.1 (hC.2.2.2.2 _ (wm 1 rfl)) dX7_digest_0 ?_
  refine lv_lstore_n (lv' := [(1, .long 58278), (0, .ref (lay 0))]) hC.1 hC.2.1 dX7_digest_3 rfl hl (by decide) rfl (fun ls hl => ?_)
  refine lv_iconst (v := 0) hC.1 hC.2.1 dX7_digest_4 (by decide) ?_
  refine lv_istore_n (lv' := [(3, .int 0), (1, .long 58278), (0, .ref (lay 0))]) hC.1 hC.2.1 dX7_digest_5 rfl hl (by decide) rfl (fun ls hl => ?_)
  obtain ⟨n1, h⟩ := h
  exact l_N_X7_digest_6 hC hr hlocks hT n1 _ _ _ h _ _ _ G (lv_sub hl [2, 1, 0] rfl)
theorem hdV_X7_digest : yX7_digest.cls = RX7 ∧ yX7_digest.cls ≠ "java/lang/invoke/MethodHandle" ∧ yX7_digest.cls ≠ "java/lang/invoke/VarHandle" ∧ (parseMethodDescriptor yX7_digest.desc).map (fun d => d.parameters.length) = some 0 := by decide +kernel
abbrev rm_N_X7_player : Room := { frames := 1, cells := 0, slots := 0, locals := 20 }
theorem i_N_X7_player_X7 : ∀ w ∈ wsX70, w ∈ wsX7_player := fun _ h => List.mem_cons_of_mem _ (List.mem_append_left _ (List.mem_append_left _ (List.mem_append_left _ (List.mem_append_left _ (List.mem_append_right _ h)))))
theorem i_N_X7_player_X3 : ∀ w ∈ wsX30, w ∈ wsX7_player := fun _ h => List.mem_cons_of_mem _ (List.mem_append_left _ (List.mem_append_left _ (List.mem_append_left _ (List.mem_append_right _ h))))
def u_N_X7_player_48 (post : Int32 → MS → Prop) (a1 : Int32) (a2 : Int32) (a3 : Int32) (a4 : Int32) (σ : MS) : Prop := False
set_option maxHeartbeats 4000000 in
set_option maxRecDepth 100000 in
theorem l_N_X7_player_48 {p : Program} {l : Launch} {e : Env} {s : State} {m : MethodId} {args : Array Value} {below : List Frame} {meth : Method} {c : Code} {D : va_G} {cy : Nat → ClassId} {lay : Nat → Nat} {post : Int32 → MS → Prop} (a1 : Int32) (a2 : Int32) (a3 : Int32) (a4 : Int32) (hC : CallFix p m c cX7_player 6 s args wsX7_player RX7) (hr : meth.sig.returnType = some .int) (hlocks : meth.locks = false) (hT : agT D cy lay s) : ∀ (σ : MS), u_N_X7_player_48 post a1 a2 a3 a4 σ → ∀ (H : Heap) (locs : List Loc) (ls : Array Slot), agG D cy lay σ (agA lay s.heap.size) s.heap H locs → lv_has ls 6 [(0, .ref (lay 0)), (1, .int a1), (2, .int a2), (3, .int a3), (4, .int a4)] → W p l e rm_N_X7_player s m args below meth c H locs 0 0 (MQ below (va_Qi post (agO D cy lay) (agA lay s.heap.size)) args s 0 0 (agA lay s.heap.size)) (F0 m 48 ls []) := by
  intro σ h H locs ls G hl
  unfold u_N_X7_player_48 at h
  exact h.elim
def w_N_X7_player (post : Int32 → MS → Prop) (σ : MS) (a1 : Int32) (a2 : Int32) (a3 : Int32) (a4 : Int32) : Prop := w_X7_isTown (fun r2 σ1 => ((r2 = 0 → False) ∧ (¬ r2 = 0 → ((a1 < 1 → u_N_X7_player_48 post a1 a2 a3 a4 σ1) ∧ (¬ a1 < 1 → ((64 ≤ a1 → u_N_X7_player_48 post a1 a2 a3 a4 σ1) ∧ (¬ 64 ≤ a1 → w_X7_isSetOfSongs (fun r7 σ6 => ((r7 = 0 → u_N_X7_player_48 post a1 a2 a3 a4 σ6) ∧ (¬ r7 = 0 → ((a4 < 1 → u_N_X7_player_48 post a1 a2 a3 a4 σ6) ∧ (¬ a4 < 1 → ((a4 ≤ 99 → (((σ6 0 6) < 10 → (vp_in (σ6 0 6) 10 ∧ (∀ y13 : Int32, y13 = (up2 (up2 (up2 (up2 σ6 (29 + (Int32.toNatClampNeg (σ6 0 6))) 0 a1) (29 + (Int32.toNatClampNeg (σ6 0 6))) 1 a2) (29 + (Int32.toNatClampNeg (σ6 0 6))) 2 a3) (29 + (Int32.toNatClampNeg (σ6 0 6))) 3 a4) 0 6 → (∀ y14 : Int32, y14 = (up2 (up2 (up2 (up2 (up2 σ6 (29 + (Int32.toNatClampNeg (σ6 0 6))) 0 a1) (29 + (Int32.toNatClampNeg (σ6 0 6))) 1 a2) (29 + (Int32.toNatClampNeg (σ6 0 6))) 2 a3) (29 + (Int32.toNatClampNeg (σ6 0 6))) 3 a4) 0 6 (y13 + 1)) 0 6 → post (y14 - 1) (up2 (up2 (up2 (up2 (up2 σ6 (29 + (Int32.toNatClampNeg (σ6 0 6))) 0 a1) (29 + (Int32.toNatClampNeg (σ6 0 6))) 1 a2) (29 + (Int32.toNatClampNeg (σ6 0 6))) 2 a3) (29 + (Int32.toNatClampNeg (σ6 0 6))) 3 a4) 0 6 (y13 + 1)))))) ∧ (¬ (σ6 0 6) < 10 → False))) ∧ (¬ a4 ≤ 99 → u_N_X7_player_48 post a1 a2 a3 a4 σ6))))))) σ1 a2))))))) σ a3
set_option maxHeartbeats 4000000 in
set_option maxRecDepth 100000 in
theorem c_N_X7_player (l : Launch) (D : va_G) (cy : Nat → ClassId) (lay : Nat → Nat) {σ : MS} {post : Int32 → MS → Prop} {a1 : Int32} {a2 : Int32} {a3 : Int32} {a4 : Int32} (h : w_N_X7_player post σ a1 a2 a3 a4) (sz : Nat) : Met l yX7_player wsX7_player rm_N_X7_player (va_Pc [.ref (lay 0), .int a1, .int a2, .int a3, .int a4] (agI D cy lay σ sz)) (va_Qi post (agO D cy lay) (agA lay sz)) 0 0 (agA lay sz) := by
  refine ag_ofW (cc := cX7_player) (maxL := 6) (ret := some .int) (own := RX7) (Qc := fun sz => va_Qi post (agO D cy lay) (agA lay sz)) (by decide) rfl (Nat.le_of_ble_eq_true rfl) rfl ?_
  intro p e s m args below meth c ls hC hr hlocks hT G hl
  unfold w_N_X7_player at h
  have hl : lv_has ls 6 [(0, .ref (lay 0)), (1, .int a1), (2, .int a2), (3, .int a3), (4, .int a4)] := hl
  refine lv_iload_n hC.1 hC.2.1 dX7_player_0 rfl (lv_at hl 3 rfl) ?_
  refine ag_i G (ag_runS (As := [.int a3]) (rest := []) hC hT G (c_X7_isTown l D cy lay h _) (va_cwS 1 hC.2.2.2.2 gX7_player_X7_isTown rfl rfl rfl hdS_X7_isTown ⟨Nat.le_of_ble_eq_true rfl, Nat.le_of_ble_eq_true rfl⟩) rfl hl.1 rfl (Nat.le_of_ble_eq_true rfl) dX7_player_1 ⟨Nat.le_of_ble_eq_true rfl, Nat.le_of_ble_eq_true rfl⟩) (fun r2 σ1 H locs h G => ?_)
  (try dsimp only at h)
  refine lv_if_ne (tgt := 17) hC.1 hC.2.1 dX7_player_4 (by decide) (fun c3 => ?_) (fun c3 => ?_)
  · replace h := h.2 c3
    refine lv_iload_n hC.1 hC.2.1 dX7_player_17 rfl (lv_at hl 1 rfl) ?_
    refine lv_iconst (v := 1) hC.1 hC.2.1 dX7_player_18 (by decide) ?_
    refine lv_icmp_lt (tgt := 48) hC.1 hC.2.1 dX7_player_19 (by decide) (fun c4 => ?_) (fun c4 => ?_)
    · replace h := h.1 c4
      exact l_N_X7_player_48 a1 a2 a3 a4 hC hr hlocks hT _ h _ _ _ G (lv_sub hl [0, 1, 2, 3, 4] rfl)
    · replace h := h.2 c4
      refine lv_iload_n hC.1 hC.2.1 dX7_player_22 rfl (lv_at hl 1 rfl) ?_
      refine lv_bipush (v := 64) hC.1 hC.2.1 dX7_player_23 (by decide) ?_
      refine lv_icmp_ge (tgt := 48) hC.1 hC.2.1 dX7_player_25 (by decide) (fun c5 => ?_) (fun c5 => ?_)
      · replace h := h.1 c5
        exact l_N_X7_player_48 a1 a2 a3 a4 hC hr hlocks hT _ h _ _ _ G (lv_sub hl [0, 1, 2, 3, 4] rfl)
      · replace h := h.2 c5
        refine lv_iload_n hC.1 hC.2.1 dX7_player_28 rfl (lv_at hl 2 rfl) ?_
        refine ag_i G (ag_runS (As := [.int a2]) (rest := []) hC hT G (c_X7_isSetOfSongs l D cy lay h _) (va_cwS 1 hC.2.2.2.2 gX7_player_X7_isSetOfSongs rfl rfl rfl hdS_X7_isSetOfSongs ⟨Nat.le_of_ble_eq_true rfl, Nat.le_of_ble_eq_true rfl⟩) rfl hl.1 rfl (Nat.le_of_ble_eq_true rfl) dX7_player_29 ⟨Nat.le_of_ble_eq_true rfl, Nat.le_of_ble_eq_true rfl⟩) (fun r7 σ6 H locs h G => ?_)
        (try dsimp only at h)
        refine lv_if_eq (tgt := 48) hC.1 hC.2.1 dX7_player_32 (by decide) (fun c8 => ?_) (fun c8 => ?_)
        · replace h := h.1 c8
          exact l_N_X7_player_48 a1 a2 a3 a4 hC hr hlocks hT _ h _ _ _ G (lv_sub hl [0, 1, 2, 3, 4] rfl)
        · replace h := h.2 c8
          refine lv_iload hC.1 hC.2.1 dX7_player_35 (lv_at hl 4 rfl) ?_
          refine lv_iconst (v := 1) hC.1 hC.2.1 dX7_player_37 (by decide) ?_
          refine lv_icmp_lt (tgt := 48) hC.1 hC.2.1 dX7_player_38 (by decide) (fun c9 => ?_) (fun c9 => ?_)
          · replace h := h.1 c9
            exact l_N_X7_player_48 a1 a2 a3 a4 hC hr hlocks hT _ h _ _ _ G (lv_sub hl [0, 1, 2, 3, 4] rfl)
          · replace h := h.2 c9
            refine lv_iload hC.1 hC.2.1 dX7_player_41 (lv_at hl 4 rfl) ?_
            refine lv_bipush (v := 99) hC.1 hC.2.1 dX7_player_43 (by decide) ?_
            refine lv_icmp_le (tgt := 58) hC.1 hC.2.1 dX7_player_45 (by decide) (fun c10 => ?_) (fun c10 => ?_)
            · replace h := h.1 c10
              refine lv_aload_n hC.1 hC.2.1 dX7_player_58 rfl (lv_at hl 0 rfl) ?_
              refine ag_get hC hT G (by decide) e_ag k_X7 i_N_X7_player_X7 6 (by decide) (wm 7 rfl) rfl dX7_player_59 ?_
              refine lv_bipush (v := 10) hC.1 hC.2.1 dX7_player_62 (by decide) ?_
              refine lv_icmp_lt (tgt := 77) hC.1 hC.2.1 dX7_player_64 (by decide) (fun c11 => ?_) (fun c11 => ?_)
              · replace h := h.1 c11
                refine lv_aload_n hC.1 hC.2.1 dX7_player_77 rfl (lv_at hl 0 rfl) ?_
                refine ag_get hC hT G (by decide) e_ag k_X7 i_N_X7_player_X7 0 (by decide) (wm 8 rfl) rfl dX7_player_78 ?_
                refine lv_aload_n hC.1 hC.2.1 dX7_player_81 rfl (lv_at hl 0 rfl) ?_
                refine ag_get hC hT G (by decide) e_ag k_X7 i_N_X7_player_X7 6 (by decide) (wm 7 rfl) rfl dX7_player_82 ?_
                obtain ⟨hn12, h⟩ := h
                refine ag_aald hC hT G (by decide) _ rfl e_pls hn12 dX7_player_85 ?_
                refine lv_astore (lv' := [(5, .ref (lay (29 + (Int32.toNatClampNeg (σ6 0 6))))), (0, .ref (lay 0)), (1, .int a1), (2, .int a2), (3, .int a3), (4, .int a4)]) hC.1 hC.2.1 dX7_player_86 hl (by decide) rfl (fun ls hl => ?_)
                refine lv_aload hC.1 hC.2.1 dX7_player_88 (lv_at hl 0 rfl) ?_
                refine lv_iload_n hC.1 hC.2.1 dX7_player_90 rfl (lv_at hl 2 rfl) ?_
                refine ag_put hC hT G (k_pl (vlt hn12)) (e_pl (vlt hn12)) k_X3 i_N_X7_player_X3 0 (by decide) (wm 9 rfl) rfl rfl (by simp) (e_pl (vlt hn12)) rfl dX7_player_91 (fun H locs G => ?_)
                refine lv_aload hC.1 hC.2.1 dX7_player_94 (lv_at hl 0 rfl) ?_
                refine lv_iload_n hC.1 hC.2.1 dX7_player_96 rfl (lv_at hl 3 rfl) ?_
                refine ag_put hC hT G (k_pl (vlt hn12)) (e_pl (vlt hn12)) k_X3 i_N_X7_player_X3 1 (by decide) (wm 10 rfl) rfl rfl (by simp) (e_pl (vlt hn12)) rfl dX7_player_97 (fun H locs G => ?_)
                refine lv_aload hC.1 hC.2.1 dX7_player_100 (lv_at hl 0 rfl) ?_
                refine lv_iload_n hC.1 hC.2.1 dX7_player_102 rfl (lv_at hl 4 rfl) ?_
                refine ag_put hC hT G (k_pl (vlt hn12)) (e_pl (vlt hn12)) k_X3 i_N_X7_player_X3 2 (by decide) (wm 11 rfl) rfl rfl (by simp) (e_pl (vlt hn12)) rfl dX7_player_103 (fun H locs G => ?_)
                refine lv_aload hC.1 hC.2.1 dX7_player_106 (lv_at hl 0 rfl) ?_
                refine lv_iload hC.1 hC.2.1 dX7_player_108 (lv_at hl 5 rfl) ?_
                refine ag_put hC hT G (k_pl (vlt hn12)) (e_pl (vlt hn12)) k_X3 i_N_X7_player_X3 3 (by decide) (wm 12 rfl) rfl rfl (by simp) (e_pl (vlt hn12)) rfl dX7_player_110 (fun H locs G => ?_)
                refine lv_aload_n hC.1 hC.2.1 dX7_player_113 rfl (lv_at hl 1 rfl) ?_
                refine lv_dup hC.1 hC.2.1 dX7_player_114 rfl ?_
                refine ag_get hC hT G (by decide) e_ag k_X7 i_N_X7_player_X7 6 (by decide) (wm 7 rfl) rfl dX7_player_115 ?_
                refine lv_topi (fun y13 ey13 => ?_)
                replace h := h y13 ey13
                refine lv_iconst (v := 1) hC.1 hC.2.1 dX7_player_118 (by decide) ?_
                refine lv_iadd hC.1 hC.2.1 dX7_player_119 ?_
                refine ag_put hC hT G (by decide) e_ag k_X7 i_N_X7_player_X7 6 (by decide) (wm 7 rfl) rfl rfl (by simp) e_ag rfl dX7_player_120 (fun H locs G => ?_)
                refine lv_aload_n hC.1 hC.2.1 dX7_player_123 rfl (lv_at hl 1 rfl) ?_
                refine ag_get hC hT G (by decide) e_ag k_X7 i_N_X7_player_X7 6 (by decide) (wm 7 rfl) rfl dX7_player_124 ?_
                refine lv_topi (fun y14 ey14 => ?_)
                replace h := h y14 ey14
                refine lv_iconst (v := 1) hC.1 hC.2.1 dX7_player_127 (by decide) ?_
                refine lv_isub hC.1 hC.2.1 dX7_player_128 ?_
                exact ag_iret hC hr hlocks G h dX7_player_129
              · replace h := h.2 c11
                exact h.elim
            · replace h := h.2 c10
              exact l_N_X7_player_48 a1 a2 a3 a4 hC hr hlocks hT _ h _ _ _ G (lv_sub hl [0, 1, 2, 3, 4] rfl)
  · replace h := h.1 c3
    exact h.elim
theorem hdV_X7_player : yX7_player.cls = RX7 ∧ yX7_player.cls ≠ "java/lang/invoke/MethodHandle" ∧ yX7_player.cls ≠ "java/lang/invoke/VarHandle" ∧ (parseMethodDescriptor yX7_player.desc).map (fun d => d.parameters.length) = some 4 := by decide +kernel
abbrev rm_N_X7_song : Room := { frames := 1, cells := 0, slots := 0, locals := 20 }
theorem i_N_X7_song_X7 : ∀ w ∈ wsX70, w ∈ wsX7_song := fun _ h => List.mem_cons_of_mem _ (List.mem_append_left _ (List.mem_append_left _ (List.mem_append_left _ (List.mem_append_right _ h))))
theorem i_N_X7_song_X5 : ∀ w ∈ wsX50, w ∈ wsX7_song := fun _ h => List.mem_cons_of_mem _ (List.mem_append_left _ (List.mem_append_left _ (List.mem_append_right _ h)))
def u_N_X7_song_37 (post : Int32 → MS → Prop) (a1 : Int32) (a2 : Int32) (a3 : Int32) (a4 : Int32) (σ : MS) : Prop := False
set_option maxHeartbeats 4000000 in
set_option maxRecDepth 100000 in
theorem l_N_X7_song_37 {p : Program} {l : Launch} {e : Env} {s : State} {m : MethodId} {args : Array Value} {below : List Frame} {meth : Method} {c : Code} {D : va_G} {cy : Nat → ClassId} {lay : Nat → Nat} {post : Int32 → MS → Prop} (a1 : Int32) (a2 : Int32) (a3 : Int32) (a4 : Int32) (hC : CallFix p m c cX7_song 7 s args wsX7_song RX7) (hr : meth.sig.returnType = some .int) (hlocks : meth.locks = false) (hT : agT D cy lay s) : ∀ (σ : MS), u_N_X7_song_37 post a1 a2 a3 a4 σ → ∀ (H : Heap) (locs : List Loc) (ls : Array Slot), agG D cy lay σ (agA lay s.heap.size) s.heap H locs → lv_has ls 7 [(0, .ref (lay 0)), (1, .int a1), (2, .int a2), (3, .int a3), (4, .int a4)] → W p l e rm_N_X7_song s m args below meth c H locs 0 0 (MQ below (va_Qi post (agO D cy lay) (agA lay s.heap.size)) args s 0 0 (agA lay s.heap.size)) (F0 m 37 ls []) := by
  intro σ h H locs ls G hl
  unfold u_N_X7_song_37 at h
  exact h.elim
def w_N_X7_song (post : Int32 → MS → Prop) (σ : MS) (a1 : Int32) (a2 : Int32) (a3 : Int32) (a4 : Int32) : Prop := w_N_X7_checkSong (fun σ1 => ((a2 < 0 → u_N_X7_song_37 post a1 a2 a3 a4 σ1) ∧ (¬ a2 < 0 → ((12 ≤ a2 → u_N_X7_song_37 post a1 a2 a3 a4 σ1) ∧ (¬ 12 ≤ a2 → ((a3 < 0 → u_N_X7_song_37 post a1 a2 a3 a4 σ1) ∧ (¬ a3 < 0 → ((10 ≤ a3 → u_N_X7_song_37 post a1 a2 a3 a4 σ1) ∧ (¬ 10 ≤ a3 → ((a4 < 2 → u_N_X7_song_37 post a1 a2 a3 a4 σ1) ∧ (¬ a4 < 2 → ((a4 ≤ 9 → (vp_in a1 16 ∧ post (σ1 (39 + (Int32.toNatClampNeg a1)) 2) (up2 (up2 (up2 σ1 (39 + (Int32.toNatClampNeg a1)) 0 a2) (39 + (Int32.toNatClampNeg a1)) 1 a3) (39 + (Int32.toNatClampNeg a1)) 2 a4))) ∧ (¬ a4 ≤ 9 → u_N_X7_song_37 post a1 a2 a3 a4 σ1))))))))))))) σ a1
set_option maxHeartbeats 4000000 in
set_option maxRecDepth 100000 in
theorem c_N_X7_song (l : Launch) (D : va_G) (cy : Nat → ClassId) (lay : Nat → Nat) {σ : MS} {post : Int32 → MS → Prop} {a1 : Int32} {a2 : Int32} {a3 : Int32} {a4 : Int32} (h : w_N_X7_song post σ a1 a2 a3 a4) (sz : Nat) : Met l yX7_song wsX7_song rm_N_X7_song (va_Pc [.ref (lay 0), .int a1, .int a2, .int a3, .int a4] (agI D cy lay σ sz)) (va_Qi post (agO D cy lay) (agA lay sz)) 0 0 (agA lay sz) := by
  refine ag_ofW (cc := cX7_song) (maxL := 7) (ret := some .int) (own := RX7) (Qc := fun sz => va_Qi post (agO D cy lay) (agA lay sz)) (by decide) rfl (Nat.le_of_ble_eq_true rfl) rfl ?_
  intro p e s m args below meth c ls hC hr hlocks hT G hl
  unfold w_N_X7_song at h
  have hl : lv_has ls 7 [(0, .ref (lay 0)), (1, .int a1), (2, .int a2), (3, .int a3), (4, .int a4)] := hl
  refine lv_iload_n hC.1 hC.2.1 dX7_song_0 rfl (lv_at hl 1 rfl) ?_
  refine ag_v G (ag_runS (As := [.int a1]) (rest := []) hC hT G (c_N_X7_checkSong l D cy lay h _) (va_cwS 1 hC.2.2.2.2 gX7_song_X7_checkSong rfl rfl rfl hdS_X7_checkSong ⟨Nat.le_of_ble_eq_true rfl, Nat.le_of_ble_eq_true rfl⟩) rfl hl.1 rfl (Nat.le_of_ble_eq_true rfl) dX7_song_1 ⟨Nat.le_of_ble_eq_true rfl, Nat.le_of_ble_eq_true rfl⟩) (fun σ1 H locs h G => ?_)
  (try dsimp only at h)
  refine lv_iload_n hC.1 hC.2.1 dX7_song_4 rfl (lv_at hl 2 rfl) ?_
  refine lv_if_lt (tgt := 37) hC.1 hC.2.1 dX7_song_5 (by decide) (fun c2 => ?_) (fun c2 => ?_)
  · replace h := h.1 c2
    exact l_N_X7_song_37 a1 a2 a3 a4 hC hr hlocks hT _ h _ _ _ G (lv_sub hl [0, 1, 2, 3, 4] rfl)
  · replace h := h.2 c2
    refine lv_iload_n hC.1 hC.2.1 dX7_song_8 rfl (lv_at hl 2 rfl) ?_
    refine lv_bipush (v := 12) hC.1 hC.2.1 dX7_song_9 (by decide) ?_
    refine lv_icmp_ge (tgt := 37) hC.1 hC.2.1 dX7_song_11 (by decide) (fun c3 => ?_) (fun c3 => ?_)
    · replace h := h.1 c3
      exact l_N_X7_song_37 a1 a2 a3 a4 hC hr hlocks hT _ h _ _ _ G (lv_sub hl [0, 1, 2, 3, 4] rfl)
    · replace h := h.2 c3
      refine lv_iload_n hC.1 hC.2.1 dX7_song_14 rfl (lv_at hl 3 rfl) ?_
      refine lv_if_lt (tgt := 37) hC.1 hC.2.1 dX7_song_15 (by decide) (fun c4 => ?_) (fun c4 => ?_)
      · replace h := h.1 c4
        exact l_N_X7_song_37 a1 a2 a3 a4 hC hr hlocks hT _ h _ _ _ G (lv_sub hl [0, 1, 2, 3, 4] rfl)
      · replace h := h.2 c4
        refine lv_iload_n hC.1 hC.2.1 dX7_song_18 rfl (lv_at hl 3 rfl) ?_
        refine lv_bipush (v := 10) hC.1 hC.2.1 dX7_song_19 (by decide) ?_
        refine lv_icmp_ge (tgt := 37) hC.1 hC.2.1 dX7_song_21 (by decide) (fun c5 => ?_) (fun c5 => ?_)
        · replace h := h.1 c5
          exact l_N_X7_song_37 a1 a2 a3 a4 hC hr hlocks hT _ h _ _ _ G (lv_sub hl [0, 1, 2, 3, 4] rfl)
        · replace h := h.2 c5
          refine lv_iload hC.1 hC.2.1 dX7_song_24 (lv_at hl 4 rfl) ?_
          refine lv_iconst (v := 2) hC.1 hC.2.1 dX7_song_26 (by decide) ?_
          refine lv_icmp_lt (tgt := 37) hC.1 hC.2.1 dX7_song_27 (by decide) (fun c6 => ?_) (fun c6 => ?_)
          · replace h := h.1 c6
            exact l_N_X7_song_37 a1 a2 a3 a4 hC hr hlocks hT _ h _ _ _ G (lv_sub hl [0, 1, 2, 3, 4] rfl)
          · replace h := h.2 c6
            refine lv_iload hC.1 hC.2.1 dX7_song_30 (lv_at hl 4 rfl) ?_
            refine lv_bipush (v := 9) hC.1 hC.2.1 dX7_song_32 (by decide) ?_
            refine lv_icmp_le (tgt := 47) hC.1 hC.2.1 dX7_song_34 (by decide) (fun c7 => ?_) (fun c7 => ?_)
            · replace h := h.1 c7
              refine lv_aload_n hC.1 hC.2.1 dX7_song_47 rfl (lv_at hl 0 rfl) ?_
              refine ag_get hC hT G (by decide) e_ag k_X7 i_N_X7_song_X7 1 (by decide) (wm 3 rfl) rfl dX7_song_48 ?_
              refine lv_iload_n hC.1 hC.2.1 dX7_song_51 rfl (lv_at hl 1 rfl) ?_
              obtain ⟨hn8, h⟩ := h
              refine ag_aald hC hT G (by decide) _ rfl e_sgs hn8 dX7_song_52 ?_
              refine lv_astore (lv' := [(5, .ref (lay (39 + (Int32.toNatClampNeg a1)))), (0, .ref (lay 0)), (1, .int a1), (2, .int a2), (3, .int a3), (4, .int a4)]) hC.1 hC.2.1 dX7_song_53 hl (by decide) rfl (fun ls hl => ?_)
              refine lv_aload hC.1 hC.2.1 dX7_song_55 (lv_at hl 0 rfl) ?_
              refine ag_get hC hT G (k_sg (vlt hn8)) (e_sg (vlt hn8)) k_X5 i_N_X7_song_X5 2 (by decide) (wm 4 rfl) rfl dX7_song_57 ?_
              refine lv_istore (lv' := [(6, .int (σ1 (39 + (Int32.toNatClampNeg a1)) 2)), (5, .ref (lay (39 + (Int32.toNatClampNeg a1)))), (0, .ref (lay 0)), (1, .int a1), (2, .int a2), (3, .int a3), (4, .int a4)]) hC.1 hC.2.1 dX7_song_60 hl (by decide) rfl (fun ls hl => ?_)
              refine lv_aload hC.1 hC.2.1 dX7_song_62 (lv_at hl 1 rfl) ?_
              refine lv_iload_n hC.1 hC.2.1 dX7_song_64 rfl (lv_at hl 4 rfl) ?_
              refine ag_put hC hT G (k_sg (vlt hn8)) (e_sg (vlt hn8)) k_X5 i_N_X7_song_X5 0 (by decide) (wm 5 rfl) rfl rfl (by simp) (e_sg (vlt hn8)) rfl dX7_song_65 (fun H locs G => ?_)
              refine lv_aload hC.1 hC.2.1 dX7_song_68 (lv_at hl 1 rfl) ?_
              refine lv_iload_n hC.1 hC.2.1 dX7_song_70 rfl (lv_at hl 5 rfl) ?_
              refine ag_put hC hT G (k_sg (vlt hn8)) (e_sg (vlt hn8)) k_X5 i_N_X7_song_X5 1 (by decide) (wm 6 rfl) rfl rfl (by simp) (e_sg (vlt hn8)) rfl dX7_song_71 (fun H locs G => ?_)
              refine lv_aload hC.1 hC.2.1 dX7_song_74 (lv_at hl 1 rfl) ?_
              refine lv_iload hC.1 hC.2.1 dX7_song_76 (lv_at hl 6 rfl) ?_
              refine ag_put hC hT G (k_sg (vlt hn8)) (e_sg (vlt hn8)) k_X5 i_N_X7_song_X5 2 (by decide) (wm 4 rfl) rfl rfl (by simp) (e_sg (vlt hn8)) rfl dX7_song_78 (fun H locs G => ?_)
              refine lv_iload hC.1 hC.2.1 dX7_song_81 (lv_at hl 0 rfl) ?_
              exact ag_iret hC hr hlocks G h dX7_song_83
            · replace h := h.2 c7
              exact l_N_X7_song_37 a1 a2 a3 a4 hC hr hlocks hT _ h _ _ _ G (lv_sub hl [0, 1, 2, 3, 4] rfl)
theorem hdV_X7_song : yX7_song.cls = RX7 ∧ yX7_song.cls ≠ "java/lang/invoke/MethodHandle" ∧ yX7_song.cls ≠ "java/lang/invoke/VarHandle" ∧ (parseMethodDescriptor yX7_song.desc).map (fun d => d.parameters.length) = some 4 := by decide +kernel
abbrev rm_N_X7_feud : Room := { frames := 1, cells := 0, slots := 0, locals := 21 }
theorem i_N_X7_feud_X7 : ∀ w ∈ wsX70, w ∈ wsX7_feud := fun _ h => List.mem_cons_of_mem _ (List.mem_append_left _ (List.mem_append_left _ (List.mem_append_left _ (List.mem_append_right _ h))))
theorem i_N_X7_feud_X3 : ∀ w ∈ wsX30, w ∈ wsX7_feud := fun _ h => List.mem_cons_of_mem _ (List.mem_append_left _ (List.mem_append_left _ (List.mem_append_right _ h)))
def w_N_X7_feud (post : Int32 → MS → Prop) (σ : MS) (a1 : Int32) (a2 : Int32) (a3 : Int32) : Prop := w_N_X7_checkPlayer (fun σ1 => w_N_X7_checkPlayer (fun σ2 => ((a1 = a2 → False) ∧ (¬ a1 = a2 → (vp_in a1 10 ∧ w_X7_has (fun r6 σ5 => ((r6 = a3 → (narrow .boolean (.int r6) = .int r6 ∧ post r6 σ5)) ∧ (¬ r6 = a3 → (vp_in a1 10 ∧ (vp_in a2 10 ∧ (∀ y10 : Int32, y10 = ((up2 σ5 (29 + (Int32.toNatClampNeg a1)) 4 ((σ5 (29 + (Int32.toNatClampNeg a1)) 4) ^^^ (1 <<< (a2 &&& 31)))) (29 + (Int32.toNatClampNeg a2)) 4) ^^^ (1 <<< (a1 &&& 31)) → (narrow .boolean (.int r6) = .int r6 ∧ post r6 (up2 (up2 σ5 (29 + (Int32.toNatClampNeg a1)) 4 ((σ5 (29 + (Int32.toNatClampNeg a1)) 4) ^^^ (1 <<< (a2 &&& 31)))) (29 + (Int32.toNatClampNeg a2)) 4 y10)))))))) σ2 (σ2 (29 + (Int32.toNatClampNeg a1)) 4) a2)))) σ1 a2) σ a1
set_option maxHeartbeats 4000000 in
set_option maxRecDepth 100000 in
theorem c_N_X7_feud (l : Launch) (D : va_G) (cy : Nat → ClassId) (lay : Nat → Nat) {σ : MS} {post : Int32 → MS → Prop} {a1 : Int32} {a2 : Int32} {a3 : Int32} (h : w_N_X7_feud post σ a1 a2 a3) (sz : Nat) : Met l yX7_feud wsX7_feud rm_N_X7_feud (va_Pc [.ref (lay 0), .int a1, .int a2, .int a3] (agI D cy lay σ sz)) (va_Qi post (agO D cy lay) (agA lay sz)) 0 0 (agA lay sz) := by
  refine ag_ofW (cc := cX7_feud) (maxL := 5) (ret := some .boolean) (own := RX7) (Qc := fun sz => va_Qi post (agO D cy lay) (agA lay sz)) (by decide) rfl (Nat.le_of_ble_eq_true rfl) rfl ?_
  intro p e s m args below meth c ls hC hr hlocks hT G hl
  unfold w_N_X7_feud at h
  have hl : lv_has ls 5 [(0, .ref (lay 0)), (1, .int a1), (2, .int a2), (3, .int a3)] := hl
  refine lv_aload_n hC.1 hC.2.1 dX7_feud_0 rfl (lv_at hl 0 rfl) ?_
  refine lv_iload_n hC.1 hC.2.1 dX7_feud_1 rfl (lv_at hl 1 rfl) ?_
  refine ag_v G (ag_runV (As := [.int a1]) (rest := []) hC hT G (c_N_X7_checkPlayer l D cy lay h _) (cwV 1 hC.2.2.2.2 gX7_feud_X7_checkPlayer rfl rfl rfl hdV_X7_checkPlayer ⟨Nat.le_of_ble_eq_true rfl, Nat.le_of_ble_eq_true rfl⟩) (ag_recv hT G (by decide) e_ag k_X7) rfl hl.1 rfl (Nat.le_of_ble_eq_true rfl) dX7_feud_2 ⟨Nat.le_of_ble_eq_true rfl, Nat.le_of_ble_eq_true rfl⟩) (fun σ1 H locs h G => ?_)
  (try dsimp only at h)
  refine lv_aload_n hC.1 hC.2.1 dX7_feud_5 rfl (lv_at hl 0 rfl) ?_
  refine lv_iload_n hC.1 hC.2.1 dX7_feud_6 rfl (lv_at hl 2 rfl) ?_
  refine ag_v G (ag_runV (As := [.int a2]) (rest := []) hC hT G (c_N_X7_checkPlayer l D cy lay h _) (cwV 1 hC.2.2.2.2 gX7_feud_X7_checkPlayer rfl rfl rfl hdV_X7_checkPlayer ⟨Nat.le_of_ble_eq_true rfl, Nat.le_of_ble_eq_true rfl⟩) (ag_recv hT G (by decide) e_ag k_X7) rfl hl.1 rfl (Nat.le_of_ble_eq_true rfl) dX7_feud_7 ⟨Nat.le_of_ble_eq_true rfl, Nat.le_of_ble_eq_true rfl⟩) (fun σ2 H locs h G => ?_)
  (try dsimp only at h)
  refine lv_iload_n hC.1 hC.2.1 dX7_feud_10 rfl (lv_at hl 1 rfl) ?_
  refine lv_iload_n hC.1 hC.2.1 dX7_feud_11 rfl (lv_at hl 2 rfl) ?_
  refine lv_icmp_ne (tgt := 25) hC.1 hC.2.1 dX7_feud_12 (by decide) (fun c3 => ?_) (fun c3 => ?_)
  · replace h := h.2 c3
    refine lv_aload_n hC.1 hC.2.1 dX7_feud_25 rfl (lv_at hl 0 rfl) ?_
    refine ag_get hC hT G (by decide) e_ag k_X7 i_N_X7_feud_X7 0 (by decide) (wm 3 rfl) rfl dX7_feud_26 ?_
    refine lv_iload_n hC.1 hC.2.1 dX7_feud_29 rfl (lv_at hl 1 rfl) ?_
    obtain ⟨hn4, h⟩ := h
    refine ag_aald hC hT G (by decide) _ rfl e_pls hn4 dX7_feud_30 ?_
    refine ag_get hC hT G (k_pl (vlt hn4)) (e_pl (vlt hn4)) k_X3 i_N_X7_feud_X3 4 (by decide) (wm 4 rfl) rfl dX7_feud_31 ?_
    refine lv_iload_n hC.1 hC.2.1 dX7_feud_34 rfl (lv_at hl 2 rfl) ?_
    refine ag_i G (ag_runS (As := [.int (σ2 (29 + (Int32.toNatClampNeg a1)) 4), .int a2]) (rest := []) hC hT G (c_X7_has l D cy lay h _) (va_cwS 2 hC.2.2.2.2 gX7_feud_X7_has rfl rfl rfl hdS_X7_has ⟨Nat.le_of_ble_eq_true rfl, Nat.le_of_ble_eq_true rfl⟩) rfl hl.1 rfl (Nat.le_of_ble_eq_true rfl) dX7_feud_35 ⟨Nat.le_of_ble_eq_true rfl, Nat.le_of_ble_eq_true rfl⟩) (fun r6 σ5 H locs h G => ?_)
    (try dsimp only at h)
    refine lv_istore (lv' := [(4, .int r6), (0, .ref (lay 0)), (1, .int a1), (2, .int a2), (3, .int a3)]) hC.1 hC.2.1 dX7_feud_38 hl (by decide) rfl (fun ls hl => ?_)
    refine lv_iload hC.1 hC.2.1 dX7_feud_40 (lv_at hl 0 rfl) ?_
    refine lv_iload_n hC.1 hC.2.1 dX7_feud_42 rfl (lv_at hl 4 rfl) ?_
    refine lv_icmp_eq (tgt := 80) hC.1 hC.2.1 dX7_feud_43 (by decide) (fun c7 => ?_) (fun c7 => ?_)
    · replace h := h.1 c7
      refine lv_iload hC.1 hC.2.1 dX7_feud_80 (lv_at hl 0 rfl) ?_
      exact ag_zret hC hr hlocks G h.1 h.2 dX7_feud_82
    · replace h := h.2 c7
      refine lv_aload_n hC.1 hC.2.1 dX7_feud_46 rfl (lv_at hl 1 rfl) ?_
      refine ag_get hC hT G (by decide) e_ag k_X7 i_N_X7_feud_X7 0 (by decide) (wm 3 rfl) rfl dX7_feud_47 ?_
      refine lv_iload_n hC.1 hC.2.1 dX7_feud_50 rfl (lv_at hl 2 rfl) ?_
      obtain ⟨hn8, h⟩ := h
      refine ag_aald hC hT G (by decide) _ rfl e_pls hn8 dX7_feud_51 ?_
      refine lv_dup hC.1 hC.2.1 dX7_feud_52 rfl ?_
      refine ag_get hC hT G (k_pl (vlt hn8)) (e_pl (vlt hn8)) k_X3 i_N_X7_feud_X3 4 (by decide) (wm 4 rfl) rfl dX7_feud_53 ?_
      refine lv_iconst (v := 1) hC.1 hC.2.1 dX7_feud_56 (by decide) ?_
      refine lv_iload_n hC.1 hC.2.1 dX7_feud_57 rfl (lv_at hl 3 rfl) ?_
      refine lv_ishl hC.1 hC.2.1 dX7_feud_58 ?_
      refine lv_ixor hC.1 hC.2.1 dX7_feud_59 ?_
      refine ag_put hC hT G (k_pl (vlt hn8)) (e_pl (vlt hn8)) k_X3 i_N_X7_feud_X3 4 (by decide) (wm 4 rfl) rfl rfl (by simp) (e_pl (vlt hn8)) rfl dX7_feud_60 (fun H locs G => ?_)
      refine lv_aload_n hC.1 hC.2.1 dX7_feud_63 rfl (lv_at hl 1 rfl) ?_
      refine ag_get hC hT G (by decide) e_ag k_X7 i_N_X7_feud_X7 0 (by decide) (wm 3 rfl) rfl dX7_feud_64 ?_
      refine lv_iload_n hC.1 hC.2.1 dX7_feud_67 rfl (lv_at hl 3 rfl) ?_
      obtain ⟨hn9, h⟩ := h
      refine ag_aald hC hT G (by decide) _ rfl e_pls hn9 dX7_feud_68 ?_
      refine lv_dup hC.1 hC.2.1 dX7_feud_69 rfl ?_
      refine ag_get hC hT G (k_pl (vlt hn9)) (e_pl (vlt hn9)) k_X3 i_N_X7_feud_X3 4 (by decide) (wm 4 rfl) rfl dX7_feud_70 ?_
      refine lv_iconst (v := 1) hC.1 hC.2.1 dX7_feud_73 (by decide) ?_
      refine lv_iload_n hC.1 hC.2.1 dX7_feud_74 rfl (lv_at hl 2 rfl) ?_
      refine lv_ishl hC.1 hC.2.1 dX7_feud_75 ?_
      refine lv_ixor hC.1 hC.2.1 dX7_feud_76 ?_
      refine lv_topi (fun y10 ey10 => ?_)
      replace h := h y10 ey10
      refine ag_put hC hT G (k_pl (vlt hn9)) (e_pl (vlt hn9)) k_X3 i_N_X7_feud_X3 4 (by decide) (wm 4 rfl) rfl rfl (by simp) (e_pl (vlt hn9)) rfl dX7_feud_77 (fun H locs G => ?_)
      refine lv_iload hC.1 hC.2.1 dX7_feud_80 (lv_at hl 0 rfl) ?_
      exact ag_zret hC hr hlocks G h.1 h.2 dX7_feud_82
  · replace h := h.1 c3
    exact h.elim
theorem hdV_X7_feud : yX7_feud.cls = RX7 ∧ yX7_feud.cls ≠ "java/lang/invoke/MethodHandle" ∧ yX7_feud.cls ≠ "java/lang/invoke/VarHandle" ∧ (parseMethodDescriptor yX7_feud.desc).map (fun d => d.parameters.length) = some 3 := by decide +kernel
abbrev rm_N_X7_road : Room := { frames := 3, cells := 0, slots := 0, locals := 64 }
theorem i_N_X7_road_X7 : ∀ w ∈ wsX70, w ∈ wsX7_road := fun _ h => List.mem_cons_of_mem _ (List.mem_append_left _ (List.mem_append_left _ (List.mem_append_left _ (List.mem_append_right _ h))))
def u_N_X7_road_23 (post : Int32 → MS → Prop) (a1 : Int32) (a2 : Int32) (a3 : Int32) (σ : MS) : Prop := False
set_option maxHeartbeats 4000000 in
set_option maxRecDepth 100000 in
theorem l_N_X7_road_23 {p : Program} {l : Launch} {e : Env} {s : State} {m : MethodId} {args : Array Value} {below : List Frame} {meth : Method} {c : Code} {D : va_G} {cy : Nat → ClassId} {lay : Nat → Nat} {post : Int32 → MS → Prop} (a1 : Int32) (a2 : Int32) (a3 : Int32) (hC : CallFix p m c cX7_road 4 s args wsX7_road RX7) (hr : meth.sig.returnType = some .int) (hlocks : meth.locks = false) (hT : agT D cy lay s) : ∀ (σ : MS), u_N_X7_road_23 post a1 a2 a3 σ → ∀ (H : Heap) (locs : List Loc) (ls : Array Slot), agG D cy lay σ (agA lay s.heap.size) s.heap H locs → lv_has ls 4 [(0, .ref (lay 0)), (1, .int a1), (2, .int a2), (3, .int a3)] → W p l e rm_N_X7_road s m args below meth c H locs 0 0 (MQ below (va_Qi post (agO D cy lay) (agA lay s.heap.size)) args s 0 0 (agA lay s.heap.size)) (F0 m 23 ls []) := by
  intro σ h H locs ls G hl
  unfold u_N_X7_road_23 at h
  exact h.elim
def w_N_X7_road (post : Int32 → MS → Prop) (σ : MS) (a1 : Int32) (a2 : Int32) (a3 : Int32) : Prop := w_N_X7_checkTown (fun σ1 => w_N_X7_checkTown (fun σ2 => ((a1 = a2 → u_N_X7_road_23 post a1 a2 a3 σ2) ∧ (¬ a1 = a2 → ((a3 < 0 → u_N_X7_road_23 post a1 a2 a3 σ2) ∧ (¬ a3 < 0 → ((a3 ≤ 9 → w_X4_lay (fun σ6 => w_X4_between (fun r8 σ7 => post r8 σ7) σ6 a1 a2) σ2 a1 a2 a3) ∧ (¬ a3 ≤ 9 → u_N_X7_road_23 post a1 a2 a3 σ2))))))) σ1 a2) σ a1
set_option maxHeartbeats 4000000 in
set_option maxRecDepth 100000 in
theorem c_N_X7_road (l : Launch) (D : va_G) (cy : Nat → ClassId) (lay : Nat → Nat) {σ : MS} {post : Int32 → MS → Prop} {a1 : Int32} {a2 : Int32} {a3 : Int32} (h : w_N_X7_road post σ a1 a2 a3) (sz : Nat) : Met l yX7_road wsX7_road rm_N_X7_road (va_Pc [.ref (lay 0), .int a1, .int a2, .int a3] (agI D cy lay σ sz)) (va_Qi post (agO D cy lay) (agA lay sz)) 0 0 (agA lay sz) := by
  refine ag_ofW (cc := cX7_road) (maxL := 4) (ret := some .int) (own := RX7) (Qc := fun sz => va_Qi post (agO D cy lay) (agA lay sz)) (by decide) rfl (Nat.le_of_ble_eq_true rfl) rfl ?_
  intro p e s m args below meth c ls hC hr hlocks hT G hl
  unfold w_N_X7_road at h
  have hl : lv_has ls 4 [(0, .ref (lay 0)), (1, .int a1), (2, .int a2), (3, .int a3)] := hl
  refine lv_iload_n hC.1 hC.2.1 dX7_road_0 rfl (lv_at hl 1 rfl) ?_
  refine ag_v G (ag_runS (As := [.int a1]) (rest := []) hC hT G (c_N_X7_checkTown l D cy lay h _) (va_cwS 1 hC.2.2.2.2 gX7_road_X7_checkTown rfl rfl rfl hdS_X7_checkTown ⟨Nat.le_of_ble_eq_true rfl, Nat.le_of_ble_eq_true rfl⟩) rfl hl.1 rfl (Nat.le_of_ble_eq_true rfl) dX7_road_1 ⟨Nat.le_of_ble_eq_true rfl, Nat.le_of_ble_eq_true rfl⟩) (fun σ1 H locs h G => ?_)
  (try dsimp only at h)
  refine lv_iload_n hC.1 hC.2.1 dX7_road_4 rfl (lv_at hl 2 rfl) ?_
  refine ag_v G (ag_runS (As := [.int a2]) (rest := []) hC hT G (c_N_X7_checkTown l D cy lay h _) (va_cwS 1 hC.2.2.2.2 gX7_road_X7_checkTown rfl rfl rfl hdS_X7_checkTown ⟨Nat.le_of_ble_eq_true rfl, Nat.le_of_ble_eq_true rfl⟩) rfl hl.1 rfl (Nat.le_of_ble_eq_true rfl) dX7_road_5 ⟨Nat.le_of_ble_eq_true rfl, Nat.le_of_ble_eq_true rfl⟩) (fun σ2 H locs h G => ?_)
  (try dsimp only at h)
  refine lv_iload_n hC.1 hC.2.1 dX7_road_8 rfl (lv_at hl 1 rfl) ?_
  refine lv_iload_n hC.1 hC.2.1 dX7_road_9 rfl (lv_at hl 2 rfl) ?_
  refine lv_icmp_eq (tgt := 23) hC.1 hC.2.1 dX7_road_10 (by decide) (fun c3 => ?_) (fun c3 => ?_)
  · replace h := h.1 c3
    exact l_N_X7_road_23 a1 a2 a3 hC hr hlocks hT _ h _ _ _ G (lv_sub hl [0, 1, 2, 3] rfl)
  · replace h := h.2 c3
    refine lv_iload_n hC.1 hC.2.1 dX7_road_13 rfl (lv_at hl 3 rfl) ?_
    refine lv_if_lt (tgt := 23) hC.1 hC.2.1 dX7_road_14 (by decide) (fun c4 => ?_) (fun c4 => ?_)
    · replace h := h.1 c4
      exact l_N_X7_road_23 a1 a2 a3 hC hr hlocks hT _ h _ _ _ G (lv_sub hl [0, 1, 2, 3] rfl)
    · replace h := h.2 c4
      refine lv_iload_n hC.1 hC.2.1 dX7_road_17 rfl (lv_at hl 3 rfl) ?_
      refine lv_bipush (v := 9) hC.1 hC.2.1 dX7_road_18 (by decide) ?_
      refine lv_icmp_le (tgt := 33) hC.1 hC.2.1 dX7_road_20 (by decide) (fun c5 => ?_) (fun c5 => ?_)
      · replace h := h.1 c5
        refine lv_aload_n hC.1 hC.2.1 dX7_road_33 rfl (lv_at hl 0 rfl) ?_
        refine ag_get hC hT G (by decide) e_ag k_X7 i_N_X7_road_X7 4 (by decide) (wm 3 rfl) rfl dX7_road_34 ?_
        refine lv_iload_n hC.1 hC.2.1 dX7_road_37 rfl (lv_at hl 1 rfl) ?_
        refine lv_iload_n hC.1 hC.2.1 dX7_road_38 rfl (lv_at hl 2 rfl) ?_
        refine lv_iload_n hC.1 hC.2.1 dX7_road_39 rfl (lv_at hl 3 rfl) ?_
        refine ag_v G (ag_runV (As := [.int a1, .int a2, .int a3]) (rest := []) hC hT G (c_X4_lay l D cy lay h _) (cwV 3 hC.2.2.2.2 gX7_road_X4_lay rfl rfl rfl hdV_X4_lay ⟨Nat.le_of_ble_eq_true rfl, Nat.le_of_ble_eq_true rfl⟩) (ag_recv hT G (by decide) e_rd k_X4) rfl hl.1 rfl (Nat.le_of_ble_eq_true rfl) dX7_road_40 ⟨Nat.le_of_ble_eq_true rfl, Nat.le_of_ble_eq_true rfl⟩) (fun σ6 H locs h G => ?_)
        (try dsimp only at h)
        refine lv_aload_n hC.1 hC.2.1 dX7_road_43 rfl (lv_at hl 0 rfl) ?_
        refine ag_get hC hT G (by decide) e_ag k_X7 i_N_X7_road_X7 4 (by decide) (wm 3 rfl) rfl dX7_road_44 ?_
        refine lv_iload_n hC.1 hC.2.1 dX7_road_47 rfl (lv_at hl 1 rfl) ?_
        refine lv_iload_n hC.1 hC.2.1 dX7_road_48 rfl (lv_at hl 2 rfl) ?_
        refine ag_i G (ag_runV (As := [.int a1, .int a2]) (rest := []) hC hT G (c_X4_between l D cy lay h _) (cwV 2 hC.2.2.2.2 gX7_road_X4_between rfl rfl rfl hdV_X4_between ⟨Nat.le_of_ble_eq_true rfl, Nat.le_of_ble_eq_true rfl⟩) (ag_recv hT G (by decide) e_rd k_X4) rfl hl.1 rfl (Nat.le_of_ble_eq_true rfl) dX7_road_49 ⟨Nat.le_of_ble_eq_true rfl, Nat.le_of_ble_eq_true rfl⟩) (fun r8 σ7 H locs h G => ?_)
        (try dsimp only at h)
        exact ag_iret hC hr hlocks G h dX7_road_52
      · replace h := h.2 c5
        exact l_N_X7_road_23 a1 a2 a3 hC hr hlocks hT _ h _ _ _ G (lv_sub hl [0, 1, 2, 3] rfl)
theorem hdV_X7_road : yX7_road.cls = RX7 ∧ yX7_road.cls ≠ "java/lang/invoke/MethodHandle" ∧ yX7_road.cls ≠ "java/lang/invoke/VarHandle" ∧ (parseMethodDescriptor yX7_road.desc).map (fun d => d.parameters.length) = some 3 := by decide +kernel
