abbrev rm_T_X7_song : Room := { frames := 7, cells := 2, slots := 12, locals := 102 }
theorem i_T_X7_song_X7 : ∀ w ∈ wsX70, w ∈ wsX7_song := fun _ h => List.mem_cons_of_mem _ (List.mem_append_left _ (List.mem_append_left _ (List.mem_append_left _ (List.mem_append_right _ h))))
theorem i_T_X7_song_X5 : ∀ w ∈ wsX50, w ∈ wsX7_song := fun _ h => List.mem_cons_of_mem _ (List.mem_append_left _ (List.mem_append_left _ (List.mem_append_right _ h)))
def u_T_X7_song_37 (post : Int32 → MS → Prop) (pex : String → MS → Prop) (a1 : Int32) (a2 : Int32) (a3 : Int32) (a4 : Int32) (σ : MS) : Prop := pex "java/lang/IllegalArgumentException" σ
set_option maxHeartbeats 4000000 in
set_option maxRecDepth 100000 in
theorem l_T_X7_song_37 {p : Program} {l : Launch} {e : Env} {s : State} {m : MethodId} {args : Array Value} {below : List Frame} {meth : Method} {c : Code} {D : va_G} {cy : Nat → ClassId} {lay : Nat → Nat} {post : Int32 → MS → Prop} {pex : String → MS → Prop} (a1 : Int32) (a2 : Int32) (a3 : Int32) (a4 : Int32) (hl0 : l.stackTraces = false) (hC : CallFix p m c cX7_song 7 s args wsX7_song RX7) (hr : meth.sig.returnType = some .int) (hlocks : meth.locks = false) (htab : ∀ x ∈ c.exceptionTable.toList, False) (hT : agT D cy lay s) : ∀ (σ : MS), u_T_X7_song_37 post pex a1 a2 a3 a4 σ → ∀ (H : Heap) (locs : List Loc) (ls : Array Slot), agG D cy lay σ (agA lay s.heap.size) s.heap H locs → lv_has ls 7 [(0, .ref (lay 0)), (1, .int a1), (2, .int a2), (3, .int a3), (4, .int a4)] → W p l e rm_T_X7_song s m args below meth c H locs 1 6 (vx_MQ below (va_Qi post (agO D cy lay) (agA lay s.heap.size)) (agXC D cy lay pex s.heap.size) args s 2 12 (agA lay s.heap.size)) (F0 m 37 ls []) := by
  intro σ h H locs ls G hl
  unfold u_T_X7_song_37 at h
  exact ag_throw (text := "no song can be like that") (names := ["java/lang/RuntimeException", "java/lang/Exception"]) hl0 hC hT G htab hlocks hl.1 (by decide) (by decide) (wm 1 rfl) (wm 2 rfl) (List.mem_of_getElem? (i := 4) rfl) (fun _ h => List.mem_cons_of_mem _ (List.mem_append_left _ (List.mem_append_right _ h))) exIAE_all exIAE_good dX7_song_37 dX7_song_40 dX7_song_41 dX7_song_43 dX7_song_46 (by decide) (Nat.le_of_ble_eq_true rfl) (Nat.le_of_ble_eq_true rfl) (Nat.le_of_ble_eq_true rfl) (by decide) (by decide) h
def w_T_X7_song (post : Int32 → MS → Prop) (pex : String → MS → Prop) (σ : MS) (a1 : Int32) (a2 : Int32) (a3 : Int32) (a4 : Int32) : Prop := w_T_X7_checkSong (fun σ1 => ((a2 < 0 → u_T_X7_song_37 post pex a1 a2 a3 a4 σ1) ∧ (¬ a2 < 0 → ((12 ≤ a2 → u_T_X7_song_37 post pex a1 a2 a3 a4 σ1) ∧ (¬ 12 ≤ a2 → ((a3 < 0 → u_T_X7_song_37 post pex a1 a2 a3 a4 σ1) ∧ (¬ a3 < 0 → ((10 ≤ a3 → u_T_X7_song_37 post pex a1 a2 a3 a4 σ1) ∧ (¬ 10 ≤ a3 → ((a4 < 2 → u_T_X7_song_37 post pex a1 a2 a3 a4 σ1) ∧ (¬ a4 < 2 → ((a4 ≤ 9 → (vp_in a1 16 ∧ post (σ1 (39 + (Int32.toNatClampNeg a1)) 2) (up2 (up2 (up2 σ1 (39 + (Int32.toNatClampNeg a1)) 0 a2) (39 + (Int32.toNatClampNeg a1)) 1 a3) (39 + (Int32.toNatClampNeg a1)) 2 a4))) ∧ (¬ a4 ≤ 9 → u_T_X7_song_37 post pex a1 a2 a3 a4 σ1))))))))))))) pex σ a1
set_option maxHeartbeats 4000000 in
set_option maxRecDepth 100000 in
theorem c_T_X7_song (l : Launch) (hl0 : l.stackTraces = false) (D : va_G) (cy : Nat → ClassId) (lay : Nat → Nat) {σ : MS} {post : Int32 → MS → Prop} {pex : String → MS → Prop} {a1 : Int32} {a2 : Int32} {a3 : Int32} {a4 : Int32} (h : w_T_X7_song post pex σ a1 a2 a3 a4) (sz : Nat) : vx_Met l yX7_song wsX7_song rm_T_X7_song (va_Pc [.ref (lay 0), .int a1, .int a2, .int a3, .int a4] (agI D cy lay σ sz)) (va_Qi post (agO D cy lay) (agA lay sz)) (agXC D cy lay pex sz) 2 12 (agA lay sz) := by
  refine ag_ofX (cc := cX7_song) (maxL := 7) (ret := some .int) (own := RX7) (Qc := fun sz => va_Qi post (agO D cy lay) (agA lay sz)) (by decide) rfl (Nat.le_of_ble_eq_true rfl) rfl ?_
  intro p e s m args below meth c ls hC hr hlocks htab hT G hl
  unfold w_T_X7_song at h
  have hl : lv_has ls 7 [(0, .ref (lay 0)), (1, .int a1), (2, .int a2), (3, .int a3), (4, .int a4)] := hl
  refine lv_iload_n hC.1 hC.2.1 dX7_song_0 rfl (lv_at hl 1 rfl) ?_
  refine ag_vT G htab hlocks (ag_runST (As := [.int a1]) (rest := []) hC hT G (c_T_X7_checkSong l hl0 D cy lay h _) (va_cwS 1 hC.2.2.2.2 gX7_song_X7_checkSong rfl rfl rfl hdS_X7_checkSong ⟨Nat.le_of_ble_eq_true rfl, Nat.le_of_ble_eq_true rfl⟩) rfl hl.1 rfl (Nat.le_of_ble_eq_true rfl) dX7_song_1 ⟨Nat.le_of_ble_eq_true rfl, Nat.le_of_ble_eq_true rfl⟩) (by decide) (by decide) (fun σ1 H locs h G => ?_)
  (try dsimp only at h)
  refine lv_iload_n hC.1 hC.2.1 dX7_song_4 rfl (lv_at hl 2 rfl) ?_
  refine lv_if_lt (tgt := 37) hC.1 hC.2.1 dX7_song_5 (by decide) (fun c2 => ?_) (fun c2 => ?_)
  · replace h := h.1 c2
    exact l_T_X7_song_37 a1 a2 a3 a4 hl0 hC hr hlocks htab hT _ h _ _ _ G (lv_sub hl [0, 1, 2, 3, 4] rfl)
  · replace h := h.2 c2
    refine lv_iload_n hC.1 hC.2.1 dX7_song_8 rfl (lv_at hl 2 rfl) ?_
    refine lv_bipush (v := 12) hC.1 hC.2.1 dX7_song_9 (by decide) ?_
    refine lv_icmp_ge (tgt := 37) hC.1 hC.2.1 dX7_song_11 (by decide) (fun c3 => ?_) (fun c3 => ?_)
    · replace h := h.1 c3
      exact l_T_X7_song_37 a1 a2 a3 a4 hl0 hC hr hlocks htab hT _ h _ _ _ G (lv_sub hl [0, 1, 2, 3, 4] rfl)
    · replace h := h.2 c3
      refine lv_iload_n hC.1 hC.2.1 dX7_song_14 rfl (lv_at hl 3 rfl) ?_
      refine lv_if_lt (tgt := 37) hC.1 hC.2.1 dX7_song_15 (by decide) (fun c4 => ?_) (fun c4 => ?_)
      · replace h := h.1 c4
        exact l_T_X7_song_37 a1 a2 a3 a4 hl0 hC hr hlocks htab hT _ h _ _ _ G (lv_sub hl [0, 1, 2, 3, 4] rfl)
      · replace h := h.2 c4
        refine lv_iload_n hC.1 hC.2.1 dX7_song_18 rfl (lv_at hl 3 rfl) ?_
        refine lv_bipush (v := 10) hC.1 hC.2.1 dX7_song_19 (by decide) ?_
        refine lv_icmp_ge (tgt := 37) hC.1 hC.2.1 dX7_song_21 (by decide) (fun c5 => ?_) (fun c5 => ?_)
        · replace h := h.1 c5
          exact l_T_X7_song_37 a1 a2 a3 a4 hl0 hC hr hlocks htab hT _ h _ _ _ G (lv_sub hl [0, 1, 2, 3, 4] rfl)
        · replace h := h.2 c5
          refine lv_iload hC.1 hC.2.1 dX7_song_24 (lv_at hl 4 rfl) ?_
          refine lv_iconst (v := 2) hC.1 hC.2.1 dX7_song_26 (by decide) ?_
          refine lv_icmp_lt (tgt := 37) hC.1 hC.2.1 dX7_song_27 (by decide) (fun c6 => ?_) (fun c6 => ?_)
          · replace h := h.1 c6
            exact l_T_X7_song_37 a1 a2 a3 a4 hl0 hC hr hlocks htab hT _ h _ _ _ G (lv_sub hl [0, 1, 2, 3, 4] rfl)
          · replace h := h.2 c6
            refine lv_iload hC.1 hC.2.1 dX7_song_30 (lv_at hl 4 rfl) ?_
            refine lv_bipush (v := 9) hC.1 hC.2.1 dX7_song_32 (by decide) ?_
            refine lv_icmp_le (tgt := 47) hC.1 hC.2.1 dX7_song_34 (by decide) (fun c7 => ?_) (fun c7 => ?_)
            · replace h := h.1 c7
              refine lv_aload_n hC.1 hC.2.1 dX7_song_47 rfl (lv_at hl 0 rfl) ?_
              refine ag_get hC hT G (by decide) e_ag k_X7 i_T_X7_song_X7 1 (by decide) (wm 3 rfl) rfl dX7_song_48 ?_
              refine lv_iload_n hC.1 hC.2.1 dX7_song_51 rfl (lv_at hl 1 rfl) ?_
              obtain ⟨hn8, h⟩ := h
              refine ag_aald hC hT G (by decide) _ rfl e_sgs hn8 dX7_song_52 ?_
              refine lv_astore (lv' := [(5, .ref (lay (39 + (Int32.toNatClampNeg a1)))), (0, .ref (lay 0)), (1, .int a1), (2, .int a2), (3, .int a3), (4, .int a4)]) hC.1 hC.2.1 dX7_song_53 hl (by decide) rfl (fun ls hl => ?_)
              refine lv_aload hC.1 hC.2.1 dX7_song_55 (lv_at hl 0 rfl) ?_
              refine ag_get hC hT G (k_sg (vlt hn8)) (e_sg (vlt hn8)) k_X5 i_T_X7_song_X5 2 (by decide) (wm 4 rfl) rfl dX7_song_57 ?_
              refine lv_istore (lv' := [(6, .int (σ1 (39 + (Int32.toNatClampNeg a1)) 2)), (5, .ref (lay (39 + (Int32.toNatClampNeg a1)))), (0, .ref (lay 0)), (1, .int a1), (2, .int a2), (3, .int a3), (4, .int a4)]) hC.1 hC.2.1 dX7_song_60 hl (by decide) rfl (fun ls hl => ?_)
              refine lv_aload hC.1 hC.2.1 dX7_song_62 (lv_at hl 1 rfl) ?_
              refine lv_iload_n hC.1 hC.2.1 dX7_song_64 rfl (lv_at hl 4 rfl) ?_
              refine ag_put hC hT G (k_sg (vlt hn8)) (e_sg (vlt hn8)) k_X5 i_T_X7_song_X5 0 (by decide) (wm 5 rfl) rfl rfl (by simp) (e_sg (vlt hn8)) rfl dX7_song_65 (fun H locs G => ?_)
              refine lv_aload hC.1 hC.2.1 dX7_song_68 (lv_at hl 1 rfl) ?_
              refine lv_iload_n hC.1 hC.2.1 dX7_song_70 rfl (lv_at hl 5 rfl) ?_
              refine ag_put hC hT G (k_sg (vlt hn8)) (e_sg (vlt hn8)) k_X5 i_T_X7_song_X5 1 (by decide) (wm 6 rfl) rfl rfl (by simp) (e_sg (vlt hn8)) rfl dX7_song_71 (fun H locs G => ?_)
              refine lv_aload hC.1 hC.2.1 dX7_song_74 (lv_at hl 1 rfl) ?_
              refine lv_iload hC.1 hC.2.1 dX7_song_76 (lv_at hl 6 rfl) ?_
              refine ag_put hC hT G (k_sg (vlt hn8)) (e_sg (vlt hn8)) k_X5 i_T_X7_song_X5 2 (by decide) (wm 4 rfl) rfl rfl (by simp) (e_sg (vlt hn8)) rfl dX7_song_78 (fun H locs G => ?_)
              refine lv_iload hC.1 hC.2.1 dX7_song_81 (lv_at hl 0 rfl) ?_
              refine W.widen (k := 2) (n := 12) (by decide) (by decide) ?_
              exact vx_ret (ag_iret hC hr hlocks G h dX7_song_83)
            · replace h := h.2 c7
              exact l_T_X7_song_37 a1 a2 a3 a4 hl0 hC hr hlocks htab hT _ h _ _ _ G (lv_sub hl [0, 1, 2, 3, 4] rfl)
theorem hdV_X7_song : yX7_song.cls = RX7 ∧ yX7_song.cls ≠ "java/lang/invoke/MethodHandle" ∧ yX7_song.cls ≠ "java/lang/invoke/VarHandle" ∧ (parseMethodDescriptor yX7_song.desc).map (fun d => d.parameters.length) = some 4 := by decide +kernel
abbrev rm_T_X7_feud : Room := { frames := 7, cells := 3, slots := 18, locals := 103 }
theorem i_T_X7_feud_X7 : ∀ w ∈ wsX70, w ∈ wsX7_feud := fun _ h => List.mem_cons_of_mem _ (List.mem_append_left _ (List.mem_append_left _ (List.mem_append_left _ (List.mem_append_right _ h))))
theorem i_T_X7_feud_X3 : ∀ w ∈ wsX30, w ∈ wsX7_feud := fun _ h => List.mem_cons_of_mem _ (List.mem_append_left _ (List.mem_append_left _ (List.mem_append_right _ h)))
def w_T_X7_feud (post : Int32 → MS → Prop) (pex : String → MS → Prop) (σ : MS) (a1 : Int32) (a2 : Int32) (a3 : Int32) : Prop := w_T_X7_checkPlayer (fun σ1 => w_T_X7_checkPlayer (fun σ2 => ((a1 = a2 → pex "java/lang/IllegalArgumentException" σ2) ∧ (¬ a1 = a2 → (vp_in a1 10 ∧ w_X7_has (fun r6 σ5 => ((r6 = a3 → (narrow .boolean (.int r6) = .int r6 ∧ post r6 σ5)) ∧ (¬ r6 = a3 → (vp_in a1 10 ∧ (vp_in a2 10 ∧ (∀ y10 : Int32, y10 = ((up2 σ5 (29 + (Int32.toNatClampNeg a1)) 4 ((σ5 (29 + (Int32.toNatClampNeg a1)) 4) ^^^ (1 <<< (a2 &&& 31)))) (29 + (Int32.toNatClampNeg a2)) 4) ^^^ (1 <<< (a1 &&& 31)) → (narrow .boolean (.int r6) = .int r6 ∧ post r6 (up2 (up2 σ5 (29 + (Int32.toNatClampNeg a1)) 4 ((σ5 (29 + (Int32.toNatClampNeg a1)) 4) ^^^ (1 <<< (a2 &&& 31)))) (29 + (Int32.toNatClampNeg a2)) 4 y10)))))))) σ2 (σ2 (29 + (Int32.toNatClampNeg a1)) 4) a2)))) pex σ1 a2) pex σ a1
set_option maxHeartbeats 4000000 in
set_option maxRecDepth 100000 in
theorem c_T_X7_feud (l : Launch) (hl0 : l.stackTraces = false) (D : va_G) (cy : Nat → ClassId) (lay : Nat → Nat) {σ : MS} {post : Int32 → MS → Prop} {pex : String → MS → Prop} {a1 : Int32} {a2 : Int32} {a3 : Int32} (h : w_T_X7_feud post pex σ a1 a2 a3) (sz : Nat) : vx_Met l yX7_feud wsX7_feud rm_T_X7_feud (va_Pc [.ref (lay 0), .int a1, .int a2, .int a3] (agI D cy lay σ sz)) (va_Qi post (agO D cy lay) (agA lay sz)) (agXC D cy lay pex sz) 3 18 (agA lay sz) := by
  refine ag_ofX (cc := cX7_feud) (maxL := 5) (ret := some .boolean) (own := RX7) (Qc := fun sz => va_Qi post (agO D cy lay) (agA lay sz)) (by decide) rfl (Nat.le_of_ble_eq_true rfl) rfl ?_
  intro p e s m args below meth c ls hC hr hlocks htab hT G hl
  unfold w_T_X7_feud at h
  have hl : lv_has ls 5 [(0, .ref (lay 0)), (1, .int a1), (2, .int a2), (3, .int a3)] := hl
  refine lv_aload_n hC.1 hC.2.1 dX7_feud_0 rfl (lv_at hl 0 rfl) ?_
  refine lv_iload_n hC.1 hC.2.1 dX7_feud_1 rfl (lv_at hl 1 rfl) ?_
  refine ag_vT G htab hlocks (ag_runVT (As := [.int a1]) (rest := []) hC hT G (c_T_X7_checkPlayer l hl0 D cy lay h _) (cwV 1 hC.2.2.2.2 gX7_feud_X7_checkPlayer rfl rfl rfl hdV_X7_checkPlayer ⟨Nat.le_of_ble_eq_true rfl, Nat.le_of_ble_eq_true rfl⟩) (ag_recv hT G (by decide) e_ag k_X7) rfl hl.1 rfl (Nat.le_of_ble_eq_true rfl) dX7_feud_2 ⟨Nat.le_of_ble_eq_true rfl, Nat.le_of_ble_eq_true rfl⟩) (by decide) (by decide) (fun σ1 H locs h G => ?_)
  (try dsimp only at h)
  refine lv_aload_n hC.1 hC.2.1 dX7_feud_5 rfl (lv_at hl 0 rfl) ?_
  refine lv_iload_n hC.1 hC.2.1 dX7_feud_6 rfl (lv_at hl 2 rfl) ?_
  refine ag_vT G htab hlocks (ag_runVT (As := [.int a2]) (rest := []) hC hT G (c_T_X7_checkPlayer l hl0 D cy lay h _) (cwV 1 hC.2.2.2.2 gX7_feud_X7_checkPlayer rfl rfl rfl hdV_X7_checkPlayer ⟨Nat.le_of_ble_eq_true rfl, Nat.le_of_ble_eq_true rfl⟩) (ag_recv hT G (by decide) e_ag k_X7) rfl hl.1 rfl (Nat.le_of_ble_eq_true rfl) dX7_feud_7 ⟨Nat.le_of_ble_eq_true rfl, Nat.le_of_ble_eq_true rfl⟩) (by decide) (by decide) (fun σ2 H locs h G => ?_)
  (try dsimp only at h)
  refine lv_iload_n hC.1 hC.2.1 dX7_feud_10 rfl (lv_at hl 1 rfl) ?_
  refine lv_iload_n hC.1 hC.2.1 dX7_feud_11 rfl (lv_at hl 2 rfl) ?_
  refine lv_icmp_ne (tgt := 25) hC.1 hC.2.1 dX7_feud_12 (by decide) (fun c3 => ?_) (fun c3 => ?_)
  · replace h := h.2 c3
    refine lv_aload_n hC.1 hC.2.1 dX7_feud_25 rfl (lv_at hl 0 rfl) ?_
    refine ag_get hC hT G (by decide) e_ag k_X7 i_T_X7_feud_X7 0 (by decide) (wm 3 rfl) rfl dX7_feud_26 ?_
    refine lv_iload_n hC.1 hC.2.1 dX7_feud_29 rfl (lv_at hl 1 rfl) ?_
    obtain ⟨hn4, h⟩ := h
    refine ag_aald hC hT G (by decide) _ rfl e_pls hn4 dX7_feud_30 ?_
    refine ag_get hC hT G (k_pl (vlt hn4)) (e_pl (vlt hn4)) k_X3 i_T_X7_feud_X3 4 (by decide) (wm 4 rfl) rfl dX7_feud_31 ?_
    refine lv_iload_n hC.1 hC.2.1 dX7_feud_34 rfl (lv_at hl 2 rfl) ?_
    refine ag_i G (ag_runS (As := [.int (σ2 (29 + (Int32.toNatClampNeg a1)) 4), .int a2]) (rest := []) hC hT G (c_X7_has l D cy lay h _) (va_cwS 2 hC.2.2.2.2 gX7_feud_X7_has rfl rfl rfl hdS_X7_has ⟨Nat.le_of_ble_eq_true rfl, Nat.le_of_ble_eq_true rfl⟩) rfl hl.1 rfl (Nat.le_of_ble_eq_true rfl) dX7_feud_35 ⟨Nat.le_of_ble_eq_true rfl, Nat.le_of_ble_eq_true rfl⟩) (fun r6 σ5 H locs h G => ?_)
    (try dsimp only at h)
    refine lv_istore (lv' := [(4, .int r6), (0, .ref (lay 0)), (1, .int a1), (2, .int a2), (3, .int a3)]) hC.1 hC.2.1 dX7_feud_38 hl (by decide) rfl (fun ls hl => ?_)
    refine lv_iload hC.1 hC.2.1 dX7_feud_40 (lv_at hl 0 rfl) ?_
    refine lv_iload_n hC.1 hC.2.1 dX7_feud_42 rfl (lv_at hl 4 rfl) ?_
    refine lv_icmp_eq (tgt := 80) hC.1 hC.2.1 dX7_feud_43 (by decide) (fun c7 => ?_) (fun c7 => ?_)
    · replace h := h.1 c7
      refine lv_iload hC.1 hC.2.1 dX7_feud_80 (lv_at hl 0 rfl) ?_
      refine W.widen (k := 3) (n := 18) (by decide) (by decide) ?_
      exact vx_ret (ag_zret hC hr hlocks G h.1 h.2 dX7_feud_82)
    · replace h := h.2 c7
      refine lv_aload_n hC.1 hC.2.1 dX7_feud_46 rfl (lv_at hl 1 rfl) ?_
      refine ag_get hC hT G (by decide) e_ag k_X7 i_T_X7_feud_X7 0 (by decide) (wm 3 rfl) rfl dX7_feud_47 ?_
      refine lv_iload_n hC.1 hC.2.1 dX7_feud_50 rfl (lv_at hl 2 rfl) ?_
      obtain ⟨hn8, h⟩ := h
      refine ag_aald hC hT G (by decide) _ rfl e_pls hn8 dX7_feud_51 ?_
      refine lv_dup hC.1 hC.2.1 dX7_feud_52 rfl ?_
      refine ag_get hC hT G (k_pl (vlt hn8)) (e_pl (vlt hn8)) k_X3 i_T_X7_feud_X3 4 (by decide) (wm 4 rfl) rfl dX7_feud_53 ?_
      refine lv_iconst (v := 1) hC.1 hC.2.1 dX7_feud_56 (by decide) ?_
      refine lv_iload_n hC.1 hC.2.1 dX7_feud_57 rfl (lv_at hl 3 rfl) ?_
      refine lv_ishl hC.1 hC.2.1 dX7_feud_58 ?_
      refine lv_ixor hC.1 hC.2.1 dX7_feud_59 ?_
      refine ag_put hC hT G (k_pl (vlt hn8)) (e_pl (vlt hn8)) k_X3 i_T_X7_feud_X3 4 (by decide) (wm 4 rfl) rfl rfl (by simp) (e_pl (vlt hn8)) rfl dX7_feud_60 (fun H locs G => ?_)
      refine lv_aload_n hC.1 hC.2.1 dX7_feud_63 rfl (lv_at hl 1 rfl) ?_
      refine ag_get hC hT G (by decide) e_ag k_X7 i_T_X7_feud_X7 0 (by decide) (wm 3 rfl) rfl dX7_feud_64 ?_
      refine lv_iload_n hC.1 hC.2.1 dX7_feud_67 rfl (lv_at hl 3 rfl) ?_
      obtain ⟨hn9, h⟩ := h
      refine ag_aald hC hT G (by decide) _ rfl e_pls hn9 dX7_feud_68 ?_
      refine lv_dup hC.1 hC.2.1 dX7_feud_69 rfl ?_
      refine ag_get hC hT G (k_pl (vlt hn9)) (e_pl (vlt hn9)) k_X3 i_T_X7_feud_X3 4 (by decide) (wm 4 rfl) rfl dX7_feud_70 ?_
      refine lv_iconst (v := 1) hC.1 hC.2.1 dX7_feud_73 (by decide) ?_
      refine lv_iload_n hC.1 hC.2.1 dX7_feud_74 rfl (lv_at hl 2 rfl) ?_
      refine lv_ishl hC.1 hC.2.1 dX7_feud_75 ?_
      refine lv_ixor hC.1 hC.2.1 dX7_feud_76 ?_
      refine lv_topi (fun y10 ey10 => ?_)
      replace h := h y10 ey10
      refine ag_put hC hT G (k_pl (vlt hn9)) (e_pl (vlt hn9)) k_X3 i_T_X7_feud_X3 4 (by decide) (wm 4 rfl) rfl rfl (by simp) (e_pl (vlt hn9)) rfl dX7_feud_77 (fun H locs G => ?_)
      refine lv_iload hC.1 hC.2.1 dX7_feud_80 (lv_at hl 0 rfl) ?_
      refine W.widen (k := 3) (n := 18) (by decide) (by decide) ?_
      exact vx_ret (ag_zret hC hr hlocks G h.1 h.2 dX7_feud_82)
  · replace h := h.1 c3
    exact ag_throw (text := "nobody has a feud alone") (names := ["java/lang/RuntimeException", "java/lang/Exception"]) hl0 hC hT G htab hlocks hl.1 (by decide) (by decide) (wm 1 rfl) (wm 2 rfl) (List.mem_of_getElem? (i := 5) rfl) (fun _ h => List.mem_cons_of_mem _ (List.mem_append_left _ (List.mem_append_right _ h))) exIAE_all exIAE_good dX7_feud_15 dX7_feud_18 dX7_feud_19 dX7_feud_21 dX7_feud_24 (by decide) (Nat.le_of_ble_eq_true rfl) (Nat.le_of_ble_eq_true rfl) (Nat.le_of_ble_eq_true rfl) (by decide) (by decide) h
theorem hdV_X7_feud : yX7_feud.cls = RX7 ∧ yX7_feud.cls ≠ "java/lang/invoke/MethodHandle" ∧ yX7_feud.cls ≠ "java/lang/invoke/VarHandle" ∧ (parseMethodDescriptor yX7_feud.desc).map (fun d => d.parameters.length) = some 3 := by decide +kernel
abbrev rm_T_X7_road : Room := { frames := 7, cells := 3, slots := 18, locals := 102 }
theorem i_T_X7_road_X7 : ∀ w ∈ wsX70, w ∈ wsX7_road := fun _ h => List.mem_cons_of_mem _ (List.mem_append_left _ (List.mem_append_left _ (List.mem_append_left _ (List.mem_append_right _ h))))
def u_T_X7_road_23 (post : Int32 → MS → Prop) (pex : String → MS → Prop) (a1 : Int32) (a2 : Int32) (a3 : Int32) (σ : MS) : Prop := pex "java/lang/IllegalArgumentException" σ
set_option maxHeartbeats 4000000 in
set_option maxRecDepth 100000 in
theorem l_T_X7_road_23 {p : Program} {l : Launch} {e : Env} {s : State} {m : MethodId} {args : Array Value} {below : List Frame} {meth : Method} {c : Code} {D : va_G} {cy : Nat → ClassId} {lay : Nat → Nat} {post : Int32 → MS → Prop} {pex : String → MS → Prop} (a1 : Int32) (a2 : Int32) (a3 : Int32) (hl0 : l.stackTraces = false) (hC : CallFix p m c cX7_road 4 s args wsX7_road RX7) (hr : meth.sig.returnType = some .int) (hlocks : meth.locks = false) (htab : ∀ x ∈ c.exceptionTable.toList, False) (hT : agT D cy lay s) : ∀ (σ : MS), u_T_X7_road_23 post pex a1 a2 a3 σ → ∀ (H : Heap) (locs : List Loc) (ls : Array Slot), agG D cy lay σ (agA lay s.heap.size) s.heap H locs → lv_has ls 4 [(0, .ref (lay 0)), (1, .int a1), (2, .int a2), (3, .int a3)] → W p l e rm_T_X7_road s m args below meth c H locs 2 12 (vx_MQ below (va_Qi post (agO D cy lay) (agA lay s.heap.size)) (agXC D cy lay pex s.heap.size) args s 3 18 (agA lay s.heap.size)) (F0 m 23 ls []) := by
  intro σ h H locs ls G hl
  unfold u_T_X7_road_23 at h
  exact ag_throw (text := "no such road can be told") (names := ["java/lang/RuntimeException", "java/lang/Exception"]) hl0 hC hT G htab hlocks hl.1 (by decide) (by decide) (wm 1 rfl) (wm 2 rfl) (List.mem_of_getElem? (i := 6) rfl) (fun _ h => List.mem_cons_of_mem _ (List.mem_append_left _ (List.mem_append_right _ h))) exIAE_all exIAE_good dX7_road_23 dX7_road_26 dX7_road_27 dX7_road_29 dX7_road_32 (by decide) (Nat.le_of_ble_eq_true rfl) (Nat.le_of_ble_eq_true rfl) (Nat.le_of_ble_eq_true rfl) (by decide) (by decide) h
def w_T_X7_road (post : Int32 → MS → Prop) (pex : String → MS → Prop) (σ : MS) (a1 : Int32) (a2 : Int32) (a3 : Int32) : Prop := w_T_X7_checkTown (fun σ1 => w_T_X7_checkTown (fun σ2 => ((a1 = a2 → u_T_X7_road_23 post pex a1 a2 a3 σ2) ∧ (¬ a1 = a2 → ((a3 < 0 → u_T_X7_road_23 post pex a1 a2 a3 σ2) ∧ (¬ a3 < 0 → ((a3 ≤ 9 → w_X4_lay (fun σ6 => w_X4_between (fun r8 σ7 => post r8 σ7) σ6 a1 a2) σ2 a1 a2 a3) ∧ (¬ a3 ≤ 9 → u_T_X7_road_23 post pex a1 a2 a3 σ2))))))) pex σ1 a2) pex σ a1
set_option maxHeartbeats 4000000 in
set_option maxRecDepth 100000 in
theorem c_T_X7_road (l : Launch) (hl0 : l.stackTraces = false) (D : va_G) (cy : Nat → ClassId) (lay : Nat → Nat) {σ : MS} {post : Int32 → MS → Prop} {pex : String → MS → Prop} {a1 : Int32} {a2 : Int32} {a3 : Int32} (h : w_T_X7_road post pex σ a1 a2 a3) (sz : Nat) : vx_Met l yX7_road wsX7_road rm_T_X7_road (va_Pc [.ref (lay 0), .int a1, .int a2, .int a3] (agI D cy lay σ sz)) (va_Qi post (agO D cy lay) (agA lay sz)) (agXC D cy lay pex sz) 3 18 (agA lay sz) := by
  refine ag_ofX (cc := cX7_road) (maxL := 4) (ret := some .int) (own := RX7) (Qc := fun sz => va_Qi post (agO D cy lay) (agA lay sz)) (by decide) rfl (Nat.le_of_ble_eq_true rfl) rfl ?_
  intro p e s m args below meth c ls hC hr hlocks htab hT G hl
  unfold w_T_X7_road at h
  have hl : lv_has ls 4 [(0, .ref (lay 0)), (1, .int a1), (2, .int a2), (3, .int a3)] := hl
  refine lv_iload_n hC.1 hC.2.1 dX7_road_0 rfl (lv_at hl 1 rfl) ?_
  refine ag_vT G htab hlocks (ag_runST (As := [.int a1]) (rest := []) hC hT G (c_T_X7_checkTown l hl0 D cy lay h _) (va_cwS 1 hC.2.2.2.2 gX7_road_X7_checkTown rfl rfl rfl hdS_X7_checkTown ⟨Nat.le_of_ble_eq_true rfl, Nat.le_of_ble_eq_true rfl⟩) rfl hl.1 rfl (Nat.le_of_ble_eq_true rfl) dX7_road_1 ⟨Nat.le_of_ble_eq_true rfl, Nat.le_of_ble_eq_true rfl⟩) (by decide) (by decide) (fun σ1 H locs h G => ?_)
  (try dsimp only at h)
  refine lv_iload_n hC.1 hC.2.1 dX7_road_4 rfl (lv_at hl 2 rfl) ?_
  refine ag_vT G htab hlocks (ag_runST (As := [.int a2]) (rest := []) hC hT G (c_T_X7_checkTown l hl0 D cy lay h _) (va_cwS 1 hC.2.2.2.2 gX7_road_X7_checkTown rfl rfl rfl hdS_X7_checkTown ⟨Nat.le_of_ble_eq_true rfl, Nat.le_of_ble_eq_true rfl⟩) rfl hl.1 rfl (Nat.le_of_ble_eq_true rfl) dX7_road_5 ⟨Nat.le_of_ble_eq_true rfl, Nat.le_of_ble_eq_true rfl⟩) (by decide) (by decide) (fun σ2 H locs h G => ?_)
  (try dsimp only at h)
  refine lv_iload_n hC.1 hC.2.1 dX7_road_8 rfl (lv_at hl 1 rfl) ?_
  refine lv_iload_n hC.1 hC.2.1 dX7_road_9 rfl (lv_at hl 2 rfl) ?_
  refine lv_icmp_eq (tgt := 23) hC.1 hC.2.1 dX7_road_10 (by decide) (fun c3 => ?_) (fun c3 => ?_)
  · replace h := h.1 c3
    exact l_T_X7_road_23 a1 a2 a3 hl0 hC hr hlocks htab hT _ h _ _ _ G (lv_sub hl [0, 1, 2, 3] rfl)
  · replace h := h.2 c3
    refine lv_iload_n hC.1 hC.2.1 dX7_road_13 rfl (lv_at hl 3 rfl) ?_
    refine lv_if_lt (tgt := 23) hC.1 hC.2.1 dX7_road_14 (by decide) (fun c4 => ?_) (fun c4 => ?_)
    · replace h := h.1 c4
      exact l_T_X7_road_23 a1 a2 a3 hl0 hC hr hlocks htab hT _ h _ _ _ G (lv_sub hl [0, 1, 2, 3] rfl)
    · replace h := h.2 c4
      refine lv_iload_n hC.1 hC.2.1 dX7_road_17 rfl (lv_at hl 3 rfl) ?_
      refine lv_bipush (v := 9) hC.1 hC.2.1 dX7_road_18 (by decide) ?_
      refine lv_icmp_le (tgt := 33) hC.1 hC.2.1 dX7_road_20 (by decide) (fun c5 => ?_) (fun c5 => ?_)
      · replace h := h.1 c5
        refine lv_aload_n hC.1 hC.2.1 dX7_road_33 rfl (lv_at hl 0 rfl) ?_
        refine ag_get hC hT G (by decide) e_ag k_X7 i_T_X7_road_X7 4 (by decide) (wm 3 rfl) rfl dX7_road_34 ?_
        refine lv_iload_n hC.1 hC.2.1 dX7_road_37 rfl (lv_at hl 1 rfl) ?_
        refine lv_iload_n hC.1 hC.2.1 dX7_road_38 rfl (lv_at hl 2 rfl) ?_
        refine lv_iload_n hC.1 hC.2.1 dX7_road_39 rfl (lv_at hl 3 rfl) ?_
        refine ag_v G (ag_runV (As := [.int a1, .int a2, .int a3]) (rest := []) hC hT G (c_X4_lay l D cy lay h _) (cwV 3 hC.2.2.2.2 gX7_road_X4_lay rfl rfl rfl hdV_X4_lay ⟨Nat.le_of_ble_eq_true rfl, Nat.le_of_ble_eq_true rfl⟩) (ag_recv hT G (by decide) e_rd k_X4) rfl hl.1 rfl (Nat.le_of_ble_eq_true rfl) dX7_road_40 ⟨Nat.le_of_ble_eq_true rfl, Nat.le_of_ble_eq_true rfl⟩) (fun σ6 H locs h G => ?_)
        (try dsimp only at h)
        refine lv_aload_n hC.1 hC.2.1 dX7_road_43 rfl (lv_at hl 0 rfl) ?_
        refine ag_get hC hT G (by decide) e_ag k_X7 i_T_X7_road_X7 4 (by decide) (wm 3 rfl) rfl dX7_road_44 ?_
        refine lv_iload_n hC.1 hC.2.1 dX7_road_47 rfl (lv_at hl 1 rfl) ?_
        refine lv_iload_n hC.1 hC.2.1 dX7_road_48 rfl (lv_at hl 2 rfl) ?_
        refine ag_i G (ag_runV (As := [.int a1, .int a2]) (rest := []) hC hT G (c_X4_between l D cy lay h _) (cwV 2 hC.2.2.2.2 gX7_road_X4_between rfl rfl rfl hdV_X4_between ⟨Nat.le_of_ble_eq_true rfl, Nat.le_of_ble_eq_true rfl⟩) (ag_recv hT G (by decide) e_rd k_X4) rfl hl.1 rfl (Nat.le_of_ble_eq_true rfl) dX7_road_49 ⟨Nat.le_of_ble_eq_true rfl, Nat.le_of_ble_eq_true rfl⟩) (fun r8 σ7 H locs h G => ?_)
        (try dsimp only at h)
        refine W.widen (k := 3) (n := 18) (by decide) (by decide) ?_
        exact vx_ret (ag_iret hC hr hlocks G h dX7_road_52)
      · replace h := h.2 c5
        exact l_T_X7_road_23 a1 a2 a3 hl0 hC hr hlocks htab hT _ h _ _ _ G (lv_sub hl [0, 1, 2, 3] rfl)
theorem hdV_X7_road : yX7_road.cls = RX7 ∧ yX7_road.cls ≠ "java/lang/invoke/MethodHandle" ∧ yX7_road.cls ≠ "java/lang/invoke/VarHandle" ∧ (parseMethodDescriptor yX7_road.desc).map (fun d => d.parameters.length) = some 3 := by decide +kernel
abbrev rm_T_X7_band : Room := { frames := 6, cells := 1, slots := 6, locals := 82 }
theorem i_T_X7_band_X7 : ∀ w ∈ wsX70, w ∈ wsX7_band := fun _ h => List.mem_cons_of_mem _ (List.mem_append_left _ (List.mem_append_left _ (List.mem_append_left _ (List.mem_append_right _ h))))
def u_T_X7_band_20 (post : Int32 → MS → Prop) (pex : String → MS → Prop) (a1 : Int32) (σ : MS) : Prop := pex "java/lang/IllegalArgumentException" σ
set_option maxHeartbeats 4000000 in
set_option maxRecDepth 100000 in
theorem l_T_X7_band_20 {p : Program} {l : Launch} {e : Env} {s : State} {m : MethodId} {args : Array Value} {below : List Frame} {meth : Method} {c : Code} {D : va_G} {cy : Nat → ClassId} {lay : Nat → Nat} {post : Int32 → MS → Prop} {pex : String → MS → Prop} (a1 : Int32) (hl0 : l.stackTraces = false) (hC : CallFix p m c cX7_band 2 s args wsX7_band RX7) (hr : meth.sig.returnType = some .int) (hlocks : meth.locks = false) (htab : ∀ x ∈ c.exceptionTable.toList, False) (hT : agT D cy lay s) : ∀ (σ : MS), u_T_X7_band_20 post pex a1 σ → ∀ (H : Heap) (locs : List Loc) (ls : Array Slot), agG D cy lay σ (agA lay s.heap.size) s.heap H locs → lv_has ls 2 [(0, .ref (lay 0)), (1, .int a1)] → W p l e rm_T_X7_band s m args below meth c H locs 0 0 (vx_MQ below (va_Qi post (agO D cy lay) (agA lay s.heap.size)) (agXC D cy lay pex s.heap.size) args s 1 6 (agA lay s.heap.size)) (F0 m 20 ls []) := by
  intro σ h H locs ls G hl
  unfold u_T_X7_band_20 at h
  exact ag_throw (text := "not the shape of a band") (names := ["java/lang/RuntimeException", "java/lang/Exception"]) hl0 hC hT G htab hlocks hl.1 (by decide) (by decide) (wm 1 rfl) (wm 2 rfl) (List.mem_of_getElem? (i := 7) rfl) (fun _ h => List.mem_cons_of_mem _ (List.mem_append_left _ (List.mem_append_right _ h))) exIAE_all exIAE_good dX7_band_20 dX7_band_23 dX7_band_24 dX7_band_26 dX7_band_29 (by decide) (Nat.le_of_ble_eq_true rfl) (Nat.le_of_ble_eq_true rfl) (Nat.le_of_ble_eq_true rfl) (by decide) (by decide) h
def w_T_X7_band (post : Int32 → MS → Prop) (pex : String → MS → Prop) (σ : MS) (a1 : Int32) : Prop := ((a1 < 1 → u_T_X7_band_20 post pex a1 σ) ∧ (¬ a1 < 1 → ((728 < a1 → u_T_X7_band_20 post pex a1 σ) ∧ (¬ 728 < a1 → w_X7_sizeOf (fun r4 σ3 => ((r4 ≤ 5 → (((σ3 0 7) < 6 → (vp_in (σ3 0 7) 6 ∧ w_X0_take (fun σ8 => post (((up2 σ8 0 7 ((σ8 0 7) + 1)) 0 7) - 1) (up2 σ8 0 7 ((σ8 0 7) + 1))) σ3 (Int32.toNatClampNeg (σ3 0 7)) a1)) ∧ (¬ (σ3 0 7) < 6 → pex "java/lang/IllegalStateException" σ3))) ∧ (¬ r4 ≤ 5 → u_T_X7_band_20 post pex a1 σ3))) σ a1))))
set_option maxHeartbeats 4000000 in
set_option maxRecDepth 100000 in
theorem c_T_X7_band (l : Launch) (hl0 : l.stackTraces = false) (D : va_G) (cy : Nat → ClassId) (lay : Nat → Nat) {σ : MS} {post : Int32 → MS → Prop} {pex : String → MS → Prop} {a1 : Int32} (h : w_T_X7_band post pex σ a1) (sz : Nat) : vx_Met l yX7_band wsX7_band rm_T_X7_band (va_Pc [.ref (lay 0), .int a1] (agI D cy lay σ sz)) (va_Qi post (agO D cy lay) (agA lay sz)) (agXC D cy lay pex sz) 1 6 (agA lay sz) := by
  refine ag_ofX (cc := cX7_band) (maxL := 2) (ret := some .int) (own := RX7) (Qc := fun sz => va_Qi post (agO D cy lay) (agA lay sz)) (by decide) rfl (Nat.le_of_ble_eq_true rfl) rfl ?_
  intro p e s m args below meth c ls hC hr hlocks htab hT G hl
  unfold w_T_X7_band at h
  have hl : lv_has ls 2 [(0, .ref (lay 0)), (1, .int a1)] := hl
  refine lv_iload_n hC.1 hC.2.1 dX7_band_0 rfl (lv_at hl 1 rfl) ?_
  refine lv_iconst (v := 1) hC.1 hC.2.1 dX7_band_1 (by decide) ?_
  refine lv_icmp_lt (tgt := 20) hC.1 hC.2.1 dX7_band_2 (by decide) (fun c1 => ?_) (fun c1 => ?_)
  · replace h := h.1 c1
    exact l_T_X7_band_20 a1 hl0 hC hr hlocks htab hT _ h _ _ _ G (lv_sub hl [0, 1] rfl)
  · replace h := h.2 c1
    refine lv_iload_n hC.1 hC.2.1 dX7_band_5 rfl (lv_at hl 1 rfl) ?_
    refine lv_sipush (v := 728) hC.1 hC.2.1 dX7_band_6 (by decide) ?_
    refine lv_icmp_gt (tgt := 20) hC.1 hC.2.1 dX7_band_9 (by decide) (fun c2 => ?_) (fun c2 => ?_)
    · replace h := h.1 c2
      exact l_T_X7_band_20 a1 hl0 hC hr hlocks htab hT _ h _ _ _ G (lv_sub hl [0, 1] rfl)
    · replace h := h.2 c2
      refine lv_iload_n hC.1 hC.2.1 dX7_band_12 rfl (lv_at hl 1 rfl) ?_
      refine ag_i G (ag_runS (As := [.int a1]) (rest := []) hC hT G (c_X7_sizeOf l D cy lay h _) (va_cwS 1 hC.2.2.2.2 gX7_band_X7_sizeOf rfl rfl rfl hdS_X7_sizeOf ⟨Nat.le_of_ble_eq_true rfl, Nat.le_of_ble_eq_true rfl⟩) rfl hl.1 rfl (Nat.le_of_ble_eq_true rfl) dX7_band_13 ⟨Nat.le_of_ble_eq_true rfl, Nat.le_of_ble_eq_true rfl⟩) (fun r4 σ3 H locs h G => ?_)
      (try dsimp only at h)
      refine lv_iconst (v := 5) hC.1 hC.2.1 dX7_band_16 (by decide) ?_
      refine lv_icmp_le (tgt := 30) hC.1 hC.2.1 dX7_band_17 (by decide) (fun c5 => ?_) (fun c5 => ?_)
      · replace h := h.1 c5
        refine lv_aload_n hC.1 hC.2.1 dX7_band_30 rfl (lv_at hl 0 rfl) ?_
        refine ag_get hC hT G (by decide) e_ag k_X7 i_T_X7_band_X7 7 (by decide) (wm 5 rfl) rfl dX7_band_31 ?_
        refine lv_bipush (v := 6) hC.1 hC.2.1 dX7_band_34 (by decide) ?_
        refine lv_icmp_lt (tgt := 49) hC.1 hC.2.1 dX7_band_36 (by decide) (fun c6 => ?_) (fun c6 => ?_)
        · replace h := h.1 c6
          refine lv_aload_n hC.1 hC.2.1 dX7_band_49 rfl (lv_at hl 0 rfl) ?_
          refine ag_get hC hT G (by decide) e_ag k_X7 i_T_X7_band_X7 2 (by decide) (wm 6 rfl) rfl dX7_band_50 ?_
          refine lv_aload_n hC.1 hC.2.1 dX7_band_53 rfl (lv_at hl 0 rfl) ?_
          refine ag_get hC hT G (by decide) e_ag k_X7 i_T_X7_band_X7 7 (by decide) (wm 5 rfl) rfl dX7_band_54 ?_
          obtain ⟨hn7, h⟩ := h
          refine ag_aald hC hT G (by decide) _ rfl e_bds hn7 dX7_band_57 ?_
          refine lv_iload_n hC.1 hC.2.1 dX7_band_58 rfl (lv_at hl 1 rfl) ?_
          refine ag_v G (ag_runV (As := [.int a1]) (rest := []) hC hT G (c_X0_take l D cy lay h (vlt hn7) _) (cwV 1 hC.2.2.2.2 gX7_band_X0_take rfl rfl rfl hdV_X0_take ⟨Nat.le_of_ble_eq_true rfl, Nat.le_of_ble_eq_true rfl⟩) (ag_recv hT G (k_bd (vlt hn7)) (e_bd (vlt hn7)) k_X0) rfl hl.1 rfl (Nat.le_of_ble_eq_true rfl) dX7_band_59 ⟨Nat.le_of_ble_eq_true rfl, Nat.le_of_ble_eq_true rfl⟩) (fun σ8 H locs h G => ?_)
          (try dsimp only at h)
          refine lv_aload_n hC.1 hC.2.1 dX7_band_62 rfl (lv_at hl 0 rfl) ?_
          refine lv_dup hC.1 hC.2.1 dX7_band_63 rfl ?_
          refine ag_get hC hT G (by decide) e_ag k_X7 i_T_X7_band_X7 7 (by decide) (wm 5 rfl) rfl dX7_band_64 ?_
          refine lv_iconst (v := 1) hC.1 hC.2.1 dX7_band_67 (by decide) ?_
          refine lv_iadd hC.1 hC.2.1 dX7_band_68 ?_
          refine ag_put hC hT G (by decide) e_ag k_X7 i_T_X7_band_X7 7 (by decide) (wm 5 rfl) rfl rfl (by simp) e_ag rfl dX7_band_69 (fun H locs G => ?_)
          refine lv_aload_n hC.1 hC.2.1 dX7_band_72 rfl (lv_at hl 0 rfl) ?_
          refine ag_get hC hT G (by decide) e_ag k_X7 i_T_X7_band_X7 7 (by decide) (wm 5 rfl) rfl dX7_band_73 ?_
          refine lv_iconst (v := 1) hC.1 hC.2.1 dX7_band_76 (by decide) ?_
          refine lv_isub hC.1 hC.2.1 dX7_band_77 ?_
          refine W.widen (k := 1) (n := 6) (by decide) (by decide) ?_
          exact vx_ret (ag_iret hC hr hlocks G h dX7_band_78)
        · replace h := h.2 c6
          exact ag_throw (text := "there are as many bands as there can be") (names := ["java/lang/RuntimeException", "java/lang/Exception"]) hl0 hC hT G htab hlocks hl.1 (by decide) (by decide) (wm 3 rfl) (wm 4 rfl) (List.mem_of_getElem? (i := 8) rfl) (fun _ h => List.mem_cons_of_mem _ (List.mem_append_right _ h)) exISE_all exISE_good dX7_band_39 dX7_band_42 dX7_band_43 dX7_band_45 dX7_band_48 (by decide) (Nat.le_of_ble_eq_true rfl) (Nat.le_of_ble_eq_true rfl) (Nat.le_of_ble_eq_true rfl) (by decide) (by decide) h
      · replace h := h.2 c5
        exact l_T_X7_band_20 a1 hl0 hC hr hlocks htab hT _ h _ _ _ G (lv_sub hl [0, 1] rfl)
theorem hdV_X7_band : yX7_band.cls = RX7 ∧ yX7_band.cls ≠ "java/lang/invoke/MethodHandle" ∧ yX7_band.cls ≠ "java/lang/invoke/VarHandle" ∧ (parseMethodDescriptor yX7_band.desc).map (fun d => d.parameters.length) = some 1 := by decide +kernel
abbrev rm_T_X7_ask : Room := { frames := 7, cells := 3, slots := 18, locals := 103 }
theorem i_T_X7_ask_X7 : ∀ w ∈ wsX70, w ∈ wsX7_ask := fun _ h => List.mem_cons_of_mem _ (List.mem_append_left _ (List.mem_append_left _ (List.mem_append_left _ (List.mem_append_left _ (List.mem_append_right _ h)))))
theorem i_T_X7_ask_X6 : ∀ w ∈ wsX60, w ∈ wsX7_ask := fun _ h => List.mem_cons_of_mem _ (List.mem_append_left _ (List.mem_append_left _ (List.mem_append_left _ (List.mem_append_right _ h))))
def u_T_X7_ask_42 (post : Int32 → MS → Prop) (pex : String → MS → Prop) (a1 : Int32) (a2 : Int32) (a3 : Int32) (a4 : Int32) (a5 : Int32) (a6 : Int32) (σ : MS) : Prop := pex "java/lang/IllegalArgumentException" σ
set_option maxHeartbeats 4000000 in
set_option maxRecDepth 100000 in
theorem l_T_X7_ask_42 {p : Program} {l : Launch} {e : Env} {s : State} {m : MethodId} {args : Array Value} {below : List Frame} {meth : Method} {c : Code} {D : va_G} {cy : Nat → ClassId} {lay : Nat → Nat} {post : Int32 → MS → Prop} {pex : String → MS → Prop} (a1 : Int32) (a2 : Int32) (a3 : Int32) (a4 : Int32) (a5 : Int32) (a6 : Int32) (hl0 : l.stackTraces = false) (hC : CallFix p m c cX7_ask 8 s args wsX7_ask RX7) (hr : meth.sig.returnType = some .int) (hlocks : meth.locks = false) (htab : ∀ x ∈ c.exceptionTable.toList, False) (hT : agT D cy lay s) : ∀ (σ : MS), u_T_X7_ask_42 post pex a1 a2 a3 a4 a5 a6 σ → ∀ (H : Heap) (locs : List Loc) (ls : Array Slot), agG D cy lay σ (agA lay s.heap.size) s.heap H locs → lv_has ls 8 [(0, .ref (lay 0)), (1, .int a1), (2, .int a2), (3, .int a3), (4, .int a4), (5, .int a5), (6, .int a6)] → W p l e rm_T_X7_ask s m args below meth c H locs 2 12 (vx_MQ below (va_Qi post (agO D cy lay) (agA lay s.heap.size)) (agXC D cy lay pex s.heap.size) args s 3 18 (agA lay s.heap.size)) (F0 m 42 ls []) := by
  intro σ h H locs ls G hl
  unfold u_T_X7_ask_42 at h
  exact ag_throw (text := "no such wedding can be asked for") (names := ["java/lang/RuntimeException", "java/lang/Exception"]) hl0 hC hT G htab hlocks hl.1 (by decide) (by decide) (wm 1 rfl) (wm 2 rfl) (List.mem_of_getElem? (i := 9) rfl) (fun _ h => List.mem_cons_of_mem _ (List.mem_append_left _ (List.mem_append_left _ (List.mem_append_right _ h)))) exIAE_all exIAE_good dX7_ask_42 dX7_ask_45 dX7_ask_46 dX7_ask_48 dX7_ask_51 (by decide) (Nat.le_of_ble_eq_true rfl) (Nat.le_of_ble_eq_true rfl) (Nat.le_of_ble_eq_true rfl) (by decide) (by decide) h
def u_T_X7_ask_70 (post : Int32 → MS → Prop) (pex : String → MS → Prop) (a1 : Int32) (a2 : Int32) (a3 : Int32) (a4 : Int32) (a5 : Int32) (a6 : Int32) (σ : MS) : Prop := pex "java/lang/IllegalStateException" σ
set_option maxHeartbeats 4000000 in
set_option maxRecDepth 100000 in
theorem l_T_X7_ask_70 {p : Program} {l : Launch} {e : Env} {s : State} {m : MethodId} {args : Array Value} {below : List Frame} {meth : Method} {c : Code} {D : va_G} {cy : Nat → ClassId} {lay : Nat → Nat} {post : Int32 → MS → Prop} {pex : String → MS → Prop} (a1 : Int32) (a2 : Int32) (a3 : Int32) (a4 : Int32) (a5 : Int32) (a6 : Int32) (hl0 : l.stackTraces = false) (hC : CallFix p m c cX7_ask 8 s args wsX7_ask RX7) (hr : meth.sig.returnType = some .int) (hlocks : meth.locks = false) (htab : ∀ x ∈ c.exceptionTable.toList, False) (hT : agT D cy lay s) : ∀ (σ : MS), u_T_X7_ask_70 post pex a1 a2 a3 a4 a5 a6 σ → ∀ (H : Heap) (locs : List Loc) (ls : Array Slot), agG D cy lay σ (agA lay s.heap.size) s.heap H locs → lv_has ls 8 [(0, .ref (lay 0)), (1, .int a1), (2, .int a2), (3, .int a3), (4, .int a4), (5, .int a5), (6, .int a6)] → W p l e rm_T_X7_ask s m args below meth c H locs 2 12 (vx_MQ below (va_Qi post (agO D cy lay) (agA lay s.heap.size)) (agXC D cy lay pex s.heap.size) args s 3 18 (agA lay s.heap.size)) (F0 m 70 ls []) := by
  intro σ h H locs ls G hl
  unfold u_T_X7_ask_70 at h
  exact ag_throw (text := "there is no place for that wedding") (names := ["java/lang/RuntimeException", "java/lang/Exception"]) hl0 hC hT G htab hlocks hl.1 (by decide) (by decide) (wm 3 rfl) (wm 4 rfl) (List.mem_of_getElem? (i := 10) rfl) (fun _ h => List.mem_cons_of_mem _ (List.mem_append_left _ (List.mem_append_right _ h))) exISE_all exISE_good dX7_ask_70 dX7_ask_73 dX7_ask_74 dX7_ask_76 dX7_ask_79 (by decide) (Nat.le_of_ble_eq_true rfl) (Nat.le_of_ble_eq_true rfl) (Nat.le_of_ble_eq_true rfl) (by decide) (by decide) h
def w_T_X7_ask (post : Int32 → MS → Prop) (pex : String → MS → Prop) (σ : MS) (a1 : Int32) (a2 : Int32) (a3 : Int32) (a4 : Int32) (a5 : Int32) (a6 : Int32) : Prop := w_T_X7_checkBand (fun σ1 => w_T_X7_checkTown (fun σ2 => ((a2 < (σ2 0 9) → u_T_X7_ask_42 post pex a1 a2 a3 a4 a5 a6 σ2) ∧ (¬ a2 < (σ2 0 9) → ((365 < a2 → u_T_X7_ask_42 post pex a1 a2 a3 a4 a5 a6 σ2) ∧ (¬ 365 < a2 → w_X7_areHours (fun r6 σ5 => ((r6 = 0 → u_T_X7_ask_42 post pex a1 a2 a3 a4 a5 a6 σ5) ∧ (¬ r6 = 0 → w_X7_isSetOfSongs (fun r9 σ8 => ((r9 = 0 → u_T_X7_ask_42 post pex a1 a2 a3 a4 a5 a6 σ8) ∧ (¬ r9 = 0 → ((14 ≤ (σ8 0 8) → u_T_X7_ask_70 post pex a1 a2 a3 a4 a5 a6 σ8) ∧ (¬ 14 ≤ (σ8 0 8) → w_X7_isTaken (fun r13 σ12 => ((r13 = 0 → (vp_in (σ12 0 8) 14 ∧ (∀ y16 : Int32, y16 = (up2 (up2 (up2 (up2 (up2 (up2 σ12 (73 + (Int32.toNatClampNeg (σ12 0 8))) 0 a1) (73 + (Int32.toNatClampNeg (σ12 0 8))) 1 a2) (73 + (Int32.toNatClampNeg (σ12 0 8))) 2 a3) (73 + (Int32.toNatClampNeg (σ12 0 8))) 3 a4) (73 + (Int32.toNatClampNeg (σ12 0 8))) 4 a5) (73 + (Int32.toNatClampNeg (σ12 0 8))) 5 a6) 0 9 → (∀ y17 : Int32, y17 = (up2 (up2 (up2 (up2 (up2 (up2 (up2 σ12 (73 + (Int32.toNatClampNeg (σ12 0 8))) 0 a1) (73 + (Int32.toNatClampNeg (σ12 0 8))) 1 a2) (73 + (Int32.toNatClampNeg (σ12 0 8))) 2 a3) (73 + (Int32.toNatClampNeg (σ12 0 8))) 3 a4) (73 + (Int32.toNatClampNeg (σ12 0 8))) 4 a5) (73 + (Int32.toNatClampNeg (σ12 0 8))) 5 a6) (73 + (Int32.toNatClampNeg (σ12 0 8))) 6 y16) 0 8 → (∀ y18 : Int32, y18 = (up2 (up2 (up2 (up2 (up2 (up2 (up2 (up2 σ12 (73 + (Int32.toNatClampNeg (σ12 0 8))) 0 a1) (73 + (Int32.toNatClampNeg (σ12 0 8))) 1 a2) (73 + (Int32.toNatClampNeg (σ12 0 8))) 2 a3) (73 + (Int32.toNatClampNeg (σ12 0 8))) 3 a4) (73 + (Int32.toNatClampNeg (σ12 0 8))) 4 a5) (73 + (Int32.toNatClampNeg (σ12 0 8))) 5 a6) (73 + (Int32.toNatClampNeg (σ12 0 8))) 6 y16) 0 8 (y17 + 1)) 0 8 → post (y18 - 1) (up2 (up2 (up2 (up2 (up2 (up2 (up2 (up2 σ12 (73 + (Int32.toNatClampNeg (σ12 0 8))) 0 a1) (73 + (Int32.toNatClampNeg (σ12 0 8))) 1 a2) (73 + (Int32.toNatClampNeg (σ12 0 8))) 2 a3) (73 + (Int32.toNatClampNeg (σ12 0 8))) 3 a4) (73 + (Int32.toNatClampNeg (σ12 0 8))) 4 a5) (73 + (Int32.toNatClampNeg (σ12 0 8))) 5 a6) (73 + (Int32.toNatClampNeg (σ12 0 8))) 6 y16) 0 8 (y17 + 1))))))) ∧ (¬ r13 = 0 → u_T_X7_ask_70 post pex a1 a2 a3 a4 a5 a6 σ12))) σ8 a1 a2))))) σ5 a6))) σ2 a4 a5))))) pex σ1 a3) pex σ a1
set_option maxHeartbeats 4000000 in
set_option maxRecDepth 100000 in
theorem c_T_X7_ask (l : Launch) (hl0 : l.stackTraces = false) (D : va_G) (cy : Nat → ClassId) (lay : Nat → Nat) {σ : MS} {post : Int32 → MS → Prop} {pex : String → MS → Prop} {a1 : Int32} {a2 : Int32} {a3 : Int32} {a4 : Int32} {a5 : Int32} {a6 : Int32} (h : w_T_X7_ask post pex σ a1 a2 a3 a4 a5 a6) (sz : Nat) : vx_Met l yX7_ask wsX7_ask rm_T_X7_ask (va_Pc [.ref (lay 0), .int a1, .int a2, .int a3, .int a4, .int a5, .int a6] (agI D cy lay σ sz)) (va_Qi post (agO D cy lay) (agA lay sz)) (agXC D cy lay pex sz) 3 18 (agA lay sz) := by
  refine ag_ofX (cc := cX7_ask) (maxL := 8) (ret := some .int) (own := RX7) (Qc := fun sz => va_Qi post (agO D cy lay) (agA lay sz)) (by decide) rfl (Nat.le_of_ble_eq_true rfl) rfl ?_
  intro p e s m args below meth c ls hC hr hlocks htab hT G hl
  unfold w_T_X7_ask at h
  have hl : lv_has ls 8 [(0, .ref (lay 0)), (1, .int a1), (2, .int a2), (3, .int a3), (4, .int a4), (5, .int a5), (6, .int a6)] := hl
  refine lv_aload_n hC.1 hC.2.1 dX7_ask_0 rfl (lv_at hl 0 rfl) ?_
  refine lv_iload_n hC.1 hC.2.1 dX7_ask_1 rfl (lv_at hl 1 rfl) ?_
  refine ag_vT G htab hlocks (ag_runVT (As := [.int a1]) (rest := []) hC hT G (c_T_X7_checkBand l hl0 D cy lay h _) (cwV 1 hC.2.2.2.2 gX7_ask_X7_checkBand rfl rfl rfl hdV_X7_checkBand ⟨Nat.le_of_ble_eq_true rfl, Nat.le_of_ble_eq_true rfl⟩) (ag_recv hT G (by decide) e_ag k_X7) rfl hl.1 rfl (Nat.le_of_ble_eq_true rfl) dX7_ask_2 ⟨Nat.le_of_ble_eq_true rfl, Nat.le_of_ble_eq_true rfl⟩) (by decide) (by decide) (fun σ1 H locs h G => ?_)
  (try dsimp only at h)
  refine lv_iload_n hC.1 hC.2.1 dX7_ask_5 rfl (lv_at hl 3 rfl) ?_
  refine ag_vT G htab hlocks (ag_runST (As := [.int a3]) (rest := []) hC hT G (c_T_X7_checkTown l hl0 D cy lay h _) (va_cwS 1 hC.2.2.2.2 gX7_ask_X7_checkTown rfl rfl rfl hdS_X7_checkTown ⟨Nat.le_of_ble_eq_true rfl, Nat.le_of_ble_eq_true rfl⟩) rfl hl.1 rfl (Nat.le_of_ble_eq_true rfl) dX7_ask_6 ⟨Nat.le_of_ble_eq_true rfl, Nat.le_of_ble_eq_true rfl⟩) (by decide) (by decide) (fun σ2 H locs h G => ?_)
  (try dsimp only at h)
  refine lv_iload_n hC.1 hC.2.1 dX7_ask_9 rfl (lv_at hl 2 rfl) ?_
  refine lv_aload_n hC.1 hC.2.1 dX7_ask_10 rfl (lv_at hl 0 rfl) ?_
  refine ag_get hC hT G (by decide) e_ag k_X7 i_T_X7_ask_X7 9 (by decide) (wm 5 rfl) rfl dX7_ask_11 ?_
  refine lv_icmp_lt (tgt := 42) hC.1 hC.2.1 dX7_ask_14 (by decide) (fun c3 => ?_) (fun c3 => ?_)
  · replace h := h.1 c3
    exact l_T_X7_ask_42 a1 a2 a3 a4 a5 a6 hl0 hC hr hlocks htab hT _ h _ _ _ G (lv_sub hl [0, 1, 2, 3, 4, 5, 6] rfl)
  · replace h := h.2 c3
    refine lv_iload_n hC.1 hC.2.1 dX7_ask_17 rfl (lv_at hl 2 rfl) ?_
    refine lv_sipush (v := 365) hC.1 hC.2.1 dX7_ask_18 (by decide) ?_
    refine lv_icmp_gt (tgt := 42) hC.1 hC.2.1 dX7_ask_21 (by decide) (fun c4 => ?_) (fun c4 => ?_)
    · replace h := h.1 c4
      exact l_T_X7_ask_42 a1 a2 a3 a4 a5 a6 hl0 hC hr hlocks htab hT _ h _ _ _ G (lv_sub hl [0, 1, 2, 3, 4, 5, 6] rfl)
    · replace h := h.2 c4
      refine lv_iload hC.1 hC.2.1 dX7_ask_24 (lv_at hl 4 rfl) ?_
      refine lv_iload hC.1 hC.2.1 dX7_ask_26 (lv_at hl 5 rfl) ?_
      refine ag_i G (ag_runS (As := [.int a4, .int a5]) (rest := []) hC hT G (c_X7_areHours l D cy lay h _) (va_cwS 2 hC.2.2.2.2 gX7_ask_X7_areHours rfl rfl rfl hdS_X7_areHours ⟨Nat.le_of_ble_eq_true rfl, Nat.le_of_ble_eq_true rfl⟩) rfl hl.1 rfl (Nat.le_of_ble_eq_true rfl) dX7_ask_28 ⟨Nat.le_of_ble_eq_true rfl, Nat.le_of_ble_eq_true rfl⟩) (fun r6 σ5 H locs h G => ?_)
      (try dsimp only at h)
      refine lv_if_eq (tgt := 42) hC.1 hC.2.1 dX7_ask_31 (by decide) (fun c7 => ?_) (fun c7 => ?_)
      · replace h := h.1 c7
        exact l_T_X7_ask_42 a1 a2 a3 a4 a5 a6 hl0 hC hr hlocks htab hT _ h _ _ _ G (lv_sub hl [0, 1, 2, 3, 4, 5, 6] rfl)
      · replace h := h.2 c7
        refine lv_iload hC.1 hC.2.1 dX7_ask_34 (lv_at hl 6 rfl) ?_
        refine ag_i G (ag_runS (As := [.int a6]) (rest := []) hC hT G (c_X7_isSetOfSongs l D cy lay h _) (va_cwS 1 hC.2.2.2.2 gX7_ask_X7_isSetOfSongs rfl rfl rfl hdS_X7_isSetOfSongs ⟨Nat.le_of_ble_eq_true rfl, Nat.le_of_ble_eq_true rfl⟩) rfl hl.1 rfl (Nat.le_of_ble_eq_true rfl) dX7_ask_36 ⟨Nat.le_of_ble_eq_true rfl, Nat.le_of_ble_eq_true rfl⟩) (fun r9 σ8 H locs h G => ?_)
        (try dsimp only at h)
        refine lv_if_ne (tgt := 52) hC.1 hC.2.1 dX7_ask_39 (by decide) (fun c10 => ?_) (fun c10 => ?_)
        · replace h := h.2 c10
          refine lv_aload_n hC.1 hC.2.1 dX7_ask_52 rfl (lv_at hl 0 rfl) ?_
          refine ag_get hC hT G (by decide) e_ag k_X7 i_T_X7_ask_X7 8 (by decide) (wm 6 rfl) rfl dX7_ask_53 ?_
          refine lv_bipush (v := 14) hC.1 hC.2.1 dX7_ask_56 (by decide) ?_
          refine lv_icmp_ge (tgt := 70) hC.1 hC.2.1 dX7_ask_58 (by decide) (fun c11 => ?_) (fun c11 => ?_)
          · replace h := h.1 c11
            exact l_T_X7_ask_70 a1 a2 a3 a4 a5 a6 hl0 hC hr hlocks htab hT _ h _ _ _ G (lv_sub hl [0, 1, 2, 3, 4, 5, 6] rfl)
          · replace h := h.2 c11
            refine lv_aload_n hC.1 hC.2.1 dX7_ask_61 rfl (lv_at hl 0 rfl) ?_
            refine lv_iload_n hC.1 hC.2.1 dX7_ask_62 rfl (lv_at hl 1 rfl) ?_
            refine lv_iload_n hC.1 hC.2.1 dX7_ask_63 rfl (lv_at hl 2 rfl) ?_
            refine ag_i G (ag_runV (As := [.int a1, .int a2]) (rest := []) hC hT G (c_X7_isTaken l D cy lay h _) (cwV 2 hC.2.2.2.2 gX7_ask_X7_isTaken rfl rfl rfl hdV_X7_isTaken ⟨Nat.le_of_ble_eq_true rfl, Nat.le_of_ble_eq_true rfl⟩) (ag_recv hT G (by decide) e_ag k_X7) rfl hl.1 rfl (Nat.le_of_ble_eq_true rfl) dX7_ask_64 ⟨Nat.le_of_ble_eq_true rfl, Nat.le_of_ble_eq_true rfl⟩) (fun r13 σ12 H locs h G => ?_)
            (try dsimp only at h)
            refine lv_if_eq (tgt := 80) hC.1 hC.2.1 dX7_ask_67 (by decide) (fun c14 => ?_) (fun c14 => ?_)
            · replace h := h.1 c14
              refine lv_aload_n hC.1 hC.2.1 dX7_ask_80 rfl (lv_at hl 0 rfl) ?_
              refine ag_get hC hT G (by decide) e_ag k_X7 i_T_X7_ask_X7 3 (by decide) (wm 7 rfl) rfl dX7_ask_81 ?_
              refine lv_aload_n hC.1 hC.2.1 dX7_ask_84 rfl (lv_at hl 0 rfl) ?_
              refine ag_get hC hT G (by decide) e_ag k_X7 i_T_X7_ask_X7 8 (by decide) (wm 6 rfl) rfl dX7_ask_85 ?_
              obtain ⟨hn15, h⟩ := h
              refine ag_aald hC hT G (by decide) _ rfl e_wds hn15 dX7_ask_88 ?_
              refine lv_astore (lv' := [(7, .ref (lay (73 + (Int32.toNatClampNeg (σ12 0 8))))), (0, .ref (lay 0)), (1, .int a1), (2, .int a2), (3, .int a3), (4, .int a4), (5, .int a5), (6, .int a6)]) hC.1 hC.2.1 dX7_ask_89 hl (by decide) rfl (fun ls hl => ?_)
              refine lv_aload hC.1 hC.2.1 dX7_ask_91 (lv_at hl 0 rfl) ?_
              refine lv_iload_n hC.1 hC.2.1 dX7_ask_93 rfl (lv_at hl 2 rfl) ?_
              refine ag_put hC hT G (k_wd (vlt hn15)) (e_wd (vlt hn15)) k_X6 i_T_X7_ask_X6 0 (by decide) (wm 8 rfl) rfl rfl (by simp) (e_wd (vlt hn15)) rfl dX7_ask_94 (fun H locs G => ?_)
              refine lv_aload hC.1 hC.2.1 dX7_ask_97 (lv_at hl 0 rfl) ?_
              refine lv_iload_n hC.1 hC.2.1 dX7_ask_99 rfl (lv_at hl 3 rfl) ?_
              refine ag_put hC hT G (k_wd (vlt hn15)) (e_wd (vlt hn15)) k_X6 i_T_X7_ask_X6 1 (by decide) (wm 9 rfl) rfl rfl (by simp) (e_wd (vlt hn15)) rfl dX7_ask_100 (fun H locs G => ?_)
              refine lv_aload hC.1 hC.2.1 dX7_ask_103 (lv_at hl 0 rfl) ?_
              refine lv_iload_n hC.1 hC.2.1 dX7_ask_105 rfl (lv_at hl 4 rfl) ?_
              refine ag_put hC hT G (k_wd (vlt hn15)) (e_wd (vlt hn15)) k_X6 i_T_X7_ask_X6 2 (by decide) (wm 10 rfl) rfl rfl (by simp) (e_wd (vlt hn15)) rfl dX7_ask_106 (fun H locs G => ?_)
              refine lv_aload hC.1 hC.2.1 dX7_ask_109 (lv_at hl 0 rfl) ?_
              refine lv_iload hC.1 hC.2.1 dX7_ask_111 (lv_at hl 5 rfl) ?_
              refine ag_put hC hT G (k_wd (vlt hn15)) (e_wd (vlt hn15)) k_X6 i_T_X7_ask_X6 3 (by decide) (wm 11 rfl) rfl rfl (by simp) (e_wd (vlt hn15)) rfl dX7_ask_113 (fun H locs G => ?_)
              refine lv_aload hC.1 hC.2.1 dX7_ask_116 (lv_at hl 0 rfl) ?_
              refine lv_iload hC.1 hC.2.1 dX7_ask_118 (lv_at hl 6 rfl) ?_
              refine ag_put hC hT G (k_wd (vlt hn15)) (e_wd (vlt hn15)) k_X6 i_T_X7_ask_X6 4 (by decide) (wm 12 rfl) rfl rfl (by simp) (e_wd (vlt hn15)) rfl dX7_ask_120 (fun H locs G => ?_)
              refine lv_aload hC.1 hC.2.1 dX7_ask_123 (lv_at hl 0 rfl) ?_
              refine lv_iload hC.1 hC.2.1 dX7_ask_125 (lv_at hl 7 rfl) ?_
              refine ag_put hC hT G (k_wd (vlt hn15)) (e_wd (vlt hn15)) k_X6 i_T_X7_ask_X6 5 (by decide) (wm 13 rfl) rfl rfl (by simp) (e_wd (vlt hn15)) rfl dX7_ask_127 (fun H locs G => ?_)
              refine lv_aload hC.1 hC.2.1 dX7_ask_130 (lv_at hl 0 rfl) ?_
              refine lv_aload_n hC.1 hC.2.1 dX7_ask_132 rfl (lv_at hl 1 rfl) ?_
              refine ag_get hC hT G (by decide) e_ag k_X7 i_T_X7_ask_X7 9 (by decide) (wm 5 rfl) rfl dX7_ask_133 ?_
              refine lv_topi (fun y16 ey16 => ?_)
              replace h := h y16 ey16
              refine ag_put hC hT G (k_wd (vlt hn15)) (e_wd (vlt hn15)) k_X6 i_T_X7_ask_X6 6 (by decide) (wm 14 rfl) rfl rfl (by simp) (e_wd (vlt hn15)) rfl dX7_ask_136 (fun H locs G => ?_)
              refine lv_aload_n hC.1 hC.2.1 dX7_ask_139 rfl (lv_at hl 1 rfl) ?_
              refine lv_dup hC.1 hC.2.1 dX7_ask_140 rfl ?_
              refine ag_get hC hT G (by decide) e_ag k_X7 i_T_X7_ask_X7 8 (by decide) (wm 6 rfl) rfl dX7_ask_141 ?_
              refine lv_topi (fun y17 ey17 => ?_)
              replace h := h y17 ey17
              refine lv_iconst (v := 1) hC.1 hC.2.1 dX7_ask_144 (by decide) ?_
              refine lv_iadd hC.1 hC.2.1 dX7_ask_145 ?_
              refine ag_put hC hT G (by decide) e_ag k_X7 i_T_X7_ask_X7 8 (by decide) (wm 6 rfl) rfl rfl (by simp) e_ag rfl dX7_ask_146 (fun H locs G => ?_)
              refine lv_aload_n hC.1 hC.2.1 dX7_ask_149 rfl (lv_at hl 1 rfl) ?_
              refine ag_get hC hT G (by decide) e_ag k_X7 i_T_X7_ask_X7 8 (by decide) (wm 6 rfl) rfl dX7_ask_150 ?_
              refine lv_topi (fun y18 ey18 => ?_)
              replace h := h y18 ey18
              refine lv_iconst (v := 1) hC.1 hC.2.1 dX7_ask_153 (by decide) ?_
              refine lv_isub hC.1 hC.2.1 dX7_ask_154 ?_
              refine W.widen (k := 3) (n := 18) (by decide) (by decide) ?_
              exact vx_ret (ag_iret hC hr hlocks G h dX7_ask_155)
            · replace h := h.2 c14
              exact l_T_X7_ask_70 a1 a2 a3 a4 a5 a6 hl0 hC hr hlocks htab hT _ h _ _ _ G (lv_sub hl [0, 1, 2, 3, 4, 5, 6] rfl)
        · replace h := h.1 c10
          exact l_T_X7_ask_42 a1 a2 a3 a4 a5 a6 hl0 hC hr hlocks htab hT _ h _ _ _ G (lv_sub hl [0, 1, 2, 3, 4, 5, 6] rfl)
theorem hdV_X7_ask : yX7_ask.cls = RX7 ∧ yX7_ask.cls ≠ "java/lang/invoke/MethodHandle" ∧ yX7_ask.cls ≠ "java/lang/invoke/VarHandle" ∧ (parseMethodDescriptor yX7_ask.desc).map (fun d => d.parameters.length) = some 6 := by decide +kernel
abbrev rm_T_X7_fix : Room := { frames := 7, cells := 2, slots := 12, locals := 118 }
theorem i_T_X7_fix_X7 : ∀ w ∈ wsX70, w ∈ wsX7_fix := fun _ h => List.mem_cons_of_mem _ (List.mem_append_left _ (List.mem_append_left _ (List.mem_append_left _ (List.mem_append_left _ (List.mem_append_left _ (List.mem_append_left _ (List.mem_append_left _ (List.mem_append_right _ h))))))))
theorem i_T_X7_fix_X2 : ∀ w ∈ wsX20, w ∈ wsX7_fix := fun _ h => List.mem_cons_of_mem _ (List.mem_append_left _ (List.mem_append_left _ (List.mem_append_left _ (List.mem_append_left _ (List.mem_append_left _ (List.mem_append_left _ (List.mem_append_right _ h)))))))
theorem i_T_X7_fix_X6 : ∀ w ∈ wsX60, w ∈ wsX7_fix := fun _ h => List.mem_cons_of_mem _ (List.mem_append_left _ (List.mem_append_left _ (List.mem_append_left _ (List.mem_append_left _ (List.mem_append_left _ (List.mem_append_right _ h))))))
def w_T_X7_fix (post : Int32 → MS → Prop) (pex : String → MS → Prop) (σ : MS) (a1 : Int32) : Prop := w_T_X7_checkWedding (fun σ1 => w_X7_isFirst (fun r3 σ2 => ((r3 = 0 → pex "java/lang/IllegalStateException" σ2) ∧ (¬ r3 = 0 → w_X7_surveyNow (fun σ5 => (((σ5 9 3) = 0 → pex "java/lang/IllegalStateException" σ5) ∧ (¬ (σ5 9 3) = 0 → w_X7_loseQueueOf (fun σ7 => (vp_in a1 14 ∧ w_X7_priceOf (fun r10 σ9 => w_X7_getPaid (fun σ11 => post (σ11 (73 + (Int32.toNatClampNeg a1)) 9) σ11) (up2 σ9 (73 + (Int32.toNatClampNeg a1)) 9 r10) (Int32.toNatClampNeg a1) (((up2 σ9 (73 + (Int32.toNatClampNeg a1)) 9 r10) (73 + (Int32.toNatClampNeg a1)) 9) / 5)) (up2 (up2 σ7 (73 + (Int32.toNatClampNeg a1)) 7 1) (73 + (Int32.toNatClampNeg a1)) 8 ((up2 σ7 (73 + (Int32.toNatClampNeg a1)) 7 1) 9 0)) ((up2 (up2 σ7 (73 + (Int32.toNatClampNeg a1)) 7 1) (73 + (Int32.toNatClampNeg a1)) 8 ((up2 σ7 (73 + (Int32.toNatClampNeg a1)) 7 1) 9 0)) 9 1))) σ5 a1))) σ2 a1))) σ1 a1) pex σ a1
set_option maxHeartbeats 4000000 in
set_option maxRecDepth 100000 in
theorem c_T_X7_fix (l : Launch) (hl0 : l.stackTraces = false) (D : va_G) (cy : Nat → ClassId) (lay : Nat → Nat) {σ : MS} {post : Int32 → MS → Prop} {pex : String → MS → Prop} {a1 : Int32} (h : w_T_X7_fix post pex σ a1) (sz : Nat) : vx_Met l yX7_fix wsX7_fix rm_T_X7_fix (va_Pc [.ref (lay 0), .int a1] (agI D cy lay σ sz)) (va_Qi post (agO D cy lay) (agA lay sz)) (agXC D cy lay pex sz) 2 12 (agA lay sz) := by
  refine ag_ofX (cc := cX7_fix) (maxL := 3) (ret := some .int) (own := RX7) (Qc := fun sz => va_Qi post (agO D cy lay) (agA lay sz)) (by decide) rfl (Nat.le_of_ble_eq_true rfl) rfl ?_
  intro p e s m args below meth c ls hC hr hlocks htab hT G hl
  unfold w_T_X7_fix at h
  have hl : lv_has ls 3 [(0, .ref (lay 0)), (1, .int a1)] := hl
  refine lv_aload_n hC.1 hC.2.1 dX7_fix_0 rfl (lv_at hl 0 rfl) ?_
  refine lv_iload_n hC.1 hC.2.1 dX7_fix_1 rfl (lv_at hl 1 rfl) ?_
  refine ag_vT G htab hlocks (ag_runVT (As := [.int a1]) (rest := []) hC hT G (c_T_X7_checkWedding l hl0 D cy lay h _) (cwV 1 hC.2.2.2.2 gX7_fix_X7_checkWedding rfl rfl rfl hdV_X7_checkWedding ⟨Nat.le_of_ble_eq_true rfl, Nat.le_of_ble_eq_true rfl⟩) (ag_recv hT G (by decide) e_ag k_X7) rfl hl.1 rfl (Nat.le_of_ble_eq_true rfl) dX7_fix_2 ⟨Nat.le_of_ble_eq_true rfl, Nat.le_of_ble_eq_true rfl⟩) (by decide) (by decide) (fun σ1 H locs h G => ?_)
  (try dsimp only at h)
  refine lv_aload_n hC.1 hC.2.1 dX7_fix_5 rfl (lv_at hl 0 rfl) ?_
  refine lv_iload_n hC.1 hC.2.1 dX7_fix_6 rfl (lv_at hl 1 rfl) ?_
  refine ag_i G (ag_runV (As := [.int a1]) (rest := []) hC hT G (c_X7_isFirst l D cy lay h _) (cwV 1 hC.2.2.2.2 gX7_fix_X7_isFirst rfl rfl rfl hdV_X7_isFirst ⟨Nat.le_of_ble_eq_true rfl, Nat.le_of_ble_eq_true rfl⟩) (ag_recv hT G (by decide) e_ag k_X7) rfl hl.1 rfl (Nat.le_of_ble_eq_true rfl) dX7_fix_7 ⟨Nat.le_of_ble_eq_true rfl, Nat.le_of_ble_eq_true rfl⟩) (fun r3 σ2 H locs h G => ?_)
  (try dsimp only at h)
  refine lv_if_ne (tgt := 23) hC.1 hC.2.1 dX7_fix_10 (by decide) (fun c4 => ?_) (fun c4 => ?_)
  · replace h := h.2 c4
    refine lv_aload_n hC.1 hC.2.1 dX7_fix_23 rfl (lv_at hl 0 rfl) ?_
    refine lv_iload_n hC.1 hC.2.1 dX7_fix_24 rfl (lv_at hl 1 rfl) ?_
    refine ag_v G (ag_runV (As := [.int a1]) (rest := []) hC hT G (c_X7_surveyNow l D cy lay h _) (cwV 1 hC.2.2.2.2 gX7_fix_X7_surveyNow rfl rfl rfl hdV_X7_surveyNow ⟨Nat.le_of_ble_eq_true rfl, Nat.le_of_ble_eq_true rfl⟩) (ag_recv hT G (by decide) e_ag k_X7) rfl hl.1 rfl (Nat.le_of_ble_eq_true rfl) dX7_fix_25 ⟨Nat.le_of_ble_eq_true rfl, Nat.le_of_ble_eq_true rfl⟩) (fun σ5 H locs h G => ?_)
    (try dsimp only at h)
    refine lv_aload_n hC.1 hC.2.1 dX7_fix_28 rfl (lv_at hl 0 rfl) ?_
    refine ag_get hC hT G (by decide) e_ag k_X7 i_T_X7_fix_X7 13 (by decide) (wm 3 rfl) rfl dX7_fix_29 ?_
    refine ag_get hC hT G (by decide) e_fd k_X2 i_T_X7_fix_X2 3 (by decide) (wm 4 rfl) rfl dX7_fix_32 ?_
    refine lv_if_ne (tgt := 48) hC.1 hC.2.1 dX7_fix_35 (by decide) (fun c6 => ?_) (fun c6 => ?_)
    · replace h := h.2 c6
      refine lv_aload_n hC.1 hC.2.1 dX7_fix_48 rfl (lv_at hl 0 rfl) ?_
      refine lv_iload_n hC.1 hC.2.1 dX7_fix_49 rfl (lv_at hl 1 rfl) ?_
      refine ag_v G (ag_runV (As := [.int a1]) (rest := []) hC hT G (c_X7_loseQueueOf l D cy lay h _) (cwV 1 hC.2.2.2.2 gX7_fix_X7_loseQueueOf rfl rfl rfl hdV_X7_loseQueueOf ⟨Nat.le_of_ble_eq_true rfl, Nat.le_of_ble_eq_true rfl⟩) (ag_recv hT G (by decide) e_ag k_X7) rfl hl.1 rfl (Nat.le_of_ble_eq_true rfl) dX7_fix_50 ⟨Nat.le_of_ble_eq_true rfl, Nat.le_of_ble_eq_true rfl⟩) (fun σ7 H locs h G => ?_)
      (try dsimp only at h)
      refine lv_aload_n hC.1 hC.2.1 dX7_fix_53 rfl (lv_at hl 0 rfl) ?_
      refine ag_get hC hT G (by decide) e_ag k_X7 i_T_X7_fix_X7 3 (by decide) (wm 5 rfl) rfl dX7_fix_54 ?_
      refine lv_iload_n hC.1 hC.2.1 dX7_fix_57 rfl (lv_at hl 1 rfl) ?_
      obtain ⟨hn8, h⟩ := h
      refine ag_aald hC hT G (by decide) _ rfl e_wds hn8 dX7_fix_58 ?_
      refine lv_astore_n (lv' := [(2, .ref (lay (73 + (Int32.toNatClampNeg a1)))), (0, .ref (lay 0)), (1, .int a1)]) hC.1 hC.2.1 dX7_fix_59 rfl hl (by decide) rfl (fun ls hl => ?_)
      refine lv_aload_n hC.1 hC.2.1 dX7_fix_60 rfl (lv_at hl 0 rfl) ?_
      refine lv_iconst (v := 1) hC.1 hC.2.1 dX7_fix_61 (by decide) ?_
      refine ag_put hC hT G (k_wd (vlt hn8)) (e_wd (vlt hn8)) k_X6 i_T_X7_fix_X6 7 (by decide) (wm 6 rfl) rfl rfl (by simp) (e_wd (vlt hn8)) rfl dX7_fix_62 (fun H locs G => ?_)
      refine lv_aload_n hC.1 hC.2.1 dX7_fix_65 rfl (lv_at hl 0 rfl) ?_
      refine lv_aload_n hC.1 hC.2.1 dX7_fix_66 rfl (lv_at hl 1 rfl) ?_
      refine ag_get hC hT G (by decide) e_ag k_X7 i_T_X7_fix_X7 13 (by decide) (wm 3 rfl) rfl dX7_fix_67 ?_
      refine ag_get hC hT G (by decide) e_fd k_X2 i_T_X7_fix_X2 0 (by decide) (wm 7 rfl) rfl dX7_fix_70 ?_
      refine ag_put hC hT G (k_wd (vlt hn8)) (e_wd (vlt hn8)) k_X6 i_T_X7_fix_X6 8 (by decide) (wm 8 rfl) rfl rfl (by simp) (e_wd (vlt hn8)) rfl dX7_fix_73 (fun H locs G => ?_)
      refine lv_aload_n hC.1 hC.2.1 dX7_fix_76 rfl (lv_at hl 0 rfl) ?_
      refine lv_aload_n hC.1 hC.2.1 dX7_fix_77 rfl (lv_at hl 1 rfl) ?_
      refine ag_get hC hT G (by decide) e_ag k_X7 i_T_X7_fix_X7 13 (by decide) (wm 3 rfl) rfl dX7_fix_78 ?_
      refine ag_get hC hT G (by decide) e_fd k_X2 i_T_X7_fix_X2 1 (by decide) (wm 9 rfl) rfl dX7_fix_81 ?_
      refine ag_i G (ag_runS (As := [.int ((up2 (up2 σ7 (73 + (Int32.toNatClampNeg a1)) 7 1) (73 + (Int32.toNatClampNeg a1)) 8 ((up2 σ7 (73 + (Int32.toNatClampNeg a1)) 7 1) 9 0)) 9 1)]) (rest := [.ref (lay (73 + (Int32.toNatClampNeg a1)))]) hC hT G (c_X7_priceOf l D cy lay h _) (va_cwS 1 hC.2.2.2.2 gX7_fix_X7_priceOf rfl rfl rfl hdS_X7_priceOf ⟨Nat.le_of_ble_eq_true rfl, Nat.le_of_ble_eq_true rfl⟩) rfl hl.1 rfl (Nat.le_of_ble_eq_true rfl) dX7_fix_84 ⟨Nat.le_of_ble_eq_true rfl, Nat.le_of_ble_eq_true rfl⟩) (fun r10 σ9 H locs h G => ?_)
      (try dsimp only at h)
      refine ag_put hC hT G (k_wd (vlt hn8)) (e_wd (vlt hn8)) k_X6 i_T_X7_fix_X6 9 (by decide) (wm 10 rfl) rfl rfl (by simp) (e_wd (vlt hn8)) rfl dX7_fix_87 (fun H locs G => ?_)
      refine lv_aload_n hC.1 hC.2.1 dX7_fix_90 rfl (lv_at hl 1 rfl) ?_
      refine lv_aload_n hC.1 hC.2.1 dX7_fix_91 rfl (lv_at hl 0 rfl) ?_
      refine lv_aload_n hC.1 hC.2.1 dX7_fix_92 rfl (lv_at hl 0 rfl) ?_
      refine ag_get hC hT G (k_wd (vlt hn8)) (e_wd (vlt hn8)) k_X6 i_T_X7_fix_X6 9 (by decide) (wm 10 rfl) rfl dX7_fix_93 ?_
      refine lv_iconst (v := 5) hC.1 hC.2.1 dX7_fix_96 (by decide) ?_
      refine lv_idiv hC.1 hC.2.1 dX7_fix_97 (by decide) ?_
      refine ag_v G (ag_runV (As := [.ref (lay (73 + (Int32.toNatClampNeg a1))), .int (((up2 σ9 (73 + (Int32.toNatClampNeg a1)) 9 r10) (73 + (Int32.toNatClampNeg a1)) 9) / 5)]) (rest := []) hC hT G (c_X7_getPaid l D cy lay h (vlt hn8) _) (cwV 2 hC.2.2.2.2 gX7_fix_X7_getPaid rfl rfl rfl hdV_X7_getPaid ⟨Nat.le_of_ble_eq_true rfl, Nat.le_of_ble_eq_true rfl⟩) (ag_recv hT G (by decide) e_ag k_X7) rfl hl.1 rfl (Nat.le_of_ble_eq_true rfl) dX7_fix_98 ⟨Nat.le_of_ble_eq_true rfl, Nat.le_of_ble_eq_true rfl⟩) (fun σ11 H locs h G => ?_)
      (try dsimp only at h)
      refine lv_aload_n hC.1 hC.2.1 dX7_fix_101 rfl (lv_at hl 0 rfl) ?_
      refine ag_get hC hT G (k_wd (vlt hn8)) (e_wd (vlt hn8)) k_X6 i_T_X7_fix_X6 9 (by decide) (wm 10 rfl) rfl dX7_fix_102 ?_
      refine W.widen (k := 2) (n := 12) (by decide) (by decide) ?_
      exact vx_ret (ag_iret hC hr hlocks G h dX7_fix_105)
    · replace h := h.1 c6
      exact ag_throw (text := "it has no filling") (names := ["java/lang/RuntimeException", "java/lang/Exception"]) hl0 hC hT G htab hlocks hl.1 (by decide) (by decide) (wm 1 rfl) (wm 2 rfl) (List.mem_of_getElem? (i := 12) rfl) (fun _ h => List.mem_cons_of_mem _ (List.mem_append_left _ (List.mem_append_right _ h))) exISE_all exISE_good dX7_fix_38 dX7_fix_41 dX7_fix_42 dX7_fix_44 dX7_fix_47 (by decide) (Nat.le_of_ble_eq_true rfl) (Nat.le_of_ble_eq_true rfl) (Nat.le_of_ble_eq_true rfl) (by decide) (by decide) h
  · replace h := h.1 c4
    exact ag_throw (text := "it is not the first in its queue") (names := ["java/lang/RuntimeException", "java/lang/Exception"]) hl0 hC hT G htab hlocks hl.1 (by decide) (by decide) (wm 1 rfl) (wm 2 rfl) (List.mem_of_getElem? (i := 11) rfl) (fun _ h => List.mem_cons_of_mem _ (List.mem_append_left _ (List.mem_append_right _ h))) exISE_all exISE_good dX7_fix_13 dX7_fix_16 dX7_fix_17 dX7_fix_19 dX7_fix_22 (by decide) (Nat.le_of_ble_eq_true rfl) (Nat.le_of_ble_eq_true rfl) (Nat.le_of_ble_eq_true rfl) (by decide) (by decide) h
theorem hdV_X7_fix : yX7_fix.cls = RX7 ∧ yX7_fix.cls ≠ "java/lang/invoke/MethodHandle" ∧ yX7_fix.cls ≠ "java/lang/invoke/VarHandle" ∧ (parseMethodDescriptor yX7_fix.desc).map (fun d => d.parameters.length) = some 1 := by decide +kernel
abbrev rm_T_X7_cancel : Room := { frames := 7, cells := 2, slots := 12, locals := 103 }
theorem i_T_X7_cancel_X7 : ∀ w ∈ wsX70, w ∈ wsX7_cancel := fun _ h => List.mem_cons_of_mem _ (List.mem_append_left _ (List.mem_append_left _ (List.mem_append_left _ (List.mem_append_right _ h))))
theorem i_T_X7_cancel_X6 : ∀ w ∈ wsX60, w ∈ wsX7_cancel := fun _ h => List.mem_cons_of_mem _ (List.mem_append_left _ (List.mem_append_left _ (List.mem_append_right _ h)))
def u_T_X7_cancel_37 (post : Int32 → MS → Prop) (pex : String → MS → Prop) (a1 : Int32) (σ : MS) (v2 : Nat) : Prop := (((σ (73 + v2) 7) = 1 → w_X7_owedFor (fun r6 σ5 => w_X7_getPaid (fun σ7 => post r6 (up2 σ7 (73 + v2) 7 3)) σ5 v2 (if 0 < (r6 - (σ5 (73 + v2) 11)) then (r6 - (σ5 (73 + v2) 11)) else 0)) σ v2) ∧ (¬ (σ (73 + v2) 7) = 1 → post 0 (up2 σ (73 + v2) 7 3)))
set_option maxHeartbeats 4000000 in
set_option maxRecDepth 100000 in
theorem l_T_X7_cancel_37 {p : Program} {l : Launch} {e : Env} {s : State} {m : MethodId} {args : Array Value} {below : List Frame} {meth : Method} {c : Code} {D : va_G} {cy : Nat → ClassId} {lay : Nat → Nat} {post : Int32 → MS → Prop} {pex : String → MS → Prop} (a1 : Int32) (hl0 : l.stackTraces = false) (hC : CallFix p m c cX7_cancel 4 s args wsX7_cancel RX7) (hr : meth.sig.returnType = some .int) (hlocks : meth.locks = false) (htab : ∀ x ∈ c.exceptionTable.toList, False) (hT : agT D cy lay s) : ∀ (σ : MS) (v2 : Nat), u_T_X7_cancel_37 post pex a1 σ v2 → ∀ (hv2 : v2 < 14), ∀ (H : Heap) (locs : List Loc) (ls : Array Slot), agG D cy lay σ (agA lay s.heap.size) s.heap H locs → lv_has ls 4 [(0, .ref (lay 0)), (1, .int a1), (2, .ref (lay (73 + v2)))] → W p l e rm_T_X7_cancel s m args below meth c H locs 1 6 (vx_MQ below (va_Qi post (agO D cy lay) (agA lay s.heap.size)) (agXC D cy lay pex s.heap.size) args s 2 12 (agA lay s.heap.size)) (F0 m 37 ls []) := by
  intro σ v2 h hv2 H locs ls G hl
  unfold u_T_X7_cancel_37 at h
  refine lv_iconst (v := 0) hC.1 hC.2.1 dX7_cancel_37 (by decide) ?_
  refine lv_istore_n (lv' := [(3, .int 0), (0, .ref (lay 0)), (1, .int a1), (2, .ref (lay (73 + v2)))]) hC.1 hC.2.1 dX7_cancel_38 rfl hl (by decide) rfl (fun ls hl => ?_)
  refine lv_aload_n hC.1 hC.2.1 dX7_cancel_39 rfl (lv_at hl 3 rfl) ?_
  refine ag_get hC hT G (k_wd hv2) (e_wd hv2) k_X6 i_T_X7_cancel_X6 7 (by decide) (wm 4 rfl) rfl dX7_cancel_40 ?_
  refine lv_iconst (v := 1) hC.1 hC.2.1 dX7_cancel_43 (by decide) ?_
  refine lv_icmp_ne (tgt := 68) hC.1 hC.2.1 dX7_cancel_44 (by decide) (fun c4 => ?_) (fun c4 => ?_)
  · replace h := h.2 c4
    refine lv_aload_n hC.1 hC.2.1 dX7_cancel_68 rfl (lv_at hl 3 rfl) ?_
    refine lv_iconst (v := 3) hC.1 hC.2.1 dX7_cancel_69 (by decide) ?_
    refine ag_put hC hT G (k_wd hv2) (e_wd hv2) k_X6 i_T_X7_cancel_X6 7 (by decide) (wm 4 rfl) rfl rfl (by simp) (e_wd hv2) rfl dX7_cancel_70 (fun H locs G => ?_)
    refine lv_iload_n hC.1 hC.2.1 dX7_cancel_73 rfl (lv_at hl 0 rfl) ?_
    refine W.widen (k := 2) (n := 12) (by decide) (by decide) ?_
    exact vx_ret (ag_iret hC hr hlocks G h dX7_cancel_74)
  · replace h := h.1 c4
    refine lv_aload_n hC.1 hC.2.1 dX7_cancel_47 rfl (lv_at hl 1 rfl) ?_
    refine lv_aload_n hC.1 hC.2.1 dX7_cancel_48 rfl (lv_at hl 3 rfl) ?_
    refine ag_i G (ag_runV (As := [.ref (lay (73 + v2))]) (rest := []) hC hT G (c_X7_owedFor l D cy lay h hv2 _) (cwV 1 hC.2.2.2.2 gX7_cancel_X7_owedFor rfl rfl rfl hdV_X7_owedFor ⟨Nat.le_of_ble_eq_true rfl, Nat.le_of_ble_eq_true rfl⟩) (ag_recv hT G (by decide) e_ag k_X7) rfl hl.1 rfl (Nat.le_of_ble_eq_true rfl) dX7_cancel_49 ⟨Nat.le_of_ble_eq_true rfl, Nat.le_of_ble_eq_true rfl⟩) (fun r6 σ5 H locs h G => ?_)
    (try dsimp only at h)
    refine lv_istore_n (lv' := [(3, .int r6), (0, .ref (lay 0)), (1, .int a1), (2, .ref (lay (73 + v2)))]) hC.1 hC.2.1 dX7_cancel_52 rfl hl (by decide) rfl (fun ls hl => ?_)
    refine lv_aload_n hC.1 hC.2.1 dX7_cancel_53 rfl (lv_at hl 1 rfl) ?_
    refine lv_aload_n hC.1 hC.2.1 dX7_cancel_54 rfl (lv_at hl 3 rfl) ?_
    refine lv_iconst (v := 0) hC.1 hC.2.1 dX7_cancel_55 (by decide) ?_
    refine lv_iload_n hC.1 hC.2.1 dX7_cancel_56 rfl (lv_at hl 0 rfl) ?_
    refine lv_aload_n hC.1 hC.2.1 dX7_cancel_57 rfl (lv_at hl 3 rfl) ?_
    refine ag_get hC hT G (k_wd hv2) (e_wd hv2) k_X6 i_T_X7_cancel_X6 11 (by decide) (wm 5 rfl) rfl dX7_cancel_58 ?_
    refine lv_isub hC.1 hC.2.1 dX7_cancel_61 ?_
    refine va_mmax hC.1 hC.2.1 (hC.2.2.1.trans hl.1.symm) hC.2.2.2.1 (hC.2.2.2.2 _ (wm 6 rfl)) (hC.2.2.2.2 _ (wm 7 rfl)) (hC.2.2.2.2 _ (wm 8 rfl)) (hC.2.2.2.2 _ (wm 9 rfl)) (Nat.le_of_ble_eq_true rfl) (Nat.le_of_ble_eq_true rfl) (Nat.le_of_ble_eq_true rfl) (Nat.le_of_ble_eq_true rfl) dX7_cancel_62 ?_
    refine ag_v G (ag_runV (As := [.ref (lay (73 + v2)), .int (if 0 < (r6 - (σ5 (73 + v2) 11)) then (r6 - (σ5 (73 + v2) 11)) else 0)]) (rest := []) hC hT G (c_X7_getPaid l D cy lay h hv2 _) (cwV 2 hC.2.2.2.2 gX7_cancel_X7_getPaid rfl rfl rfl hdV_X7_getPaid ⟨Nat.le_of_ble_eq_true rfl, Nat.le_of_ble_eq_true rfl⟩) (ag_recv hT G (by decide) e_ag k_X7) rfl hl.1 rfl (Nat.le_of_ble_eq_true rfl) dX7_cancel_65 ⟨Nat.le_of_ble_eq_true rfl, Nat.le_of_ble_eq_true rfl⟩) (fun σ7 H locs h G => ?_)
    (try dsimp only at h)
    refine lv_aload_n hC.1 hC.2.1 dX7_cancel_68 rfl (lv_at hl 3 rfl) ?_
    refine lv_iconst (v := 3) hC.1 hC.2.1 dX7_cancel_69 (by decide) ?_
    refine ag_put hC hT G (k_wd hv2) (e_wd hv2) k_X6 i_T_X7_cancel_X6 7 (by decide) (wm 4 rfl) rfl rfl (by simp) (e_wd hv2) rfl dX7_cancel_70 (fun H locs G => ?_)
    refine lv_iload_n hC.1 hC.2.1 dX7_cancel_73 rfl (lv_at hl 0 rfl) ?_
    refine W.widen (k := 2) (n := 12) (by decide) (by decide) ?_
    exact vx_ret (ag_iret hC hr hlocks G h dX7_cancel_74)
def w_T_X7_cancel (post : Int32 → MS → Prop) (pex : String → MS → Prop) (σ : MS) (a1 : Int32) : Prop := w_T_X7_checkWedding (fun σ1 => (vp_in a1 14 ∧ (((σ1 (73 + (Int32.toNatClampNeg a1)) 7) = 0 → u_T_X7_cancel_37 post pex a1 σ1 (Int32.toNatClampNeg a1)) ∧ (¬ (σ1 (73 + (Int32.toNatClampNeg a1)) 7) = 0 → (((σ1 (73 + (Int32.toNatClampNeg a1)) 7) = 1 → u_T_X7_cancel_37 post pex a1 σ1 (Int32.toNatClampNeg a1)) ∧ (¬ (σ1 (73 + (Int32.toNatClampNeg a1)) 7) = 1 → pex "java/lang/IllegalStateException" σ1)))))) pex σ a1
set_option maxHeartbeats 4000000 in
set_option maxRecDepth 100000 in
theorem c_T_X7_cancel (l : Launch) (hl0 : l.stackTraces = false) (D : va_G) (cy : Nat → ClassId) (lay : Nat → Nat) {σ : MS} {post : Int32 → MS → Prop} {pex : String → MS → Prop} {a1 : Int32} (h : w_T_X7_cancel post pex σ a1) (sz : Nat) : vx_Met l yX7_cancel wsX7_cancel rm_T_X7_cancel (va_Pc [.ref (lay 0), .int a1] (agI D cy lay σ sz)) (va_Qi post (agO D cy lay) (agA lay sz)) (agXC D cy lay pex sz) 2 12 (agA lay sz) := by
  refine ag_ofX (cc := cX7_cancel) (maxL := 4) (ret := some .int) (own := RX7) (Qc := fun sz => va_Qi post (agO D cy lay) (agA lay sz)) (by decide) rfl (Nat.le_of_ble_eq_true rfl) rfl ?_
  intro p e s m args below meth c ls hC hr hlocks htab hT G hl
  unfold w_T_X7_cancel at h
  have hl : lv_has ls 4 [(0, .ref (lay 0)), (1, .int a1)] := hl
  refine lv_aload_n hC.1 hC.2.1 dX7_cancel_0 rfl (lv_at hl 0 rfl) ?_
  refine lv_iload_n hC.1 hC.2.1 dX7_cancel_1 rfl (lv_at hl 1 rfl) ?_
  refine ag_vT G htab hlocks (ag_runVT (As := [.int a1]) (rest := []) hC hT G (c_T_X7_checkWedding l hl0 D cy lay h _) (cwV 1 hC.2.2.2.2 gX7_cancel_X7_checkWedding rfl rfl rfl hdV_X7_checkWedding ⟨Nat.le_of_ble_eq_true rfl, Nat.le_of_ble_eq_true rfl⟩) (ag_recv hT G (by decide) e_ag k_X7) rfl hl.1 rfl (Nat.le_of_ble_eq_true rfl) dX7_cancel_2 ⟨Nat.le_of_ble_eq_true rfl, Nat.le_of_ble_eq_true rfl⟩) (by decide) (by decide) (fun σ1 H locs h G => ?_)
  (try dsimp only at h)
  refine lv_aload_n hC.1 hC.2.1 dX7_cancel_5 rfl (lv_at hl 0 rfl) ?_
  refine ag_get hC hT G (by decide) e_ag k_X7 i_T_X7_cancel_X7 3 (by decide) (wm 3 rfl) rfl dX7_cancel_6 ?_
  refine lv_iload_n hC.1 hC.2.1 dX7_cancel_9 rfl (lv_at hl 1 rfl) ?_
  obtain ⟨hn2, h⟩ := h
  refine ag_aald hC hT G (by decide) _ rfl e_wds hn2 dX7_cancel_10 ?_
  refine lv_astore_n (lv' := [(2, .ref (lay (73 + (Int32.toNatClampNeg a1)))), (0, .ref (lay 0)), (1, .int a1)]) hC.1 hC.2.1 dX7_cancel_11 rfl hl (by decide) rfl (fun ls hl => ?_)
  refine lv_aload_n hC.1 hC.2.1 dX7_cancel_12 rfl (lv_at hl 0 rfl) ?_
  refine ag_get hC hT G (k_wd (vlt hn2)) (e_wd (vlt hn2)) k_X6 i_T_X7_cancel_X6 7 (by decide) (wm 4 rfl) rfl dX7_cancel_13 ?_
  refine lv_if_eq (tgt := 37) hC.1 hC.2.1 dX7_cancel_16 (by decide) (fun c3 => ?_) (fun c3 => ?_)
  · replace h := h.1 c3
    exact l_T_X7_cancel_37 a1 hl0 hC hr hlocks htab hT _ _ h (vlt hn2) _ _ _ G (lv_sub hl [1, 2, 0] rfl)
  · replace h := h.2 c3
    refine lv_aload_n hC.1 hC.2.1 dX7_cancel_19 rfl (lv_at hl 0 rfl) ?_
    refine ag_get hC hT G (k_wd (vlt hn2)) (e_wd (vlt hn2)) k_X6 i_T_X7_cancel_X6 7 (by decide) (wm 4 rfl) rfl dX7_cancel_20 ?_
    refine lv_iconst (v := 1) hC.1 hC.2.1 dX7_cancel_23 (by decide) ?_
    refine lv_icmp_eq (tgt := 37) hC.1 hC.2.1 dX7_cancel_24 (by decide) (fun c8 => ?_) (fun c8 => ?_)
    · replace h := h.1 c8
      exact l_T_X7_cancel_37 a1 hl0 hC hr hlocks htab hT _ _ h (vlt hn2) _ _ _ G (lv_sub hl [1, 2, 0] rfl)
    · replace h := h.2 c8
      exact ag_throw (text := "it is over") (names := ["java/lang/RuntimeException", "java/lang/Exception"]) hl0 hC hT G htab hlocks hl.1 (by decide) (by decide) (wm 1 rfl) (wm 2 rfl) (List.mem_of_getElem? (i := 13) rfl) (fun _ h => List.mem_cons_of_mem _ (List.mem_append_left _ (List.mem_append_right _ h))) exISE_all exISE_good dX7_cancel_27 dX7_cancel_30 dX7_cancel_31 dX7_cancel_33 dX7_cancel_36 (by decide) (Nat.le_of_ble_eq_true rfl) (Nat.le_of_ble_eq_true rfl) (Nat.le_of_ble_eq_true rfl) (by decide) (by decide) h
theorem hdV_X7_cancel : yX7_cancel.cls = RX7 ∧ yX7_cancel.cls ≠ "java/lang/invoke/MethodHandle" ∧ yX7_cancel.cls ≠ "java/lang/invoke/VarHandle" ∧ (parseMethodDescriptor yX7_cancel.desc).map (fun d => d.parameters.length) = some 1 := by decide +kernel
abbrev rm_T_X7_ill : Room := { frames := 7, cells := 2, slots := 12, locals := 121 }
theorem i_T_X7_ill_X7 : ∀ w ∈ wsX70, w ∈ wsX7_ill := fun _ h => List.mem_cons_of_mem _ (List.mem_append_left _ (List.mem_append_left _ (List.mem_append_left _ (List.mem_append_left _ (List.mem_append_left _ (List.mem_append_left _ (List.mem_append_left _ (List.mem_append_right _ h))))))))
theorem i_T_X7_ill_X6 : ∀ w ∈ wsX60, w ∈ wsX7_ill := fun _ h => List.mem_cons_of_mem _ (List.mem_append_left _ (List.mem_append_left _ (List.mem_append_left _ (List.mem_append_left _ (List.mem_append_left _ (List.mem_append_left _ (List.mem_append_right _ h)))))))
def u_T_X7_ill_32 (post : Int32 → MS → Prop) (pex : String → MS → Prop) (a1 : Int32) (a2 : Int32) : Nat → MS → Int32 → Int32 → Prop
  | 0, _, _, _ => False
  | n + 1, σ, v3, v4 => (((σ 0 8) ≤ v4 → post v3 σ) ∧ (¬ (σ 0 8) ≤ v4 → (vp_in v4 14 ∧ (((σ (73 + (Int32.toNatClampNeg v4)) 1) = a2 → w_X6_isFixedWith (fun r11 σ10 => ((r11 = 0 → u_T_X7_ill_32 post pex a1 a2 n σ10 v3 (v4 + 1)) ∧ (¬ r11 = 0 → (vp_in v4 14 ∧ w_X7_putOnStage (fun σ14 => u_T_X7_ill_32 post pex a1 a2 n σ14 v3 (v4 + 1)) σ10 (Int32.toNatClampNeg v4) (σ10 7 (Int32.toNatClampNeg v4)))))) σ (Int32.toNatClampNeg v4) a1) ∧ (¬ (σ (73 + (Int32.toNatClampNeg v4)) 1) = a2 → u_T_X7_ill_32 post pex a1 a2 n σ v3 (v4 + 1))))))
set_option maxHeartbeats 4000000 in
set_option maxRecDepth 100000 in
theorem l_T_X7_ill_32 {p : Program} {l : Launch} {e : Env} {s : State} {m : MethodId} {args : Array Value} {below : List Frame} {meth : Method} {c : Code} {D : va_G} {cy : Nat → ClassId} {lay : Nat → Nat} {post : Int32 → MS → Prop} {pex : String → MS → Prop} (a1 : Int32) (a2 : Int32) (hl0 : l.stackTraces = false) (hC : CallFix p m c cX7_ill 6 s args wsX7_ill RX7) (hr : meth.sig.returnType = some .int) (hlocks : meth.locks = false) (htab : ∀ x ∈ c.exceptionTable.toList, False) (hT : agT D cy lay s) : ∀ (n : Nat), ∀ (σ : MS) (v3 : Int32) (v4 : Int32), u_T_X7_ill_32 post pex a1 a2 n σ v3 v4 → ∀ (H : Heap) (locs : List Loc) (ls : Array Slot), agG D cy lay σ (agA lay s.heap.size) s.heap H locs → lv_has ls 6 [(0, .ref (lay 0)), (1, .int a1), (2, .int a2), (3, .int v3), (4, .int v4)] → W p l e rm_T_X7_ill s m args below meth c H locs 2 12 (vx_MQ below (va_Qi post (agO D cy lay) (agA lay s.heap.size)) (agXC D cy lay pex s.heap.size) args s 2 12 (agA lay s.heap.size)) (F0 m 32 ls []) := by
  intro n
  induction n with
  | zero =>
    intro σ v3 v4 h
    exact h.elim
  | succ n ih =>
    intro σ v3 v4 h H locs ls G hl
    rw [u_T_X7_ill_32] at h
    refine lv_iload hC.1 hC.2.1 dX7_ill_32 (lv_at hl 4 rfl) ?_
    refine lv_aload_n hC.1 hC.2.1 dX7_ill_34 rfl (lv_at hl 0 rfl) ?_
    refine ag_get hC hT G (by decide) e_ag k_X7 i_T_X7_ill_X7 8 (by decide) (wm 2 rfl) rfl dX7_ill_35 ?_
    refine lv_icmp_ge (tgt := 87) hC.1 hC.2.1 dX7_ill_38 (by decide) (fun c7 => ?_) (fun c7 => ?_)
    · replace h := h.1 c7
      refine lv_iload_n hC.1 hC.2.1 dX7_ill_87 rfl (lv_at hl 3 rfl) ?_
      refine W.widen (k := 2) (n := 12) (by decide) (by decide) ?_
      exact vx_ret (ag_iret hC hr hlocks G h dX7_ill_88)
    · replace h := h.2 c7
      refine lv_aload_n hC.1 hC.2.1 dX7_ill_41 rfl (lv_at hl 0 rfl) ?_
      refine ag_get hC hT G (by decide) e_ag k_X7 i_T_X7_ill_X7 3 (by decide) (wm 3 rfl) rfl dX7_ill_42 ?_
      refine lv_iload hC.1 hC.2.1 dX7_ill_45 (lv_at hl 4 rfl) ?_
      obtain ⟨hn8, h⟩ := h
      refine ag_aald hC hT G (by decide) _ rfl e_wds hn8 dX7_ill_47 ?_
      refine lv_astore (lv' := [(5, .ref (lay (73 + (Int32.toNatClampNeg v4)))), (0, .ref (lay 0)), (1, .int a1), (2, .int a2), (3, .int v3), (4, .int v4)]) hC.1 hC.2.1 dX7_ill_48 hl (by decide) rfl (fun ls hl => ?_)
      refine lv_aload hC.1 hC.2.1 dX7_ill_50 (lv_at hl 0 rfl) ?_
      refine ag_get hC hT G (k_wd (vlt hn8)) (e_wd (vlt hn8)) k_X6 i_T_X7_ill_X6 1 (by decide) (wm 4 rfl) rfl dX7_ill_52 ?_
      refine lv_iload_n hC.1 hC.2.1 dX7_ill_55 rfl (lv_at hl 3 rfl) ?_
      refine lv_icmp_ne (tgt := 81) hC.1 hC.2.1 dX7_ill_56 (by decide) (fun c9 => ?_) (fun c9 => ?_)
      · replace h := h.2 c9
        refine lv_iinc (v := v4 + 1) (lv' := [(4, .int (v4 + 1)), (5, .ref (lay (73 + (Int32.toNatClampNeg v4)))), (0, .ref (lay 0)), (1, .int a1), (2, .int a2), (3, .int v3)]) hC.1 hC.2.1 dX7_ill_81 hl (k := 5) rfl rfl (by decide) rfl (fun ls hl => ?_)
        refine lv_goto (tgt := 32) hC.1 hC.2.1 dX7_ill_84 (by decide) ?_
        exact ih _ _ _ h _ _ _ G (lv_sub hl [2, 3, 4, 5, 0] rfl)
      · replace h := h.1 c9
        refine lv_aload hC.1 hC.2.1 dX7_ill_59 (lv_at hl 0 rfl) ?_
        refine lv_iload_n hC.1 hC.2.1 dX7_ill_61 rfl (lv_at hl 2 rfl) ?_
        refine ag_i G (ag_runV (As := [.int a1]) (rest := []) hC hT G (c_X6_isFixedWith l D cy lay h (vlt hn8) _) (cwV 1 hC.2.2.2.2 gX7_ill_X6_isFixedWith rfl rfl rfl hdV_X6_isFixedWith ⟨Nat.le_of_ble_eq_true rfl, Nat.le_of_ble_eq_true rfl⟩) (ag_recv hT G (k_wd (vlt hn8)) (e_wd (vlt hn8)) k_X6) rfl hl.1 rfl (Nat.le_of_ble_eq_true rfl) dX7_ill_62 ⟨Nat.le_of_ble_eq_true rfl, Nat.le_of_ble_eq_true rfl⟩) (fun r11 σ10 H locs h G => ?_)
        (try dsimp only at h)
        refine lv_if_eq (tgt := 81) hC.1 hC.2.1 dX7_ill_65 (by decide) (fun c12 => ?_) (fun c12 => ?_)
        · replace h := h.1 c12
          refine lv_iinc (v := v4 + 1) (lv' := [(4, .int (v4 + 1)), (5, .ref (lay (73 + (Int32.toNatClampNeg v4)))), (0, .ref (lay 0)), (1, .int a1), (2, .int a2), (3, .int v3)]) hC.1 hC.2.1 dX7_ill_81 hl (k := 5) rfl rfl (by decide) rfl (fun ls hl => ?_)
          refine lv_goto (tgt := 32) hC.1 hC.2.1 dX7_ill_84 (by decide) ?_
          exact ih _ _ _ h _ _ _ G (lv_sub hl [2, 3, 4, 5, 0] rfl)
        · replace h := h.2 c12
          refine lv_aload_n hC.1 hC.2.1 dX7_ill_68 rfl (lv_at hl 1 rfl) ?_
          refine lv_aload hC.1 hC.2.1 dX7_ill_69 (lv_at hl 0 rfl) ?_
          refine lv_aload_n hC.1 hC.2.1 dX7_ill_71 rfl (lv_at hl 1 rfl) ?_
          refine ag_get hC hT G (by decide) e_ag k_X7 i_T_X7_ill_X7 11 (by decide) (wm 5 rfl) rfl dX7_ill_72 ?_
          refine lv_iload hC.1 hC.2.1 dX7_ill_75 (lv_at hl 5 rfl) ?_
          obtain ⟨hn13, h⟩ := h
          refine ag_iald hC hT G (by decide) e_stg hn13 dX7_ill_77 ?_
          refine ag_v G (ag_runV (As := [.ref (lay (73 + (Int32.toNatClampNeg v4))), .int (σ10 7 (Int32.toNatClampNeg v4))]) (rest := []) hC hT G (c_X7_putOnStage l D cy lay h (vlt hn8) _) (cwV 2 hC.2.2.2.2 gX7_ill_X7_putOnStage rfl rfl rfl hdV_X7_putOnStage ⟨Nat.le_of_ble_eq_true rfl, Nat.le_of_ble_eq_true rfl⟩) (ag_recv hT G (by decide) e_ag k_X7) rfl hl.1 rfl (Nat.le_of_ble_eq_true rfl) dX7_ill_78 ⟨Nat.le_of_ble_eq_true rfl, Nat.le_of_ble_eq_true rfl⟩) (fun σ14 H locs h G => ?_)
          (try dsimp only at h)
          refine lv_iinc (v := v4 + 1) (lv' := [(4, .int (v4 + 1)), (5, .ref (lay (73 + (Int32.toNatClampNeg v4)))), (0, .ref (lay 0)), (1, .int a1), (2, .int a2), (3, .int v3)]) hC.1 hC.2.1 dX7_ill_81 hl (k := 5) rfl rfl (by decide) rfl (fun ls hl => ?_)
          refine lv_goto (tgt := 32) hC.1 hC.2.1 dX7_ill_84 (by decide) ?_
          exact ih _ _ _ h _ _ _ G (lv_sub hl [2, 3, 4, 5, 0] rfl)
def w_T_X7_ill (post : Int32 → MS → Prop) (pex : String → MS → Prop) (σ : MS) (a1 : Int32) (a2 : Int32) : Prop := w_T_X7_checkPlayer (fun σ1 => w_T_X7_checkDayToCome (fun σ2 => w_X7_stageWithout (fun r4 σ3 => (vp_in a2 366 ∧ (vp_in a2 366 ∧ (∃ k, u_T_X7_ill_32 post pex a1 a2 k (up2 σ3 6 (Int32.toNatClampNeg a2) ((σ3 6 (Int32.toNatClampNeg a2)) ||| (1 <<< (a1 &&& 31)))) r4 0)))) σ2 a1 a2) pex σ1 a2) pex σ a1
set_option maxHeartbeats 4000000 in
set_option maxRecDepth 100000 in
theorem c_T_X7_ill (l : Launch) (hl0 : l.stackTraces = false) (D : va_G) (cy : Nat → ClassId) (lay : Nat → Nat) {σ : MS} {post : Int32 → MS → Prop} {pex : String → MS → Prop} {a1 : Int32} {a2 : Int32} (h : w_T_X7_ill post pex σ a1 a2) (sz : Nat) : vx_Met l yX7_ill wsX7_ill rm_T_X7_ill (va_Pc [.ref (lay 0), .int a1, .int a2] (agI D cy lay σ sz)) (va_Qi post (agO D cy lay) (agA lay sz)) (agXC D cy lay pex sz) 2 12 (agA lay sz) := by
  refine ag_ofX (cc := cX7_ill) (maxL := 6) (ret := some .int) (own := RX7) (Qc := fun sz => va_Qi post (agO D cy lay) (agA lay sz)) (by decide) rfl (Nat.le_of_ble_eq_true rfl) rfl ?_
  intro p e s m args below meth c ls hC hr hlocks htab hT G hl
  unfold w_T_X7_ill at h
  have hl : lv_has ls 6 [(0, .ref (lay 0)), (1, .int a1), (2, .int a2)] := hl
  refine lv_aload_n hC.1 hC.2.1 dX7_ill_0 rfl (lv_at hl 0 rfl) ?_
  refine lv_iload_n hC.1 hC.2.1 dX7_ill_1 rfl (lv_at hl 1 rfl) ?_
  refine ag_vT G htab hlocks (ag_runVT (As := [.int a1]) (rest := []) hC hT G (c_T_X7_checkPlayer l hl0 D cy lay h _) (cwV 1 hC.2.2.2.2 gX7_ill_X7_checkPlayer rfl rfl rfl hdV_X7_checkPlayer ⟨Nat.le_of_ble_eq_true rfl, Nat.le_of_ble_eq_true rfl⟩) (ag_recv hT G (by decide) e_ag k_X7) rfl hl.1 rfl (Nat.le_of_ble_eq_true rfl) dX7_ill_2 ⟨Nat.le_of_ble_eq_true rfl, Nat.le_of_ble_eq_true rfl⟩) (by decide) (by decide) (fun σ1 H locs h G => ?_)
  (try dsimp only at h)
  refine lv_aload_n hC.1 hC.2.1 dX7_ill_5 rfl (lv_at hl 0 rfl) ?_
  refine lv_iload_n hC.1 hC.2.1 dX7_ill_6 rfl (lv_at hl 2 rfl) ?_
  refine ag_vT G htab hlocks (ag_runVT (As := [.int a2]) (rest := []) hC hT G (c_T_X7_checkDayToCome l hl0 D cy lay h _) (cwV 1 hC.2.2.2.2 gX7_ill_X7_checkDayToCome rfl rfl rfl hdV_X7_checkDayToCome ⟨Nat.le_of_ble_eq_true rfl, Nat.le_of_ble_eq_true rfl⟩) (ag_recv hT G (by decide) e_ag k_X7) rfl hl.1 rfl (Nat.le_of_ble_eq_true rfl) dX7_ill_7 ⟨Nat.le_of_ble_eq_true rfl, Nat.le_of_ble_eq_true rfl⟩) (by decide) (by decide) (fun σ2 H locs h G => ?_)
  (try dsimp only at h)
  refine lv_aload_n hC.1 hC.2.1 dX7_ill_10 rfl (lv_at hl 0 rfl) ?_
  refine lv_iload_n hC.1 hC.2.1 dX7_ill_11 rfl (lv_at hl 1 rfl) ?_
  refine lv_iload_n hC.1 hC.2.1 dX7_ill_12 rfl (lv_at hl 2 rfl) ?_
  refine ag_i G (ag_runV (As := [.int a1, .int a2]) (rest := []) hC hT G (c_X7_stageWithout l D cy lay h _) (cwV 2 hC.2.2.2.2 gX7_ill_X7_stageWithout rfl rfl rfl hdV_X7_stageWithout ⟨Nat.le_of_ble_eq_true rfl, Nat.le_of_ble_eq_true rfl⟩) (ag_recv hT G (by decide) e_ag k_X7) rfl hl.1 rfl (Nat.le_of_ble_eq_true rfl) dX7_ill_13 ⟨Nat.le_of_ble_eq_true rfl, Nat.le_of_ble_eq_true rfl⟩) (fun r4 σ3 H locs h G => ?_)
  (try dsimp only at h)
  refine lv_istore_n (lv' := [(3, .int r4), (0, .ref (lay 0)), (1, .int a1), (2, .int a2)]) hC.1 hC.2.1 dX7_ill_16 rfl hl (by decide) rfl (fun ls hl => ?_)
  refine lv_aload_n hC.1 hC.2.1 dX7_ill_17 rfl (lv_at hl 1 rfl) ?_
  refine ag_get hC hT G (by decide) e_ag k_X7 i_T_X7_ill_X7 5 (by decide) (wm 1 rfl) rfl dX7_ill_18 ?_
  refine lv_iload_n hC.1 hC.2.1 dX7_ill_21 rfl (lv_at hl 3 rfl) ?_
  refine lv_dup2_11 hC.1 hC.2.1 dX7_ill_22 rfl rfl ?_
  obtain ⟨hn5, h⟩ := h
  refine ag_iald hC hT G (by decide) e_off hn5 dX7_ill_23 ?_
  refine lv_iconst (v := 1) hC.1 hC.2.1 dX7_ill_24 (by decide) ?_
  refine lv_iload_n hC.1 hC.2.1 dX7_ill_25 rfl (lv_at hl 2 rfl) ?_
  refine lv_ishl hC.1 hC.2.1 dX7_ill_26 ?_
  refine lv_ior hC.1 hC.2.1 dX7_ill_27 ?_
  obtain ⟨hn6, h⟩ := h
  refine ag_iast hC hT G (by decide) (fun _ => e_off) hn6 dX7_ill_28 (fun H locs G => ?_)
  refine lv_iconst (v := 0) hC.1 hC.2.1 dX7_ill_29 (by decide) ?_
  refine lv_istore (lv' := [(4, .int 0), (3, .int r4), (0, .ref (lay 0)), (1, .int a1), (2, .int a2)]) hC.1 hC.2.1 dX7_ill_30 hl (by decide) rfl (fun ls hl => ?_)
  obtain ⟨n1, h⟩ := h
  exact l_T_X7_ill_32 a1 a2 hl0 hC hr hlocks htab hT n1 _ _ _ h _ _ _ G (lv_sub hl [2, 3, 4, 1, 0] rfl)
theorem hdV_X7_ill : yX7_ill.cls = RX7 ∧ yX7_ill.cls ≠ "java/lang/invoke/MethodHandle" ∧ yX7_ill.cls ≠ "java/lang/invoke/VarHandle" ∧ (parseMethodDescriptor yX7_ill.desc).map (fun d => d.parameters.length) = some 2 := by decide +kernel
abbrev rm_T_X7_late : Room := { frames := 7, cells := 2, slots := 12, locals := 103 }
theorem i_T_X7_late_X7 : ∀ w ∈ wsX70, w ∈ wsX7_late := fun _ h => List.mem_cons_of_mem _ (List.mem_append_left _ (List.mem_append_left _ (List.mem_append_left _ (List.mem_append_left _ (List.mem_append_right _ h)))))
theorem i_T_X7_late_X6 : ∀ w ∈ wsX60, w ∈ wsX7_late := fun _ h => List.mem_cons_of_mem _ (List.mem_append_left _ (List.mem_append_left _ (List.mem_append_left _ (List.mem_append_right _ h))))
def u_T_X7_late_16 (post : Int32 → MS → Prop) (pex : String → MS → Prop) (a1 : Int32) (a2 : Int32) (σ : MS) : Prop := pex "java/lang/IllegalArgumentException" σ
set_option maxHeartbeats 4000000 in
set_option maxRecDepth 100000 in
theorem l_T_X7_late_16 {p : Program} {l : Launch} {e : Env} {s : State} {m : MethodId} {args : Array Value} {below : List Frame} {meth : Method} {c : Code} {D : va_G} {cy : Nat → ClassId} {lay : Nat → Nat} {post : Int32 → MS → Prop} {pex : String → MS → Prop} (a1 : Int32) (a2 : Int32) (hl0 : l.stackTraces = false) (hC : CallFix p m c cX7_late 3 s args wsX7_late RX7) (hr : meth.sig.returnType = some .int) (hlocks : meth.locks = false) (htab : ∀ x ∈ c.exceptionTable.toList, False) (hT : agT D cy lay s) : ∀ (σ : MS), u_T_X7_late_16 post pex a1 a2 σ → ∀ (H : Heap) (locs : List Loc) (ls : Array Slot), agG D cy lay σ (agA lay s.heap.size) s.heap H locs → lv_has ls 3 [(0, .ref (lay 0)), (1, .int a1), (2, .int a2)] → W p l e rm_T_X7_late s m args below meth c H locs 1 6 (vx_MQ below (va_Qi post (agO D cy lay) (agA lay s.heap.size)) (agXC D cy lay pex s.heap.size) args s 2 12 (agA lay s.heap.size)) (F0 m 16 ls []) := by
  intro σ h H locs ls G hl
  unfold u_T_X7_late_16 at h
  exact ag_throwW (text := "nothing runs that late") (names := ["java/lang/RuntimeException", "java/lang/Exception"]) hl0 hC hT G htab hlocks hl.1 (by decide) (by decide) (wm 1 rfl) (wm 2 rfl) (List.mem_of_getElem? (i := 14) rfl) (fun _ h => List.mem_cons_of_mem _ (List.mem_append_left _ (List.mem_append_left _ (List.mem_append_right _ h)))) exIAE_all exIAE_good dX7_late_16 dX7_late_19 dX7_late_20 dX7_late_23 dX7_late_26 (by decide) (Nat.le_of_ble_eq_true rfl) (Nat.le_of_ble_eq_true rfl) (Nat.le_of_ble_eq_true rfl) (by decide) (by decide) h
def w_T_X7_late (post : Int32 → MS → Prop) (pex : String → MS → Prop) (σ : MS) (a1 : Int32) (a2 : Int32) : Prop := w_T_X7_checkWedding (fun σ1 => ((a2 < 0 → u_T_X7_late_16 post pex a1 a2 σ1) ∧ (¬ a2 < 0 → ((a2 ≤ 240 → (vp_in a1 14 ∧ (((σ1 (73 + (Int32.toNatClampNeg a1)) 7) = 1 → (vp_in a1 14 ∧ (vp_in a1 14 ∧ w_X6_quarters (fun r9 σ8 => post r9 σ8) (up2 σ1 (73 + (Int32.toNatClampNeg a1)) 10 a2) (Int32.toNatClampNeg a1)))) ∧ (¬ (σ1 (73 + (Int32.toNatClampNeg a1)) 7) = 1 → pex "java/lang/IllegalStateException" σ1)))) ∧ (¬ a2 ≤ 240 → u_T_X7_late_16 post pex a1 a2 σ1))))) pex σ a1
set_option maxHeartbeats 4000000 in
set_option maxRecDepth 100000 in
theorem c_T_X7_late (l : Launch) (hl0 : l.stackTraces = false) (D : va_G) (cy : Nat → ClassId) (lay : Nat → Nat) {σ : MS} {post : Int32 → MS → Prop} {pex : String → MS → Prop} {a1 : Int32} {a2 : Int32} (h : w_T_X7_late post pex σ a1 a2) (sz : Nat) : vx_Met l yX7_late wsX7_late rm_T_X7_late (va_Pc [.ref (lay 0), .int a1, .int a2] (agI D cy lay σ sz)) (va_Qi post (agO D cy lay) (agA lay sz)) (agXC D cy lay pex sz) 2 12 (agA lay sz) := by
  refine ag_ofX (cc := cX7_late) (maxL := 3) (ret := some .int) (own := RX7) (Qc := fun sz => va_Qi post (agO D cy lay) (agA lay sz)) (by decide) rfl (Nat.le_of_ble_eq_true rfl) rfl ?_
  intro p e s m args below meth c ls hC hr hlocks htab hT G hl
  unfold w_T_X7_late at h
  have hl : lv_has ls 3 [(0, .ref (lay 0)), (1, .int a1), (2, .int a2)] := hl
  refine lv_aload_n hC.1 hC.2.1 dX7_late_0 rfl (lv_at hl 0 rfl) ?_
  refine lv_iload_n hC.1 hC.2.1 dX7_late_1 rfl (lv_at hl 1 rfl) ?_
  refine ag_vT G htab hlocks (ag_runVT (As := [.int a1]) (rest := []) hC hT G (c_T_X7_checkWedding l hl0 D cy lay h _) (cwV 1 hC.2.2.2.2 gX7_late_X7_checkWedding rfl rfl rfl hdV_X7_checkWedding ⟨Nat.le_of_ble_eq_true rfl, Nat.le_of_ble_eq_true rfl⟩) (ag_recv hT G (by decide) e_ag k_X7) rfl hl.1 rfl (Nat.le_of_ble_eq_true rfl) dX7_late_2 ⟨Nat.le_of_ble_eq_true rfl, Nat.le_of_ble_eq_true rfl⟩) (by decide) (by decide) (fun σ1 H locs h G => ?_)
  (try dsimp only at h)
  refine lv_iload_n hC.1 hC.2.1 dX7_late_5 rfl (lv_at hl 2 rfl) ?_
  refine lv_if_lt (tgt := 16) hC.1 hC.2.1 dX7_late_6 (by decide) (fun c2 => ?_) (fun c2 => ?_)
  · replace h := h.1 c2
    exact l_T_X7_late_16 a1 a2 hl0 hC hr hlocks htab hT _ h _ _ _ G (lv_sub hl [0, 1, 2] rfl)
  · replace h := h.2 c2
    refine lv_iload_n hC.1 hC.2.1 dX7_late_9 rfl (lv_at hl 2 rfl) ?_
    refine lv_sipush (v := 240) hC.1 hC.2.1 dX7_late_10 (by decide) ?_
    refine lv_icmp_le (tgt := 27) hC.1 hC.2.1 dX7_late_13 (by decide) (fun c3 => ?_) (fun c3 => ?_)
    · replace h := h.1 c3
      refine lv_aload_n hC.1 hC.2.1 dX7_late_27 rfl (lv_at hl 0 rfl) ?_
      refine ag_get hC hT G (by decide) e_ag k_X7 i_T_X7_late_X7 3 (by decide) (wm 5 rfl) rfl dX7_late_28 ?_
      refine lv_iload_n hC.1 hC.2.1 dX7_late_31 rfl (lv_at hl 1 rfl) ?_
      obtain ⟨hn4, h⟩ := h
      refine ag_aald hC hT G (by decide) _ rfl e_wds hn4 dX7_late_32 ?_
      refine ag_get hC hT G (k_wd (vlt hn4)) (e_wd (vlt hn4)) k_X6 i_T_X7_late_X6 7 (by decide) (wm 6 rfl) rfl dX7_late_33 ?_
      refine lv_iconst (v := 1) hC.1 hC.2.1 dX7_late_36 (by decide) ?_
      refine lv_icmp_eq (tgt := 51) hC.1 hC.2.1 dX7_late_37 (by decide) (fun c5 => ?_) (fun c5 => ?_)
      · replace h := h.1 c5
        refine lv_aload_n hC.1 hC.2.1 dX7_late_51 rfl (lv_at hl 0 rfl) ?_
        refine ag_get hC hT G (by decide) e_ag k_X7 i_T_X7_late_X7 3 (by decide) (wm 5 rfl) rfl dX7_late_52 ?_
        refine lv_iload_n hC.1 hC.2.1 dX7_late_55 rfl (lv_at hl 1 rfl) ?_
        obtain ⟨hn6, h⟩ := h
        refine ag_aald hC hT G (by decide) _ rfl e_wds hn6 dX7_late_56 ?_
        refine lv_iload_n hC.1 hC.2.1 dX7_late_57 rfl (lv_at hl 2 rfl) ?_
        refine ag_put hC hT G (k_wd (vlt hn6)) (e_wd (vlt hn6)) k_X6 i_T_X7_late_X6 10 (by decide) (wm 7 rfl) rfl rfl (by simp) (e_wd (vlt hn6)) rfl dX7_late_58 (fun H locs G => ?_)
        refine lv_aload_n hC.1 hC.2.1 dX7_late_61 rfl (lv_at hl 0 rfl) ?_
        refine ag_get hC hT G (by decide) e_ag k_X7 i_T_X7_late_X7 3 (by decide) (wm 5 rfl) rfl dX7_late_62 ?_
        refine lv_iload_n hC.1 hC.2.1 dX7_late_65 rfl (lv_at hl 1 rfl) ?_
        obtain ⟨hn7, h⟩ := h
        refine ag_aald hC hT G (by decide) _ rfl e_wds hn7 dX7_late_66 ?_
        refine ag_i G (ag_runV (As := []) (rest := []) hC hT G (c_X6_quarters l D cy lay h (vlt hn7) _) (cwV 0 hC.2.2.2.2 gX7_late_X6_quarters rfl rfl rfl hdV_X6_quarters ⟨Nat.le_of_ble_eq_true rfl, Nat.le_of_ble_eq_true rfl⟩) (ag_recv hT G (k_wd (vlt hn7)) (e_wd (vlt hn7)) k_X6) rfl hl.1 rfl (Nat.le_of_ble_eq_true rfl) dX7_late_67 ⟨Nat.le_of_ble_eq_true rfl, Nat.le_of_ble_eq_true rfl⟩) (fun r9 σ8 H locs h G => ?_)
        (try dsimp only at h)
        refine W.widen (k := 2) (n := 12) (by decide) (by decide) ?_
        exact vx_ret (ag_iret hC hr hlocks G h dX7_late_70)
      · replace h := h.2 c5
        exact ag_throwW (text := "it is not fixed") (names := ["java/lang/RuntimeException", "java/lang/Exception"]) hl0 hC hT G htab hlocks hl.1 (by decide) (by decide) (wm 3 rfl) (wm 4 rfl) (List.mem_of_getElem? (i := 15) rfl) (fun _ h => List.mem_cons_of_mem _ (List.mem_append_left _ (List.mem_append_right _ h))) exISE_all exISE_good dX7_late_40 dX7_late_43 dX7_late_44 dX7_late_47 dX7_late_50 (by decide) (Nat.le_of_ble_eq_true rfl) (Nat.le_of_ble_eq_true rfl) (Nat.le_of_ble_eq_true rfl) (by decide) (by decide) h
    · replace h := h.2 c3
      exact l_T_X7_late_16 a1 a2 hl0 hC hr hlocks htab hT _ h _ _ _ G (lv_sub hl [0, 1, 2] rfl)
theorem hdV_X7_late : yX7_late.cls = RX7 ∧ yX7_late.cls ≠ "java/lang/invoke/MethodHandle" ∧ yX7_late.cls ≠ "java/lang/invoke/VarHandle" ∧ (parseMethodDescriptor yX7_late.desc).map (fun d => d.parameters.length) = some 2 := by decide +kernel
