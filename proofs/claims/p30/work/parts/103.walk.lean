abbrev rm_X7_isFreeFor : Room := { frames := 2, cells := 0, slots := 0, locals := 48 }
theorem i_X7_isFreeFor_X7 : ∀ w ∈ wsX70, w ∈ wsX7_isFreeFor := fun _ h => List.mem_cons_of_mem _ (List.mem_append_left _ (List.mem_append_left _ (List.mem_append_left _ (List.mem_append_right _ h))))
theorem i_X7_isFreeFor_X6 : ∀ w ∈ wsX60, w ∈ wsX7_isFreeFor := fun _ h => List.mem_cons_of_mem _ (List.mem_append_left _ (List.mem_append_left _ (List.mem_append_right _ h)))
theorem i_X7_isFreeFor_X3 : ∀ w ∈ wsX30, w ∈ wsX7_isFreeFor := fun _ h => List.mem_cons_of_mem _ (List.mem_append_left _ (List.mem_append_right _ h))
def u_X7_isFreeFor_103 (post : Int32 → MS → Prop) (a1 : Int32) (a2 : Int32) (K52 : MS → Nat → Int32 → Prop) (σ : MS) (v3 : Nat) (v4 : Int32) (t0 : Int32) : Prop := ((t0 = 0 → K52 σ v3 (v4 + 1)) ∧ (¬ t0 = 0 → w_X7_leaveTime (fun r14 σ13 => ((r14 = 0 → post 0 σ13) ∧ (¬ r14 = 0 → K52 σ13 v3 (v4 + 1)))) σ (if a2 < v4 then a2 else v4) (if v4 < a2 then a2 else v4)))
set_option maxHeartbeats 4000000 in
set_option maxRecDepth 100000 in
theorem l_X7_isFreeFor_103 {p : Program} {l : Launch} {e : Env} {s : State} {m : MethodId} {args : Array Value} {below : List Frame} {meth : Method} {c : Code} {D : va_G} {cy : Nat → ClassId} {lay : Nat → Nat} {post : Int32 → MS → Prop} (a1 : Int32) (a2 : Int32) (K52 : MS → Nat → Int32 → Prop) (hC : CallFix p m c cX7_isFreeFor 6 s args wsX7_isFreeFor RX7) (hr : meth.sig.returnType = some .boolean) (hlocks : meth.locks = false) (hT : agT D cy lay s) (hK52 : ∀ (σ : MS) (v3 : Nat) (v4 : Int32), K52 σ v3 v4 → ∀ (hv3 : v3 < 14), ∀ (H : Heap) (locs : List Loc) (ls : Array Slot), agG D cy lay σ (agA lay s.heap.size) s.heap H locs → lv_has ls 6 [(0, .ref (lay 0)), (1, .int a1), (2, .int a2), (3, .ref (lay (73 + v3))), (4, .int v4)] → W p l e rm_X7_isFreeFor s m args below meth c H locs 0 0 (MQ below (va_Qi post (agO D cy lay) (agA lay s.heap.size)) args s 0 0 (agA lay s.heap.size)) (F0 m 52 ls [])) : ∀ (σ : MS) (v3 : Nat) (v4 : Int32) (t0 : Int32), u_X7_isFreeFor_103 post a1 a2 K52 σ v3 v4 t0 → ∀ (hv3 : v3 < 14), ∀ (H : Heap) (locs : List Loc) (ls : Array Slot), agG D cy lay σ (agA lay s.heap.size) s.heap H locs → lv_has ls 6 [(0, .ref (lay 0)), (1, .int a1), (2, .int a2), (3, .ref (lay (73 + v3))), (4, .int v4)] → W p l e rm_X7_isFreeFor s m args below meth c H locs 0 0 (MQ below (va_Qi post (agO D cy lay) (agA lay s.heap.size)) args s 0 0 (agA lay s.heap.size)) (F0 m 103 ls [.int t0]) := by
  intro σ v3 v4 t0 h hv3 H locs ls G hl
  unfold u_X7_isFreeFor_103 at h
  refine lv_istore (lv' := [(5, .int t0), (0, .ref (lay 0)), (1, .int a1), (2, .int a2), (3, .ref (lay (73 + v3))), (4, .int v4)]) hC.1 hC.2.1 dX7_isFreeFor_103 hl (by decide) rfl (fun ls hl => ?_)
  refine lv_iload hC.1 hC.2.1 dX7_isFreeFor_105 (lv_at hl 0 rfl) ?_
  refine lv_if_eq (tgt := 131) hC.1 hC.2.1 dX7_isFreeFor_107 (by decide) (fun c12 => ?_) (fun c12 => ?_)
  · replace h := h.1 c12
    refine lv_iinc (v := v4 + 1) (lv' := [(4, .int (v4 + 1)), (5, .int t0), (0, .ref (lay 0)), (1, .int a1), (2, .int a2), (3, .ref (lay (73 + v3)))]) hC.1 hC.2.1 dX7_isFreeFor_131 hl (k := 5) rfl rfl (by decide) rfl (fun ls hl => ?_)
    refine lv_goto (tgt := 52) hC.1 hC.2.1 dX7_isFreeFor_134 (by decide) ?_
    exact hK52 _ _ _ h hv3 _ _ _ G (lv_sub hl [2, 3, 4, 5, 0] rfl)
  · replace h := h.2 c12
    refine lv_aload_n hC.1 hC.2.1 dX7_isFreeFor_110 rfl (lv_at hl 1 rfl) ?_
    refine lv_iload hC.1 hC.2.1 dX7_isFreeFor_111 (lv_at hl 5 rfl) ?_
    refine lv_iload_n hC.1 hC.2.1 dX7_isFreeFor_113 rfl (lv_at hl 3 rfl) ?_
    refine va_mmin hC.1 hC.2.1 (hC.2.2.1.trans hl.1.symm) hC.2.2.2.1 (hC.2.2.2.2 _ (wm 10 rfl)) (hC.2.2.2.2 _ (wm 11 rfl)) (hC.2.2.2.2 _ (wm 12 rfl)) (hC.2.2.2.2 _ (wm 13 rfl)) (Nat.le_of_ble_eq_true rfl) (Nat.le_of_ble_eq_true rfl) (Nat.le_of_ble_eq_true rfl) (Nat.le_of_ble_eq_true rfl) dX7_isFreeFor_114 ?_
    refine lv_iload hC.1 hC.2.1 dX7_isFreeFor_117 (lv_at hl 5 rfl) ?_
    refine lv_iload_n hC.1 hC.2.1 dX7_isFreeFor_119 rfl (lv_at hl 3 rfl) ?_
    refine va_mmax hC.1 hC.2.1 (hC.2.2.1.trans hl.1.symm) hC.2.2.2.1 (hC.2.2.2.2 _ (wm 14 rfl)) (hC.2.2.2.2 _ (wm 15 rfl)) (hC.2.2.2.2 _ (wm 12 rfl)) (hC.2.2.2.2 _ (wm 16 rfl)) (Nat.le_of_ble_eq_true rfl) (Nat.le_of_ble_eq_true rfl) (Nat.le_of_ble_eq_true rfl) (Nat.le_of_ble_eq_true rfl) dX7_isFreeFor_120 ?_
    refine ag_i G (ag_runV (As := [.int (if a2 < v4 then a2 else v4), .int (if v4 < a2 then a2 else v4)]) (rest := []) hC hT G (c_X7_leaveTime l D cy lay h _) (cwV 2 hC.2.2.2.2 gX7_isFreeFor_X7_leaveTime rfl rfl rfl hdV_X7_leaveTime ⟨Nat.le_of_ble_eq_true rfl, Nat.le_of_ble_eq_true rfl⟩) (ag_recv hT G (by decide) e_ag k_X7) rfl hl.1 rfl (Nat.le_of_ble_eq_true rfl) dX7_isFreeFor_123 ⟨Nat.le_of_ble_eq_true rfl, Nat.le_of_ble_eq_true rfl⟩) (fun r14 σ13 H locs h G => ?_)
    (try dsimp only at h)
    refine lv_if_ne (tgt := 131) hC.1 hC.2.1 dX7_isFreeFor_126 (by decide) (fun c15 => ?_) (fun c15 => ?_)
    · replace h := h.2 c15
      refine lv_iinc (v := v4 + 1) (lv' := [(4, .int (v4 + 1)), (5, .int t0), (0, .ref (lay 0)), (1, .int a1), (2, .int a2), (3, .ref (lay (73 + v3)))]) hC.1 hC.2.1 dX7_isFreeFor_131 hl (k := 5) rfl rfl (by decide) rfl (fun ls hl => ?_)
      refine lv_goto (tgt := 52) hC.1 hC.2.1 dX7_isFreeFor_134 (by decide) ?_
      exact hK52 _ _ _ h hv3 _ _ _ G (lv_sub hl [2, 3, 4, 5, 0] rfl)
    · replace h := h.1 c15
      refine lv_iconst (v := 0) hC.1 hC.2.1 dX7_isFreeFor_129 (by decide) ?_
      exact ag_zret hC hr hlocks G rfl h dX7_isFreeFor_130
def u_X7_isFreeFor_102 (post : Int32 → MS → Prop) (a1 : Int32) (a2 : Int32) (K52 : MS → Nat → Int32 → Prop) (σ : MS) (v3 : Nat) (v4 : Int32) : Prop := u_X7_isFreeFor_103 post a1 a2 K52 σ v3 v4 0
set_option maxHeartbeats 4000000 in
set_option maxRecDepth 100000 in
theorem l_X7_isFreeFor_102 {p : Program} {l : Launch} {e : Env} {s : State} {m : MethodId} {args : Array Value} {below : List Frame} {meth : Method} {c : Code} {D : va_G} {cy : Nat → ClassId} {lay : Nat → Nat} {post : Int32 → MS → Prop} (a1 : Int32) (a2 : Int32) (K52 : MS → Nat → Int32 → Prop) (hC : CallFix p m c cX7_isFreeFor 6 s args wsX7_isFreeFor RX7) (hr : meth.sig.returnType = some .boolean) (hlocks : meth.locks = false) (hT : agT D cy lay s) (hK52 : ∀ (σ : MS) (v3 : Nat) (v4 : Int32), K52 σ v3 v4 → ∀ (hv3 : v3 < 14), ∀ (H : Heap) (locs : List Loc) (ls : Array Slot), agG D cy lay σ (agA lay s.heap.size) s.heap H locs → lv_has ls 6 [(0, .ref (lay 0)), (1, .int a1), (2, .int a2), (3, .ref (lay (73 + v3))), (4, .int v4)] → W p l e rm_X7_isFreeFor s m args below meth c H locs 0 0 (MQ below (va_Qi post (agO D cy lay) (agA lay s.heap.size)) args s 0 0 (agA lay s.heap.size)) (F0 m 52 ls [])) : ∀ (σ : MS) (v3 : Nat) (v4 : Int32), u_X7_isFreeFor_102 post a1 a2 K52 σ v3 v4 → ∀ (hv3 : v3 < 14), ∀ (H : Heap) (locs : List Loc) (ls : Array Slot), agG D cy lay σ (agA lay s.heap.size) s.heap H locs → lv_has ls 6 [(0, .ref (lay 0)), (1, .int a1), (2, .int a2), (3, .ref (lay (73 + v3))), (4, .int v4)] → W p l e rm_X7_isFreeFor s m args below meth c H locs 0 0 (MQ below (va_Qi post (agO D cy lay) (agA lay s.heap.size)) args s 0 0 (agA lay s.heap.size)) (F0 m 102 ls []) := by
  intro σ v3 v4 h hv3 H locs ls G hl
  unfold u_X7_isFreeFor_102 at h
  refine lv_iconst (v := 0) hC.1 hC.2.1 dX7_isFreeFor_102 (by decide) ?_
  exact l_X7_isFreeFor_103 a1 a2 K52 hC hr hlocks hT hK52 _ _ _ _ h hv3 _ _ _ G (lv_sub hl [0, 1, 2, 3, 4] rfl)
def u_X7_isFreeFor_52 (post : Int32 → MS → Prop) (a1 : Int32) (a2 : Int32) : Nat → MS → Nat → Int32 → Prop
  | 0, _, _, _ => False
  | n + 1, σ, v3, v4 => (((σ 0 8) ≤ v4 → post 1 σ) ∧ (¬ (σ 0 8) ≤ v4 → ((v4 = a2 → u_X7_isFreeFor_102 post a1 a2 (fun σ w0 w1 => u_X7_isFreeFor_52 post a1 a2 n σ w0 w1) σ v3 v4) ∧ (¬ v4 = a2 → (vp_in v4 14 ∧ (((σ (73 + (Int32.toNatClampNeg v4)) 1) = (σ (73 + v3) 1) → (vp_in v4 14 ∧ w_X7_has (fun r20 σ19 => ((r20 = 0 → u_X7_isFreeFor_102 post a1 a2 (fun σ w0 w1 => u_X7_isFreeFor_52 post a1 a2 n σ w0 w1) σ19 v3 v4) ∧ (¬ r20 = 0 → u_X7_isFreeFor_103 post a1 a2 (fun σ w0 w1 => u_X7_isFreeFor_52 post a1 a2 n σ w0 w1) σ19 v3 v4 1))) σ (σ 7 (Int32.toNatClampNeg v4)) a1)) ∧ (¬ (σ (73 + (Int32.toNatClampNeg v4)) 1) = (σ (73 + v3) 1) → u_X7_isFreeFor_102 post a1 a2 (fun σ w0 w1 => u_X7_isFreeFor_52 post a1 a2 n σ w0 w1) σ v3 v4)))))))
set_option maxHeartbeats 4000000 in
set_option maxRecDepth 100000 in
theorem l_X7_isFreeFor_52 {p : Program} {l : Launch} {e : Env} {s : State} {m : MethodId} {args : Array Value} {below : List Frame} {meth : Method} {c : Code} {D : va_G} {cy : Nat → ClassId} {lay : Nat → Nat} {post : Int32 → MS → Prop} (a1 : Int32) (a2 : Int32) (hC : CallFix p m c cX7_isFreeFor 6 s args wsX7_isFreeFor RX7) (hr : meth.sig.returnType = some .boolean) (hlocks : meth.locks = false) (hT : agT D cy lay s) : ∀ (n : Nat), ∀ (σ : MS) (v3 : Nat) (v4 : Int32), u_X7_isFreeFor_52 post a1 a2 n σ v3 v4 → ∀ (hv3 : v3 < 14), ∀ (H : Heap) (locs : List Loc) (ls : Array Slot), agG D cy lay σ (agA lay s.heap.size) s.heap H locs → lv_has ls 6 [(0, .ref (lay 0)), (1, .int a1), (2, .int a2), (3, .ref (lay (73 + v3))), (4, .int v4)] → W p l e rm_X7_isFreeFor s m args below meth c H locs 0 0 (MQ below (va_Qi post (agO D cy lay) (agA lay s.heap.size)) args s 0 0 (agA lay s.heap.size)) (F0 m 52 ls []) := by
  intro n
  induction n with
  | zero =>
    intro σ v3 v4 h
    exact h.elim
  | succ n ih =>
    intro σ v3 v4 h hv3 H locs ls G hl
    rw [u_X7_isFreeFor_52] at h
    refine lv_iload hC.1 hC.2.1 dX7_isFreeFor_52 (lv_at hl 4 rfl) ?_
    refine lv_aload_n hC.1 hC.2.1 dX7_isFreeFor_54 rfl (lv_at hl 0 rfl) ?_
    refine ag_get hC hT G (by decide) e_ag k_X7 i_X7_isFreeFor_X7 8 (by decide) (wm 8 rfl) rfl dX7_isFreeFor_55 ?_
    refine lv_icmp_ge (tgt := 137) hC.1 hC.2.1 dX7_isFreeFor_58 (by decide) (fun c10 => ?_) (fun c10 => ?_)
    · replace h := h.1 c10
      refine lv_iconst (v := 1) hC.1 hC.2.1 dX7_isFreeFor_137 (by decide) ?_
      exact ag_zret hC hr hlocks G rfl h dX7_isFreeFor_138
    · replace h := h.2 c10
      refine lv_iload hC.1 hC.2.1 dX7_isFreeFor_61 (lv_at hl 4 rfl) ?_
      refine lv_iload_n hC.1 hC.2.1 dX7_isFreeFor_63 rfl (lv_at hl 2 rfl) ?_
      refine lv_icmp_eq (tgt := 102) hC.1 hC.2.1 dX7_isFreeFor_64 (by decide) (fun c11 => ?_) (fun c11 => ?_)
      · replace h := h.1 c11
        exact l_X7_isFreeFor_102 a1 a2 (fun σ w0 w1 => u_X7_isFreeFor_52 post a1 a2 n σ w0 w1) hC hr hlocks hT ih _ _ _ h hv3 _ _ _ G (lv_sub hl [0, 1, 2, 3, 4] rfl)
      · replace h := h.2 c11
        refine lv_aload_n hC.1 hC.2.1 dX7_isFreeFor_67 rfl (lv_at hl 0 rfl) ?_
        refine ag_get hC hT G (by decide) e_ag k_X7 i_X7_isFreeFor_X7 3 (by decide) (wm 1 rfl) rfl dX7_isFreeFor_68 ?_
        refine lv_iload hC.1 hC.2.1 dX7_isFreeFor_71 (lv_at hl 4 rfl) ?_
        obtain ⟨hn16, h⟩ := h
        refine ag_aald hC hT G (by decide) _ rfl e_wds hn16 dX7_isFreeFor_73 ?_
        refine ag_get hC hT G (k_wd (vlt hn16)) (e_wd (vlt hn16)) k_X6 i_X7_isFreeFor_X6 1 (by decide) (wm 3 rfl) rfl dX7_isFreeFor_74 ?_
        refine lv_aload_n hC.1 hC.2.1 dX7_isFreeFor_77 rfl (lv_at hl 3 rfl) ?_
        refine ag_get hC hT G (k_wd hv3) (e_wd hv3) k_X6 i_X7_isFreeFor_X6 1 (by decide) (wm 3 rfl) rfl dX7_isFreeFor_78 ?_
        refine lv_icmp_ne (tgt := 102) hC.1 hC.2.1 dX7_isFreeFor_81 (by decide) (fun c17 => ?_) (fun c17 => ?_)
        · replace h := h.2 c17
          exact l_X7_isFreeFor_102 a1 a2 (fun σ w0 w1 => u_X7_isFreeFor_52 post a1 a2 n σ w0 w1) hC hr hlocks hT ih _ _ _ h hv3 _ _ _ G (lv_sub hl [0, 1, 2, 3, 4] rfl)
        · replace h := h.1 c17
          refine lv_aload_n hC.1 hC.2.1 dX7_isFreeFor_84 rfl (lv_at hl 0 rfl) ?_
          refine ag_get hC hT G (by decide) e_ag k_X7 i_X7_isFreeFor_X7 11 (by decide) (wm 9 rfl) rfl dX7_isFreeFor_85 ?_
          refine lv_iload hC.1 hC.2.1 dX7_isFreeFor_88 (lv_at hl 4 rfl) ?_
          obtain ⟨hn18, h⟩ := h
          refine ag_iald hC hT G (by decide) e_stg hn18 dX7_isFreeFor_90 ?_
          refine lv_iload_n hC.1 hC.2.1 dX7_isFreeFor_91 rfl (lv_at hl 1 rfl) ?_
          refine ag_i G (ag_runS (As := [.int (σ 7 (Int32.toNatClampNeg v4)), .int a1]) (rest := []) hC hT G (c_X7_has l D cy lay h _) (va_cwS 2 hC.2.2.2.2 gX7_isFreeFor_X7_has rfl rfl rfl hdS_X7_has ⟨Nat.le_of_ble_eq_true rfl, Nat.le_of_ble_eq_true rfl⟩) rfl hl.1 rfl (Nat.le_of_ble_eq_true rfl) dX7_isFreeFor_92 ⟨Nat.le_of_ble_eq_true rfl, Nat.le_of_ble_eq_true rfl⟩) (fun r20 σ19 H locs h G => ?_)
          (try dsimp only at h)
          refine lv_if_eq (tgt := 102) hC.1 hC.2.1 dX7_isFreeFor_95 (by decide) (fun c21 => ?_) (fun c21 => ?_)
          · replace h := h.1 c21
            exact l_X7_isFreeFor_102 a1 a2 (fun σ w0 w1 => u_X7_isFreeFor_52 post a1 a2 n σ w0 w1) hC hr hlocks hT ih _ _ _ h hv3 _ _ _ G (lv_sub hl [0, 1, 2, 3, 4] rfl)
          · replace h := h.2 c21
            refine lv_iconst (v := 1) hC.1 hC.2.1 dX7_isFreeFor_98 (by decide) ?_
            refine lv_goto (tgt := 103) hC.1 hC.2.1 dX7_isFreeFor_99 (by decide) ?_
            exact l_X7_isFreeFor_103 a1 a2 (fun σ w0 w1 => u_X7_isFreeFor_52 post a1 a2 n σ w0 w1) hC hr hlocks hT ih _ _ _ _ h hv3 _ _ _ G (lv_sub hl [0, 1, 2, 3, 4] rfl)
def w_X7_isFreeFor (post : Int32 → MS → Prop) (σ : MS) (a1 : Int32) (a2 : Int32) : Prop := (vp_in a2 14 ∧ (vp_in (σ (73 + (Int32.toNatClampNeg a2)) 1) 366 ∧ w_X7_has (fun r4 σ3 => ((r4 = 0 → (vp_in a1 10 ∧ w_X4_between (fun r8 σ7 => ((r8 = (-1) → post 0 σ7) ∧ (¬ r8 = (-1) → (∃ k, u_X7_isFreeFor_52 post a1 a2 k σ7 (Int32.toNatClampNeg a2) 0)))) σ3 (σ3 (29 + (Int32.toNatClampNeg a1)) 2) (σ3 (73 + (Int32.toNatClampNeg a2)) 2))) ∧ (¬ r4 = 0 → post 0 σ3))) σ (σ 6 (Int32.toNatClampNeg (σ (73 + (Int32.toNatClampNeg a2)) 1))) a1))
set_option maxHeartbeats 4000000 in
set_option maxRecDepth 100000 in
theorem c_X7_isFreeFor (l : Launch) (D : va_G) (cy : Nat → ClassId) (lay : Nat → Nat) {σ : MS} {post : Int32 → MS → Prop} {a1 : Int32} {a2 : Int32} (h : w_X7_isFreeFor post σ a1 a2) (sz : Nat) : Met l yX7_isFreeFor wsX7_isFreeFor rm_X7_isFreeFor (va_Pc [.ref (lay 0), .int a1, .int a2] (agI D cy lay σ sz)) (va_Qi post (agO D cy lay) (agA lay sz)) 0 0 (agA lay sz) := by
  refine ag_ofW (cc := cX7_isFreeFor) (maxL := 6) (ret := some .boolean) (own := RX7) (Qc := fun sz => va_Qi post (agO D cy lay) (agA lay sz)) (by decide) rfl (Nat.le_of_ble_eq_true rfl) rfl ?_
  intro p e s m args below meth c ls hC hr hlocks hT G hl
  unfold w_X7_isFreeFor at h
  have hl : lv_has ls 6 [(0, .ref (lay 0)), (1, .int a1), (2, .int a2)] := hl
  refine lv_aload_n hC.1 hC.2.1 dX7_isFreeFor_0 rfl (lv_at hl 0 rfl) ?_
  refine ag_get hC hT G (by decide) e_ag k_X7 i_X7_isFreeFor_X7 3 (by decide) (wm 1 rfl) rfl dX7_isFreeFor_1 ?_
  refine lv_iload_n hC.1 hC.2.1 dX7_isFreeFor_4 rfl (lv_at hl 2 rfl) ?_
  obtain ⟨hn1, h⟩ := h
  refine ag_aald hC hT G (by decide) _ rfl e_wds hn1 dX7_isFreeFor_5 ?_
  refine lv_astore_n (lv' := [(3, .ref (lay (73 + (Int32.toNatClampNeg a2)))), (0, .ref (lay 0)), (1, .int a1), (2, .int a2)]) hC.1 hC.2.1 dX7_isFreeFor_6 rfl hl (by decide) rfl (fun ls hl => ?_)
  refine lv_aload_n hC.1 hC.2.1 dX7_isFreeFor_7 rfl (lv_at hl 1 rfl) ?_
  refine ag_get hC hT G (by decide) e_ag k_X7 i_X7_isFreeFor_X7 5 (by decide) (wm 2 rfl) rfl dX7_isFreeFor_8 ?_
  refine lv_aload_n hC.1 hC.2.1 dX7_isFreeFor_11 rfl (lv_at hl 0 rfl) ?_
  refine ag_get hC hT G (k_wd (vlt hn1)) (e_wd (vlt hn1)) k_X6 i_X7_isFreeFor_X6 1 (by decide) (wm 3 rfl) rfl dX7_isFreeFor_12 ?_
  obtain ⟨hn2, h⟩ := h
  refine ag_iald hC hT G (by decide) e_off hn2 dX7_isFreeFor_15 ?_
  refine lv_iload_n hC.1 hC.2.1 dX7_isFreeFor_16 rfl (lv_at hl 2 rfl) ?_
  refine ag_i G (ag_runS (As := [.int (σ 6 (Int32.toNatClampNeg (σ (73 + (Int32.toNatClampNeg a2)) 1))), .int a1]) (rest := []) hC hT G (c_X7_has l D cy lay h _) (va_cwS 2 hC.2.2.2.2 gX7_isFreeFor_X7_has rfl rfl rfl hdS_X7_has ⟨Nat.le_of_ble_eq_true rfl, Nat.le_of_ble_eq_true rfl⟩) rfl hl.1 rfl (Nat.le_of_ble_eq_true rfl) dX7_isFreeFor_17 ⟨Nat.le_of_ble_eq_true rfl, Nat.le_of_ble_eq_true rfl⟩) (fun r4 σ3 H locs h G => ?_)
  (try dsimp only at h)
  refine lv_if_ne (tgt := 47) hC.1 hC.2.1 dX7_isFreeFor_20 (by decide) (fun c5 => ?_) (fun c5 => ?_)
  · replace h := h.2 c5
    refine lv_iconst (v := 0) hC.1 hC.2.1 dX7_isFreeFor_47 (by decide) ?_
    exact ag_zret hC hr hlocks G rfl h dX7_isFreeFor_48
  · replace h := h.1 c5
    refine lv_aload_n hC.1 hC.2.1 dX7_isFreeFor_23 rfl (lv_at hl 1 rfl) ?_
    refine ag_get hC hT G (by decide) e_ag k_X7 i_X7_isFreeFor_X7 4 (by decide) (wm 4 rfl) rfl dX7_isFreeFor_24 ?_
    refine lv_aload_n hC.1 hC.2.1 dX7_isFreeFor_27 rfl (lv_at hl 1 rfl) ?_
    refine ag_get hC hT G (by decide) e_ag k_X7 i_X7_isFreeFor_X7 0 (by decide) (wm 5 rfl) rfl dX7_isFreeFor_28 ?_
    refine lv_iload_n hC.1 hC.2.1 dX7_isFreeFor_31 rfl (lv_at hl 2 rfl) ?_
    obtain ⟨hn6, h⟩ := h
    refine ag_aald hC hT G (by decide) _ rfl e_pls hn6 dX7_isFreeFor_32 ?_
    refine ag_get hC hT G (k_pl (vlt hn6)) (e_pl (vlt hn6)) k_X3 i_X7_isFreeFor_X3 2 (by decide) (wm 6 rfl) rfl dX7_isFreeFor_33 ?_
    refine lv_aload_n hC.1 hC.2.1 dX7_isFreeFor_36 rfl (lv_at hl 0 rfl) ?_
    refine ag_get hC hT G (k_wd (vlt hn1)) (e_wd (vlt hn1)) k_X6 i_X7_isFreeFor_X6 2 (by decide) (wm 7 rfl) rfl dX7_isFreeFor_37 ?_
    refine ag_i G (ag_runV (As := [.int (σ3 (29 + (Int32.toNatClampNeg a1)) 2), .int (σ3 (73 + (Int32.toNatClampNeg a2)) 2)]) (rest := []) hC hT G (c_X4_between l D cy lay h _) (cwV 2 hC.2.2.2.2 gX7_isFreeFor_X4_between rfl rfl rfl hdV_X4_between ⟨Nat.le_of_ble_eq_true rfl, Nat.le_of_ble_eq_true rfl⟩) (ag_recv hT G (by decide) e_rd k_X4) rfl hl.1 rfl (Nat.le_of_ble_eq_true rfl) dX7_isFreeFor_40 ⟨Nat.le_of_ble_eq_true rfl, Nat.le_of_ble_eq_true rfl⟩) (fun r8 σ7 H locs h G => ?_)
    (try dsimp only at h)
    refine lv_iconst (v := (-1)) hC.1 hC.2.1 dX7_isFreeFor_43 (by decide) ?_
    refine lv_icmp_ne (tgt := 49) hC.1 hC.2.1 dX7_isFreeFor_44 (by decide) (fun c9 => ?_) (fun c9 => ?_)
    · replace h := h.2 c9
      refine lv_iconst (v := 0) hC.1 hC.2.1 dX7_isFreeFor_49 (by decide) ?_
      refine lv_istore (lv' := [(4, .int 0), (3, .ref (lay (73 + (Int32.toNatClampNeg a2)))), (0, .ref (lay 0)), (1, .int a1), (2, .int a2)]) hC.1 hC.2.1 dX7_isFreeFor_50 hl (by decide) rfl (fun ls hl => ?_)
      obtain ⟨n1, h⟩ := h
      exact l_X7_isFreeFor_52 a1 a2 hC hr hlocks hT n1 _ _ _ h (vlt hn1) _ _ _ G (lv_sub hl [2, 3, 4, 1, 0] rfl)
    · replace h := h.1 c9
      refine lv_iconst (v := 0) hC.1 hC.2.1 dX7_isFreeFor_47 (by decide) ?_
      exact ag_zret hC hr hlocks G rfl h dX7_isFreeFor_48
theorem hdV_X7_isFreeFor : yX7_isFreeFor.cls = RX7 ∧ yX7_isFreeFor.cls ≠ "java/lang/invoke/MethodHandle" ∧ yX7_isFreeFor.cls ≠ "java/lang/invoke/VarHandle" ∧ (parseMethodDescriptor yX7_isFreeFor.desc).map (fun d => d.parameters.length) = some 2 := by decide +kernel
abbrev rm_X7_freeFor : Room := { frames := 3, cells := 0, slots := 0, locals := 73 }
theorem i_X7_freeFor_X7 : ∀ w ∈ wsX70, w ∈ wsX7_freeFor := fun _ h => List.mem_cons_of_mem _ (List.mem_append_left _ (List.mem_append_left _ (List.mem_append_left _ (List.mem_append_right _ h))))
def u_X7_freeFor_4 (post : Int32 → MS → Prop) (a1 : Int32) : Nat → MS → Int32 → Int32 → Prop
  | 0, _, _, _ => False
  | n + 1, σ, v2, v3 => (((σ 0 6) ≤ v3 → post v2 σ) ∧ (¬ (σ 0 6) ≤ v3 → w_X7_isFreeFor (fun r3 σ2 => ((r3 = 0 → u_X7_freeFor_4 post a1 n σ2 v2 (v3 + 1)) ∧ (¬ r3 = 0 → u_X7_freeFor_4 post a1 n σ2 (v2 ||| (1 <<< (v3 &&& 31))) (v3 + 1)))) σ v3 a1))
set_option maxHeartbeats 4000000 in
set_option maxRecDepth 100000 in
theorem l_X7_freeFor_4 {p : Program} {l : Launch} {e : Env} {s : State} {m : MethodId} {args : Array Value} {below : List Frame} {meth : Method} {c : Code} {D : va_G} {cy : Nat → ClassId} {lay : Nat → Nat} {post : Int32 → MS → Prop} (a1 : Int32) (hC : CallFix p m c cX7_freeFor 4 s args wsX7_freeFor RX7) (hr : meth.sig.returnType = some .int) (hlocks : meth.locks = false) (hT : agT D cy lay s) : ∀ (n : Nat), ∀ (σ : MS) (v2 : Int32) (v3 : Int32), u_X7_freeFor_4 post a1 n σ v2 v3 → ∀ (H : Heap) (locs : List Loc) (ls : Array Slot), agG D cy lay σ (agA lay s.heap.size) s.heap H locs → lv_has ls 4 [(0, .ref (lay 0)), (1, .int a1), (2, .int v2), (3, .int v3)] → W p l e rm_X7_freeFor s m args below meth c H locs 0 0 (MQ below (va_Qi post (agO D cy lay) (agA lay s.heap.size)) args s 0 0 (agA lay s.heap.size)) (F0 m 4 ls []) := by
  intro n
  induction n with
  | zero =>
    intro σ v2 v3 h
    exact h.elim
  | succ n ih =>
    intro σ v2 v3 h H locs ls G hl
    rw [u_X7_freeFor_4] at h
    refine lv_iload_n hC.1 hC.2.1 dX7_freeFor_4 rfl (lv_at hl 3 rfl) ?_
    refine lv_aload_n hC.1 hC.2.1 dX7_freeFor_5 rfl (lv_at hl 0 rfl) ?_
    refine ag_get hC hT G (by decide) e_ag k_X7 i_X7_freeFor_X7 6 (by decide) (wm 1 rfl) rfl dX7_freeFor_6 ?_
    refine lv_icmp_ge (tgt := 33) hC.1 hC.2.1 dX7_freeFor_9 (by decide) (fun c1 => ?_) (fun c1 => ?_)
    · replace h := h.1 c1
      refine lv_iload_n hC.1 hC.2.1 dX7_freeFor_33 rfl (lv_at hl 2 rfl) ?_
      exact ag_iret hC hr hlocks G h dX7_freeFor_34
    · replace h := h.2 c1
      refine lv_aload_n hC.1 hC.2.1 dX7_freeFor_12 rfl (lv_at hl 0 rfl) ?_
      refine lv_iload_n hC.1 hC.2.1 dX7_freeFor_13 rfl (lv_at hl 3 rfl) ?_
      refine lv_iload_n hC.1 hC.2.1 dX7_freeFor_14 rfl (lv_at hl 1 rfl) ?_
      refine ag_i G (ag_runV (As := [.int v3, .int a1]) (rest := []) hC hT G (c_X7_isFreeFor l D cy lay h _) (cwV 2 hC.2.2.2.2 gX7_freeFor_X7_isFreeFor rfl rfl rfl hdV_X7_isFreeFor ⟨Nat.le_of_ble_eq_true rfl, Nat.le_of_ble_eq_true rfl⟩) (ag_recv hT G (by decide) e_ag k_X7) rfl hl.1 rfl (Nat.le_of_ble_eq_true rfl) dX7_freeFor_15 ⟨Nat.le_of_ble_eq_true rfl, Nat.le_of_ble_eq_true rfl⟩) (fun r3 σ2 H locs h G => ?_)
      (try dsimp only at h)
      refine lv_if_eq (tgt := 27) hC.1 hC.2.1 dX7_freeFor_18 (by decide) (fun c4 => ?_) (fun c4 => ?_)
      · replace h := h.1 c4
        refine lv_iinc (v := v3 + 1) (lv' := [(3, .int (v3 + 1)), (0, .ref (lay 0)), (1, .int a1), (2, .int v2)]) hC.1 hC.2.1 dX7_freeFor_27 hl (k := 3) rfl rfl (by decide) rfl (fun ls hl => ?_)
        refine lv_goto (tgt := 4) hC.1 hC.2.1 dX7_freeFor_30 (by decide) ?_
        exact ih _ _ _ h _ _ _ G (lv_sub hl [1, 2, 3, 0] rfl)
      · replace h := h.2 c4
        refine lv_iload_n hC.1 hC.2.1 dX7_freeFor_21 rfl (lv_at hl 2 rfl) ?_
        refine lv_iconst (v := 1) hC.1 hC.2.1 dX7_freeFor_22 (by decide) ?_
        refine lv_iload_n hC.1 hC.2.1 dX7_freeFor_23 rfl (lv_at hl 3 rfl) ?_
        refine lv_ishl hC.1 hC.2.1 dX7_freeFor_24 ?_
        refine lv_ior hC.1 hC.2.1 dX7_freeFor_25 ?_
        refine lv_istore_n (lv' := [(2, .int (v2 ||| (1 <<< (v3 &&& 31)))), (0, .ref (lay 0)), (1, .int a1), (3, .int v3)]) hC.1 hC.2.1 dX7_freeFor_26 rfl hl (by decide) rfl (fun ls hl => ?_)
        refine lv_iinc (v := v3 + 1) (lv' := [(3, .int (v3 + 1)), (2, .int (v2 ||| (1 <<< (v3 &&& 31)))), (0, .ref (lay 0)), (1, .int a1)]) hC.1 hC.2.1 dX7_freeFor_27 hl (k := 3) rfl rfl (by decide) rfl (fun ls hl => ?_)
        refine lv_goto (tgt := 4) hC.1 hC.2.1 dX7_freeFor_30 (by decide) ?_
        exact ih _ _ _ h _ _ _ G (lv_sub hl [2, 3, 1, 0] rfl)
def w_X7_freeFor (post : Int32 → MS → Prop) (σ : MS) (a1 : Int32) : Prop := (∃ k, u_X7_freeFor_4 post a1 k σ 0 0)
set_option maxHeartbeats 4000000 in
set_option maxRecDepth 100000 in
theorem c_X7_freeFor (l : Launch) (D : va_G) (cy : Nat → ClassId) (lay : Nat → Nat) {σ : MS} {post : Int32 → MS → Prop} {a1 : Int32} (h : w_X7_freeFor post σ a1) (sz : Nat) : Met l yX7_freeFor wsX7_freeFor rm_X7_freeFor (va_Pc [.ref (lay 0), .int a1] (agI D cy lay σ sz)) (va_Qi post (agO D cy lay) (agA lay sz)) 0 0 (agA lay sz) := by
  refine ag_ofW (cc := cX7_freeFor) (maxL := 4) (ret := some .int) (own := RX7) (Qc := fun sz => va_Qi post (agO D cy lay) (agA lay sz)) (by decide) rfl (Nat.le_of_ble_eq_true rfl) rfl ?_
  intro p e s m args below meth c ls hC hr hlocks hT G hl
  unfold w_X7_freeFor at h
  have hl : lv_has ls 4 [(0, .ref (lay 0)), (1, .int a1)] := hl
  refine lv_iconst (v := 0) hC.1 hC.2.1 dX7_freeFor_0 (by decide) ?_
  refine lv_istore_n (lv' := [(2, .int 0), (0, .ref (lay 0)), (1, .int a1)]) hC.1 hC.2.1 dX7_freeFor_1 rfl hl (by decide) rfl (fun ls hl => ?_)
  refine lv_iconst (v := 0) hC.1 hC.2.1 dX7_freeFor_2 (by decide) ?_
  refine lv_istore_n (lv' := [(3, .int 0), (2, .int 0), (0, .ref (lay 0)), (1, .int a1)]) hC.1 hC.2.1 dX7_freeFor_3 rfl hl (by decide) rfl (fun ls hl => ?_)
  obtain ⟨n1, h⟩ := h
  exact l_X7_freeFor_4 a1 hC hr hlocks hT n1 _ _ _ h _ _ _ G (lv_sub hl [2, 3, 1, 0] rfl)
theorem hdV_X7_freeFor : yX7_freeFor.cls = RX7 ∧ yX7_freeFor.cls ≠ "java/lang/invoke/MethodHandle" ∧ yX7_freeFor.cls ≠ "java/lang/invoke/VarHandle" ∧ (parseMethodDescriptor yX7_freeFor.desc).map (fun d => d.parameters.length) = some 1 := by decide +kernel
abbrev rm_X7_hasFeud : Room := { frames := 1, cells := 0, slots := 0, locals := 21 }
theorem i_X7_hasFeud_X7 : ∀ w ∈ wsX70, w ∈ wsX7_hasFeud := fun _ h => List.mem_cons_of_mem _ (List.mem_append_left _ (List.mem_append_right _ h))
theorem i_X7_hasFeud_X3 : ∀ w ∈ wsX30, w ∈ wsX7_hasFeud := fun _ h => List.mem_cons_of_mem _ (List.mem_append_right _ h)
def u_X7_hasFeud_2 (post : Int32 → MS → Prop) (a1 : Int32) : Nat → MS → Int32 → Prop
  | 0, _, _ => False
  | n + 1, σ, v2 => (((σ 0 6) ≤ v2 → post 0 σ) ∧ (¬ (σ 0 6) ≤ v2 → w_X7_has (fun r3 σ2 => ((r3 = 0 → u_X7_hasFeud_2 post a1 n σ2 (v2 + 1)) ∧ (¬ r3 = 0 → (vp_in v2 10 ∧ ((((σ2 (29 + (Int32.toNatClampNeg v2)) 4) &&& a1) = 0 → u_X7_hasFeud_2 post a1 n σ2 (v2 + 1)) ∧ (¬ ((σ2 (29 + (Int32.toNatClampNeg v2)) 4) &&& a1) = 0 → post 1 σ2)))))) σ a1 v2))
set_option maxHeartbeats 4000000 in
set_option maxRecDepth 100000 in
theorem l_X7_hasFeud_2 {p : Program} {l : Launch} {e : Env} {s : State} {m : MethodId} {args : Array Value} {below : List Frame} {meth : Method} {c : Code} {D : va_G} {cy : Nat → ClassId} {lay : Nat → Nat} {post : Int32 → MS → Prop} (a1 : Int32) (hC : CallFix p m c cX7_hasFeud 3 s args wsX7_hasFeud RX7) (hr : meth.sig.returnType = some .boolean) (hlocks : meth.locks = false) (hT : agT D cy lay s) : ∀ (n : Nat), ∀ (σ : MS) (v2 : Int32), u_X7_hasFeud_2 post a1 n σ v2 → ∀ (H : Heap) (locs : List Loc) (ls : Array Slot), agG D cy lay σ (agA lay s.heap.size) s.heap H locs → lv_has ls 3 [(0, .ref (lay 0)), (1, .int a1), (2, .int v2)] → W p l e rm_X7_hasFeud s m args below meth c H locs 0 0 (MQ below (va_Qi post (agO D cy lay) (agA lay s.heap.size)) args s 0 0 (agA lay s.heap.size)) (F0 m 2 ls []) := by
  intro n
  induction n with
  | zero =>
    intro σ v2 h
    exact h.elim
  | succ n ih =>
    intro σ v2 h H locs ls G hl
    rw [u_X7_hasFeud_2] at h
    refine lv_iload_n hC.1 hC.2.1 dX7_hasFeud_2 rfl (lv_at hl 2 rfl) ?_
    refine lv_aload_n hC.1 hC.2.1 dX7_hasFeud_3 rfl (lv_at hl 0 rfl) ?_
    refine ag_get hC hT G (by decide) e_ag k_X7 i_X7_hasFeud_X7 6 (by decide) (wm 1 rfl) rfl dX7_hasFeud_4 ?_
    refine lv_icmp_ge (tgt := 40) hC.1 hC.2.1 dX7_hasFeud_7 (by decide) (fun c1 => ?_) (fun c1 => ?_)
    · replace h := h.1 c1
      refine lv_iconst (v := 0) hC.1 hC.2.1 dX7_hasFeud_40 (by decide) ?_
      exact ag_zret hC hr hlocks G rfl h dX7_hasFeud_41
    · replace h := h.2 c1
      refine lv_iload_n hC.1 hC.2.1 dX7_hasFeud_10 rfl (lv_at hl 1 rfl) ?_
      refine lv_iload_n hC.1 hC.2.1 dX7_hasFeud_11 rfl (lv_at hl 2 rfl) ?_
      refine ag_i G (ag_runS (As := [.int a1, .int v2]) (rest := []) hC hT G (c_X7_has l D cy lay h _) (va_cwS 2 hC.2.2.2.2 gX7_hasFeud_X7_has rfl rfl rfl hdS_X7_has ⟨Nat.le_of_ble_eq_true rfl, Nat.le_of_ble_eq_true rfl⟩) rfl hl.1 rfl (Nat.le_of_ble_eq_true rfl) dX7_hasFeud_12 ⟨Nat.le_of_ble_eq_true rfl, Nat.le_of_ble_eq_true rfl⟩) (fun r3 σ2 H locs h G => ?_)
      (try dsimp only at h)
      refine lv_if_eq (tgt := 34) hC.1 hC.2.1 dX7_hasFeud_15 (by decide) (fun c4 => ?_) (fun c4 => ?_)
      · replace h := h.1 c4
        refine lv_iinc (v := v2 + 1) (lv' := [(2, .int (v2 + 1)), (0, .ref (lay 0)), (1, .int a1)]) hC.1 hC.2.1 dX7_hasFeud_34 hl (k := 2) rfl rfl (by decide) rfl (fun ls hl => ?_)
        refine lv_goto (tgt := 2) hC.1 hC.2.1 dX7_hasFeud_37 (by decide) ?_
        exact ih _ _ h _ _ _ G (lv_sub hl [1, 2, 0] rfl)
      · replace h := h.2 c4
        refine lv_aload_n hC.1 hC.2.1 dX7_hasFeud_18 rfl (lv_at hl 0 rfl) ?_
        refine ag_get hC hT G (by decide) e_ag k_X7 i_X7_hasFeud_X7 0 (by decide) (wm 2 rfl) rfl dX7_hasFeud_19 ?_
        refine lv_iload_n hC.1 hC.2.1 dX7_hasFeud_22 rfl (lv_at hl 2 rfl) ?_
        obtain ⟨hn5, h⟩ := h
        refine ag_aald hC hT G (by decide) _ rfl e_pls hn5 dX7_hasFeud_23 ?_
        refine ag_get hC hT G (k_pl (vlt hn5)) (e_pl (vlt hn5)) k_X3 i_X7_hasFeud_X3 4 (by decide) (wm 3 rfl) rfl dX7_hasFeud_24 ?_
        refine lv_iload_n hC.1 hC.2.1 dX7_hasFeud_27 rfl (lv_at hl 1 rfl) ?_
        refine lv_iand hC.1 hC.2.1 dX7_hasFeud_28 ?_
        refine lv_if_eq (tgt := 34) hC.1 hC.2.1 dX7_hasFeud_29 (by decide) (fun c6 => ?_) (fun c6 => ?_)
        · replace h := h.1 c6
          refine lv_iinc (v := v2 + 1) (lv' := [(2, .int (v2 + 1)), (0, .ref (lay 0)), (1, .int a1)]) hC.1 hC.2.1 dX7_hasFeud_34 hl (k := 2) rfl rfl (by decide) rfl (fun ls hl => ?_)
          refine lv_goto (tgt := 2) hC.1 hC.2.1 dX7_hasFeud_37 (by decide) ?_
          exact ih _ _ h _ _ _ G (lv_sub hl [1, 2, 0] rfl)
        · replace h := h.2 c6
          refine lv_iconst (v := 1) hC.1 hC.2.1 dX7_hasFeud_32 (by decide) ?_
          exact ag_zret hC hr hlocks G rfl h dX7_hasFeud_33
def w_X7_hasFeud (post : Int32 → MS → Prop) (σ : MS) (a1 : Int32) : Prop := (∃ k, u_X7_hasFeud_2 post a1 k σ 0)
set_option maxHeartbeats 4000000 in
set_option maxRecDepth 100000 in
theorem c_X7_hasFeud (l : Launch) (D : va_G) (cy : Nat → ClassId) (lay : Nat → Nat) {σ : MS} {post : Int32 → MS → Prop} {a1 : Int32} (h : w_X7_hasFeud post σ a1) (sz : Nat) : Met l yX7_hasFeud wsX7_hasFeud rm_X7_hasFeud (va_Pc [.ref (lay 0), .int a1] (agI D cy lay σ sz)) (va_Qi post (agO D cy lay) (agA lay sz)) 0 0 (agA lay sz) := by
  refine ag_ofW (cc := cX7_hasFeud) (maxL := 3) (ret := some .boolean) (own := RX7) (Qc := fun sz => va_Qi post (agO D cy lay) (agA lay sz)) (by decide) rfl (Nat.le_of_ble_eq_true rfl) rfl ?_
  intro p e s m args below meth c ls hC hr hlocks hT G hl
  unfold w_X7_hasFeud at h
  have hl : lv_has ls 3 [(0, .ref (lay 0)), (1, .int a1)] := hl
  refine lv_iconst (v := 0) hC.1 hC.2.1 dX7_hasFeud_0 (by decide) ?_
  refine lv_istore_n (lv' := [(2, .int 0), (0, .ref (lay 0)), (1, .int a1)]) hC.1 hC.2.1 dX7_hasFeud_1 rfl hl (by decide) rfl (fun ls hl => ?_)
  obtain ⟨n1, h⟩ := h
  exact l_X7_hasFeud_2 a1 hC hr hlocks hT n1 _ _ h _ _ _ G (lv_sub hl [1, 2, 0] rfl)
theorem hdV_X7_hasFeud : yX7_hasFeud.cls = RX7 ∧ yX7_hasFeud.cls ≠ "java/lang/invoke/MethodHandle" ∧ yX7_hasFeud.cls ≠ "java/lang/invoke/VarHandle" ∧ (parseMethodDescriptor yX7_hasFeud.desc).map (fun d => d.parameters.length) = some 1 := by decide +kernel
abbrev rm_X7_costOfAll : Room := { frames := 2, cells := 0, slots := 0, locals := 45 }
theorem i_X7_costOfAll_X7 : ∀ w ∈ wsX70, w ∈ wsX7_costOfAll := fun _ h => List.mem_cons_of_mem _ (List.mem_append_left _ (List.mem_append_left _ (List.mem_append_left _ (List.mem_append_right _ h))))
def u_X7_costOfAll_5 (post : Int32 → MS → Prop) (a1 : Int32) (i2 : Nat) : Nat → MS → Int32 → Int32 → Prop
  | 0, _, _, _ => False
  | n + 1, σ, v3, v4 => (((σ 0 6) ≤ v4 → post v3 σ) ∧ (¬ (σ 0 6) ≤ v4 → w_X7_has (fun r3 σ2 => ((r3 = 0 → u_X7_costOfAll_5 post a1 i2 n σ2 v3 (v4 + 1)) ∧ (¬ r3 = 0 → (vp_in v4 10 ∧ w_X7_costAt (fun r7 σ6 => u_X7_costOfAll_5 post a1 i2 n σ6 (v3 + r7) (v4 + 1)) σ2 (Int32.toNatClampNeg v4) i2)))) σ a1 v4))
set_option maxHeartbeats 4000000 in
set_option maxRecDepth 100000 in
theorem l_X7_costOfAll_5 {p : Program} {l : Launch} {e : Env} {s : State} {m : MethodId} {args : Array Value} {below : List Frame} {meth : Method} {c : Code} {D : va_G} {cy : Nat → ClassId} {lay : Nat → Nat} {post : Int32 → MS → Prop} (a1 : Int32) (i2 : Nat) (hC : CallFix p m c cX7_costOfAll 5 s args wsX7_costOfAll RX7) (hr : meth.sig.returnType = some .int) (hlocks : meth.locks = false) (hT : agT D cy lay s) (hi2 : i2 < 14) : ∀ (n : Nat), ∀ (σ : MS) (v3 : Int32) (v4 : Int32), u_X7_costOfAll_5 post a1 i2 n σ v3 v4 → ∀ (H : Heap) (locs : List Loc) (ls : Array Slot), agG D cy lay σ (agA lay s.heap.size) s.heap H locs → lv_has ls 5 [(0, .ref (lay 0)), (1, .int a1), (2, .ref (lay (73 + i2))), (3, .int v3), (4, .int v4)] → W p l e rm_X7_costOfAll s m args below meth c H locs 0 0 (MQ below (va_Qi post (agO D cy lay) (agA lay s.heap.size)) args s 0 0 (agA lay s.heap.size)) (F0 m 5 ls []) := by
  intro n
  induction n with
  | zero =>
    intro σ v3 v4 h
    exact h.elim
  | succ n ih =>
    intro σ v3 v4 h H locs ls G hl
    rw [u_X7_costOfAll_5] at h
    refine lv_iload hC.1 hC.2.1 dX7_costOfAll_5 (lv_at hl 4 rfl) ?_
    refine lv_aload_n hC.1 hC.2.1 dX7_costOfAll_7 rfl (lv_at hl 0 rfl) ?_
    refine ag_get hC hT G (by decide) e_ag k_X7 i_X7_costOfAll_X7 6 (by decide) (wm 1 rfl) rfl dX7_costOfAll_8 ?_
    refine lv_icmp_ge (tgt := 44) hC.1 hC.2.1 dX7_costOfAll_11 (by decide) (fun c1 => ?_) (fun c1 => ?_)
    · replace h := h.1 c1
      refine lv_iload_n hC.1 hC.2.1 dX7_costOfAll_44 rfl (lv_at hl 3 rfl) ?_
      exact ag_iret hC hr hlocks G h dX7_costOfAll_45
    · replace h := h.2 c1
      refine lv_iload_n hC.1 hC.2.1 dX7_costOfAll_14 rfl (lv_at hl 1 rfl) ?_
      refine lv_iload hC.1 hC.2.1 dX7_costOfAll_15 (lv_at hl 4 rfl) ?_
      refine ag_i G (ag_runS (As := [.int a1, .int v4]) (rest := []) hC hT G (c_X7_has l D cy lay h _) (va_cwS 2 hC.2.2.2.2 gX7_costOfAll_X7_has rfl rfl rfl hdS_X7_has ⟨Nat.le_of_ble_eq_true rfl, Nat.le_of_ble_eq_true rfl⟩) rfl hl.1 rfl (Nat.le_of_ble_eq_true rfl) dX7_costOfAll_17 ⟨Nat.le_of_ble_eq_true rfl, Nat.le_of_ble_eq_true rfl⟩) (fun r3 σ2 H locs h G => ?_)
      (try dsimp only at h)
      refine lv_if_eq (tgt := 38) hC.1 hC.2.1 dX7_costOfAll_20 (by decide) (fun c4 => ?_) (fun c4 => ?_)
      · replace h := h.1 c4
        refine lv_iinc (v := v4 + 1) (lv' := [(4, .int (v4 + 1)), (0, .ref (lay 0)), (1, .int a1), (2, .ref (lay (73 + i2))), (3, .int v3)]) hC.1 hC.2.1 dX7_costOfAll_38 hl (k := 4) rfl rfl (by decide) rfl (fun ls hl => ?_)
        refine lv_goto (tgt := 5) hC.1 hC.2.1 dX7_costOfAll_41 (by decide) ?_
        exact ih _ _ _ h _ _ _ G (lv_sub hl [1, 2, 3, 4, 0] rfl)
      · replace h := h.2 c4
        refine lv_iload_n hC.1 hC.2.1 dX7_costOfAll_23 rfl (lv_at hl 3 rfl) ?_
        refine lv_aload_n hC.1 hC.2.1 dX7_costOfAll_24 rfl (lv_at hl 0 rfl) ?_
        refine lv_aload_n hC.1 hC.2.1 dX7_costOfAll_25 rfl (lv_at hl 0 rfl) ?_
        refine ag_get hC hT G (by decide) e_ag k_X7 i_X7_costOfAll_X7 0 (by decide) (wm 2 rfl) rfl dX7_costOfAll_26 ?_
        refine lv_iload hC.1 hC.2.1 dX7_costOfAll_29 (lv_at hl 4 rfl) ?_
        obtain ⟨hn5, h⟩ := h
        refine ag_aald hC hT G (by decide) _ rfl e_pls hn5 dX7_costOfAll_31 ?_
        refine lv_aload_n hC.1 hC.2.1 dX7_costOfAll_32 rfl (lv_at hl 2 rfl) ?_
        refine ag_i G (ag_runV (As := [.ref (lay (29 + (Int32.toNatClampNeg v4))), .ref (lay (73 + i2))]) (rest := [.int v3]) hC hT G (c_X7_costAt l D cy lay h (vlt hn5) hi2 _) (cwV 2 hC.2.2.2.2 gX7_costOfAll_X7_costAt rfl rfl rfl hdV_X7_costAt ⟨Nat.le_of_ble_eq_true rfl, Nat.le_of_ble_eq_true rfl⟩) (ag_recv hT G (by decide) e_ag k_X7) rfl hl.1 rfl (Nat.le_of_ble_eq_true rfl) dX7_costOfAll_33 ⟨Nat.le_of_ble_eq_true rfl, Nat.le_of_ble_eq_true rfl⟩) (fun r7 σ6 H locs h G => ?_)
        (try dsimp only at h)
        refine lv_iadd hC.1 hC.2.1 dX7_costOfAll_36 ?_
        refine lv_istore_n (lv' := [(3, .int (v3 + r7)), (0, .ref (lay 0)), (1, .int a1), (2, .ref (lay (73 + i2))), (4, .int v4)]) hC.1 hC.2.1 dX7_costOfAll_37 rfl hl (by decide) rfl (fun ls hl => ?_)
        refine lv_iinc (v := v4 + 1) (lv' := [(4, .int (v4 + 1)), (3, .int (v3 + r7)), (0, .ref (lay 0)), (1, .int a1), (2, .ref (lay (73 + i2)))]) hC.1 hC.2.1 dX7_costOfAll_38 hl (k := 4) rfl rfl (by decide) rfl (fun ls hl => ?_)
        refine lv_goto (tgt := 5) hC.1 hC.2.1 dX7_costOfAll_41 (by decide) ?_
        exact ih _ _ _ h _ _ _ G (lv_sub hl [2, 3, 4, 1, 0] rfl)
def w_X7_costOfAll (post : Int32 → MS → Prop) (σ : MS) (a1 : Int32) (i2 : Nat) : Prop := (∃ k, u_X7_costOfAll_5 post a1 i2 k σ 0 0)
set_option maxHeartbeats 4000000 in
set_option maxRecDepth 100000 in
theorem c_X7_costOfAll (l : Launch) (D : va_G) (cy : Nat → ClassId) (lay : Nat → Nat) {σ : MS} {post : Int32 → MS → Prop} {a1 : Int32} {i2 : Nat} (h : w_X7_costOfAll post σ a1 i2) (hi2 : i2 < 14) (sz : Nat) : Met l yX7_costOfAll wsX7_costOfAll rm_X7_costOfAll (va_Pc [.ref (lay 0), .int a1, .ref (lay (73 + i2))] (agI D cy lay σ sz)) (va_Qi post (agO D cy lay) (agA lay sz)) 0 0 (agA lay sz) := by
  refine ag_ofW (cc := cX7_costOfAll) (maxL := 5) (ret := some .int) (own := RX7) (Qc := fun sz => va_Qi post (agO D cy lay) (agA lay sz)) (by decide) rfl (Nat.le_of_ble_eq_true rfl) rfl ?_
  intro p e s m args below meth c ls hC hr hlocks hT G hl
  unfold w_X7_costOfAll at h
  have hl : lv_has ls 5 [(0, .ref (lay 0)), (1, .int a1), (2, .ref (lay (73 + i2)))] := hl
  refine lv_iconst (v := 0) hC.1 hC.2.1 dX7_costOfAll_0 (by decide) ?_
  refine lv_istore_n (lv' := [(3, .int 0), (0, .ref (lay 0)), (1, .int a1), (2, .ref (lay (73 + i2)))]) hC.1 hC.2.1 dX7_costOfAll_1 rfl hl (by decide) rfl (fun ls hl => ?_)
  refine lv_iconst (v := 0) hC.1 hC.2.1 dX7_costOfAll_2 (by decide) ?_
  refine lv_istore (lv' := [(4, .int 0), (3, .int 0), (0, .ref (lay 0)), (1, .int a1), (2, .ref (lay (73 + i2)))]) hC.1 hC.2.1 dX7_costOfAll_3 hl (by decide) rfl (fun ls hl => ?_)
  obtain ⟨n1, h⟩ := h
  exact l_X7_costOfAll_5 a1 i2 hC hr hlocks hT hi2 n1 _ _ _ h _ _ _ G (lv_sub hl [2, 3, 4, 1, 0] rfl)
theorem hdV_X7_costOfAll : yX7_costOfAll.cls = RX7 ∧ yX7_costOfAll.cls ≠ "java/lang/invoke/MethodHandle" ∧ yX7_costOfAll.cls ≠ "java/lang/invoke/VarHandle" ∧ (parseMethodDescriptor yX7_costOfAll.desc).map (fun d => d.parameters.length) = some 2 := by decide +kernel
abbrev rm_X7_playableFor : Room := { frames := 1, cells := 0, slots := 0, locals := 21 }
theorem i_X7_playableFor_X7 : ∀ w ∈ wsX70, w ∈ wsX7_playableFor := fun _ h => List.mem_cons_of_mem _ (List.mem_append_left _ (List.mem_append_right _ h))
theorem i_X7_playableFor_X3 : ∀ w ∈ wsX30, w ∈ wsX7_playableFor := fun _ h => List.mem_cons_of_mem _ (List.mem_append_right _ h)
def u_X7_playableFor_7 (post : Int32 → MS → Prop) (a1 : Int32) : Nat → MS → Int32 → Int32 → Int32 → Prop
  | 0, _, _, _, _ => False
  | n + 1, σ, v2, v3, v4 => (((σ 0 6) ≤ v4 → w_J6_bitCount_0f7a4 (fun r3 σ2 => ((r3 = 1 → post v2 σ2) ∧ (¬ r3 = 1 → post v3 σ2))) σ a1) ∧ (¬ (σ 0 6) ≤ v4 → w_X7_has (fun r6 σ5 => ((r6 = 0 → u_X7_playableFor_7 post a1 n σ5 v2 v3 (v4 + 1)) ∧ (¬ r6 = 0 → (vp_in v4 10 ∧ (vp_in v4 10 ∧ u_X7_playableFor_7 post a1 n σ5 (v2 ||| (σ5 (29 + (Int32.toNatClampNeg v4)) 1)) (v3 ||| (v2 &&& (σ5 (29 + (Int32.toNatClampNeg v4)) 1))) (v4 + 1)))))) σ a1 v4))
set_option maxHeartbeats 4000000 in
set_option maxRecDepth 100000 in
theorem l_X7_playableFor_7 {p : Program} {l : Launch} {e : Env} {s : State} {m : MethodId} {args : Array Value} {below : List Frame} {meth : Method} {c : Code} {D : va_G} {cy : Nat → ClassId} {lay : Nat → Nat} {post : Int32 → MS → Prop} (a1 : Int32) (hC : CallFix p m c cX7_playableFor 5 s args wsX7_playableFor RX7) (hr : meth.sig.returnType = some .int) (hlocks : meth.locks = false) (hT : agT D cy lay s) : ∀ (n : Nat), ∀ (σ : MS) (v2 : Int32) (v3 : Int32) (v4 : Int32), u_X7_playableFor_7 post a1 n σ v2 v3 v4 → ∀ (H : Heap) (locs : List Loc) (ls : Array Slot), agG D cy lay σ (agA lay s.heap.size) s.heap H locs → lv_has ls 5 [(0, .ref (lay 0)), (1, .int a1), (2, .int v2), (3, .int v3), (4, .int v4)] → W p l e rm_X7_playableFor s m args below meth c H locs 0 0 (MQ below (va_Qi post (agO D cy lay) (agA lay s.heap.size)) args s 0 0 (agA lay s.heap.size)) (F0 m 7 ls []) := by
  intro n
  induction n with
  | zero =>
    intro σ v2 v3 v4 h
    exact h.elim
  | succ n ih =>
    intro σ v2 v3 v4 h H locs ls G hl
    rw [u_X7_playableFor_7] at h
    refine lv_iload hC.1 hC.2.1 dX7_playableFor_7 (lv_at hl 4 rfl) ?_
    refine lv_aload_n hC.1 hC.2.1 dX7_playableFor_9 rfl (lv_at hl 0 rfl) ?_
    refine ag_get hC hT G (by decide) e_ag k_X7 i_X7_playableFor_X7 6 (by decide) (wm 1 rfl) rfl dX7_playableFor_10 ?_
    refine lv_icmp_ge (tgt := 59) hC.1 hC.2.1 dX7_playableFor_13 (by decide) (fun c1 => ?_) (fun c1 => ?_)
    · replace h := h.1 c1
      refine lv_iload_n hC.1 hC.2.1 dX7_playableFor_59 rfl (lv_at hl 1 rfl) ?_
      refine ag_i G (ag_runS (As := [.int a1]) (rest := []) hC hT G (c_J6_bitCount_0f7a4 l D cy lay h _) (va_cwS 1 hC.2.2.2.2 gX7_playableFor_J6_bitCount_0f7a4 rfl rfl rfl hdS_J6_bitCount_0f7a4 ⟨Nat.le_of_ble_eq_true rfl, Nat.le_of_ble_eq_true rfl⟩) rfl hl.1 rfl (Nat.le_of_ble_eq_true rfl) dX7_playableFor_60 ⟨Nat.le_of_ble_eq_true rfl, Nat.le_of_ble_eq_true rfl⟩) (fun r3 σ2 H locs h G => ?_)
      (try dsimp only at h)
      refine lv_iconst (v := 1) hC.1 hC.2.1 dX7_playableFor_63 (by decide) ?_
      refine lv_icmp_ne (tgt := 71) hC.1 hC.2.1 dX7_playableFor_64 (by decide) (fun c4 => ?_) (fun c4 => ?_)
      · replace h := h.2 c4
        refine lv_iload_n hC.1 hC.2.1 dX7_playableFor_71 rfl (lv_at hl 3 rfl) ?_
        exact ag_iret hC hr hlocks G h dX7_playableFor_72
      · replace h := h.1 c4
        refine lv_iload_n hC.1 hC.2.1 dX7_playableFor_67 rfl (lv_at hl 2 rfl) ?_
        refine lv_goto (tgt := 72) hC.1 hC.2.1 dX7_playableFor_68 (by decide) ?_
        exact ag_iret hC hr hlocks G h dX7_playableFor_72
    · replace h := h.2 c1
      refine lv_iload_n hC.1 hC.2.1 dX7_playableFor_16 rfl (lv_at hl 1 rfl) ?_
      refine lv_iload hC.1 hC.2.1 dX7_playableFor_17 (lv_at hl 4 rfl) ?_
      refine ag_i G (ag_runS (As := [.int a1, .int v4]) (rest := []) hC hT G (c_X7_has l D cy lay h _) (va_cwS 2 hC.2.2.2.2 gX7_playableFor_X7_has rfl rfl rfl hdS_X7_has ⟨Nat.le_of_ble_eq_true rfl, Nat.le_of_ble_eq_true rfl⟩) rfl hl.1 rfl (Nat.le_of_ble_eq_true rfl) dX7_playableFor_19 ⟨Nat.le_of_ble_eq_true rfl, Nat.le_of_ble_eq_true rfl⟩) (fun r6 σ5 H locs h G => ?_)
      (try dsimp only at h)
      refine lv_if_eq (tgt := 53) hC.1 hC.2.1 dX7_playableFor_22 (by decide) (fun c7 => ?_) (fun c7 => ?_)
      · replace h := h.1 c7
        refine lv_iinc (v := v4 + 1) (lv' := [(4, .int (v4 + 1)), (0, .ref (lay 0)), (1, .int a1), (2, .int v2), (3, .int v3)]) hC.1 hC.2.1 dX7_playableFor_53 hl (k := 4) rfl rfl (by decide) rfl (fun ls hl => ?_)
        refine lv_goto (tgt := 7) hC.1 hC.2.1 dX7_playableFor_56 (by decide) ?_
        exact ih _ _ _ _ h _ _ _ G (lv_sub hl [1, 2, 3, 4, 0] rfl)
      · replace h := h.2 c7
        refine lv_iload_n hC.1 hC.2.1 dX7_playableFor_25 rfl (lv_at hl 3 rfl) ?_
        refine lv_iload_n hC.1 hC.2.1 dX7_playableFor_26 rfl (lv_at hl 2 rfl) ?_
        refine lv_aload_n hC.1 hC.2.1 dX7_playableFor_27 rfl (lv_at hl 0 rfl) ?_
        refine ag_get hC hT G (by decide) e_ag k_X7 i_X7_playableFor_X7 0 (by decide) (wm 2 rfl) rfl dX7_playableFor_28 ?_
        refine lv_iload hC.1 hC.2.1 dX7_playableFor_31 (lv_at hl 4 rfl) ?_
        obtain ⟨hn8, h⟩ := h
        refine ag_aald hC hT G (by decide) _ rfl e_pls hn8 dX7_playableFor_33 ?_
        refine ag_get hC hT G (k_pl (vlt hn8)) (e_pl (vlt hn8)) k_X3 i_X7_playableFor_X3 1 (by decide) (wm 3 rfl) rfl dX7_playableFor_34 ?_
        refine lv_iand hC.1 hC.2.1 dX7_playableFor_37 ?_
        refine lv_ior hC.1 hC.2.1 dX7_playableFor_38 ?_
        refine lv_istore_n (lv' := [(3, .int (v3 ||| (v2 &&& (σ5 (29 + (Int32.toNatClampNeg v4)) 1)))), (0, .ref (lay 0)), (1, .int a1), (2, .int v2), (4, .int v4)]) hC.1 hC.2.1 dX7_playableFor_39 rfl hl (by decide) rfl (fun ls hl => ?_)
        refine lv_iload_n hC.1 hC.2.1 dX7_playableFor_40 rfl (lv_at hl 3 rfl) ?_
        refine lv_aload_n hC.1 hC.2.1 dX7_playableFor_41 rfl (lv_at hl 1 rfl) ?_
        refine ag_get hC hT G (by decide) e_ag k_X7 i_X7_playableFor_X7 0 (by decide) (wm 2 rfl) rfl dX7_playableFor_42 ?_
        refine lv_iload hC.1 hC.2.1 dX7_playableFor_45 (lv_at hl 4 rfl) ?_
        obtain ⟨hn9, h⟩ := h
        refine ag_aald hC hT G (by decide) _ rfl e_pls hn9 dX7_playableFor_47 ?_
        refine ag_get hC hT G (k_pl (vlt hn9)) (e_pl (vlt hn9)) k_X3 i_X7_playableFor_X3 1 (by decide) (wm 3 rfl) rfl dX7_playableFor_48 ?_
        refine lv_ior hC.1 hC.2.1 dX7_playableFor_51 ?_
        refine lv_istore_n (lv' := [(2, .int (v2 ||| (σ5 (29 + (Int32.toNatClampNeg v4)) 1))), (3, .int (v3 ||| (v2 &&& (σ5 (29 + (Int32.toNatClampNeg v4)) 1)))), (0, .ref (lay 0)), (1, .int a1), (4, .int v4)]) hC.1 hC.2.1 dX7_playableFor_52 rfl hl (by decide) rfl (fun ls hl => ?_)
        refine lv_iinc (v := v4 + 1) (lv' := [(4, .int (v4 + 1)), (2, .int (v2 ||| (σ5 (29 + (Int32.toNatClampNeg v4)) 1))), (3, .int (v3 ||| (v2 &&& (σ5 (29 + (Int32.toNatClampNeg v4)) 1)))), (0, .ref (lay 0)), (1, .int a1)]) hC.1 hC.2.1 dX7_playableFor_53 hl (k := 4) rfl rfl (by decide) rfl (fun ls hl => ?_)
        refine lv_goto (tgt := 7) hC.1 hC.2.1 dX7_playableFor_56 (by decide) ?_
        exact ih _ _ _ _ h _ _ _ G (lv_sub hl [3, 4, 1, 2, 0] rfl)
def w_X7_playableFor (post : Int32 → MS → Prop) (σ : MS) (a1 : Int32) : Prop := (∃ k, u_X7_playableFor_7 post a1 k σ 0 0 0)
set_option maxHeartbeats 4000000 in
set_option maxRecDepth 100000 in
theorem c_X7_playableFor (l : Launch) (D : va_G) (cy : Nat → ClassId) (lay : Nat → Nat) {σ : MS} {post : Int32 → MS → Prop} {a1 : Int32} (h : w_X7_playableFor post σ a1) (sz : Nat) : Met l yX7_playableFor wsX7_playableFor rm_X7_playableFor (va_Pc [.ref (lay 0), .int a1] (agI D cy lay σ sz)) (va_Qi post (agO D cy lay) (agA lay sz)) 0 0 (agA lay sz) := by
  refine ag_ofW (cc := cX7_playableFor) (maxL := 5) (ret := some .int) (own := RX7) (Qc := fun sz => va_Qi post (agO D cy lay) (agA lay sz)) (by decide) rfl (Nat.le_of_ble_eq_true rfl) rfl ?_
  intro p e s m args below meth c ls hC hr hlocks hT G hl
  unfold w_X7_playableFor at h
  have hl : lv_has ls 5 [(0, .ref (lay 0)), (1, .int a1)] := hl
  refine lv_iconst (v := 0) hC.1 hC.2.1 dX7_playableFor_0 (by decide) ?_
  refine lv_istore_n (lv' := [(2, .int 0), (0, .ref (lay 0)), (1, .int a1)]) hC.1 hC.2.1 dX7_playableFor_1 rfl hl (by decide) rfl (fun ls hl => ?_)
  refine lv_iconst (v := 0) hC.1 hC.2.1 dX7_playableFor_2 (by decide) ?_
  refine lv_istore_n (lv' := [(3, .int 0), (2, .int 0), (0, .ref (lay 0)), (1, .int a1)]) hC.1 hC.2.1 dX7_playableFor_3 rfl hl (by decide) rfl (fun ls hl => ?_)
  refine lv_iconst (v := 0) hC.1 hC.2.1 dX7_playableFor_4 (by decide) ?_
  refine lv_istore (lv' := [(4, .int 0), (3, .int 0), (2, .int 0), (0, .ref (lay 0)), (1, .int a1)]) hC.1 hC.2.1 dX7_playableFor_5 hl (by decide) rfl (fun ls hl => ?_)
  obtain ⟨n1, h⟩ := h
  exact l_X7_playableFor_7 a1 hC hr hlocks hT n1 _ _ _ _ h _ _ _ G (lv_sub hl [3, 4, 2, 1, 0] rfl)
theorem hdV_X7_playableFor : yX7_playableFor.cls = RX7 ∧ yX7_playableFor.cls ≠ "java/lang/invoke/MethodHandle" ∧ yX7_playableFor.cls ≠ "java/lang/invoke/VarHandle" ∧ (parseMethodDescriptor yX7_playableFor.desc).map (fun d => d.parameters.length) = some 1 := by decide +kernel
abbrev rm_X7_canBeSeated : Room := { frames := 1, cells := 0, slots := 0, locals := 21 }
theorem i_X7_canBeSeated_X0 : ∀ w ∈ wsX00, w ∈ wsX7_canBeSeated := fun _ h => List.mem_cons_of_mem _ (List.mem_append_left _ (List.mem_append_left _ (List.mem_append_right _ h)))
theorem i_X7_canBeSeated_X7 : ∀ w ∈ wsX70, w ∈ wsX7_canBeSeated := fun _ h => List.mem_cons_of_mem _ (List.mem_append_left _ (List.mem_append_right _ h))
theorem i_X7_canBeSeated_X3 : ∀ w ∈ wsX30, w ∈ wsX7_canBeSeated := fun _ h => List.mem_cons_of_mem _ (List.mem_append_right _ h)
def u_X7_canBeSeated_24 (post : Int32 → MS → Prop) (a1 : Int32) (i2 : Nat) : Nat → MS → Int32 → Int32 → Prop
  | 0, _, _, _ => False
  | n + 1, σ, v3, v4 => (((σ 0 6) ≤ v4 → post 0 σ) ∧ (¬ (σ 0 6) ≤ v4 → w_X7_has (fun r7 σ6 => ((r7 = 0 → u_X7_canBeSeated_24 post a1 i2 n σ6 v3 (v4 + 1)) ∧ (¬ r7 = 0 → (vp_in v4 10 ∧ (vp_in v3 5 ∧ w_X7_has (fun r12 σ11 => ((r12 = 0 → u_X7_canBeSeated_24 post a1 i2 n σ11 v3 (v4 + 1)) ∧ (¬ r12 = 0 → (vp_in (a1 &&& ((1 <<< (v4 &&& 31)) ^^^ (-1))) 1024 ∧ (((σ11 8 (Int32.toNatClampNeg (a1 &&& ((1 <<< (v4 &&& 31)) ^^^ (-1))))) = 0 → u_X7_canBeSeated_24 post a1 i2 n σ11 v3 (v4 + 1)) ∧ (¬ (σ11 8 (Int32.toNatClampNeg (a1 &&& ((1 <<< (v4 &&& 31)) ^^^ (-1))))) = 0 → post 1 σ11)))))) σ6 (σ6 (29 + (Int32.toNatClampNeg v4)) 0) (σ6 (67 + i2) (Int32.toNatClampNeg v3))))))) σ a1 v4))
set_option maxHeartbeats 4000000 in
set_option maxRecDepth 100000 in
theorem l_X7_canBeSeated_24 {p : Program} {l : Launch} {e : Env} {s : State} {m : MethodId} {args : Array Value} {below : List Frame} {meth : Method} {c : Code} {D : va_G} {cy : Nat → ClassId} {lay : Nat → Nat} {post : Int32 → MS → Prop} (a1 : Int32) (i2 : Nat) (hC : CallFix p m c cX7_canBeSeated 5 s args wsX7_canBeSeated RX7) (hr : meth.sig.returnType = some .boolean) (hlocks : meth.locks = false) (hT : agT D cy lay s) (hi2 : i2 < 6) : ∀ (n : Nat), ∀ (σ : MS) (v3 : Int32) (v4 : Int32), u_X7_canBeSeated_24 post a1 i2 n σ v3 v4 → ∀ (H : Heap) (locs : List Loc) (ls : Array Slot), agG D cy lay σ (agA lay s.heap.size) s.heap H locs → lv_has ls 5 [(0, .ref (lay 0)), (1, .int a1), (2, .ref (lay (55 + i2))), (3, .int v3), (4, .int v4)] → W p l e rm_X7_canBeSeated s m args below meth c H locs 0 0 (MQ below (va_Qi post (agO D cy lay) (agA lay s.heap.size)) args s 0 0 (agA lay s.heap.size)) (F0 m 24 ls []) := by
  intro n
  induction n with
  | zero =>
    intro σ v3 v4 h
    exact h.elim
  | succ n ih =>
    intro σ v3 v4 h H locs ls G hl
    rw [u_X7_canBeSeated_24] at h
    refine lv_iload hC.1 hC.2.1 dX7_canBeSeated_24 (lv_at hl 4 rfl) ?_
    refine lv_aload_n hC.1 hC.2.1 dX7_canBeSeated_26 rfl (lv_at hl 0 rfl) ?_
    refine ag_get hC hT G (by decide) e_ag k_X7 i_X7_canBeSeated_X7 6 (by decide) (wm 2 rfl) rfl dX7_canBeSeated_27 ?_
    refine lv_icmp_ge (tgt := 88) hC.1 hC.2.1 dX7_canBeSeated_30 (by decide) (fun c5 => ?_) (fun c5 => ?_)
    · replace h := h.1 c5
      refine lv_iconst (v := 0) hC.1 hC.2.1 dX7_canBeSeated_88 (by decide) ?_
      exact ag_zret hC hr hlocks G rfl h dX7_canBeSeated_89
    · replace h := h.2 c5
      refine lv_iload_n hC.1 hC.2.1 dX7_canBeSeated_33 rfl (lv_at hl 1 rfl) ?_
      refine lv_iload hC.1 hC.2.1 dX7_canBeSeated_34 (lv_at hl 4 rfl) ?_
      refine ag_i G (ag_runS (As := [.int a1, .int v4]) (rest := []) hC hT G (c_X7_has l D cy lay h _) (va_cwS 2 hC.2.2.2.2 gX7_canBeSeated_X7_has rfl rfl rfl hdS_X7_has ⟨Nat.le_of_ble_eq_true rfl, Nat.le_of_ble_eq_true rfl⟩) rfl hl.1 rfl (Nat.le_of_ble_eq_true rfl) dX7_canBeSeated_36 ⟨Nat.le_of_ble_eq_true rfl, Nat.le_of_ble_eq_true rfl⟩) (fun r7 σ6 H locs h G => ?_)
      (try dsimp only at h)
      refine lv_if_eq (tgt := 82) hC.1 hC.2.1 dX7_canBeSeated_39 (by decide) (fun c8 => ?_) (fun c8 => ?_)
      · replace h := h.1 c8
        refine lv_iinc (v := v4 + 1) (lv' := [(4, .int (v4 + 1)), (0, .ref (lay 0)), (1, .int a1), (2, .ref (lay (55 + i2))), (3, .int v3)]) hC.1 hC.2.1 dX7_canBeSeated_82 hl (k := 4) rfl rfl (by decide) rfl (fun ls hl => ?_)
        refine lv_goto (tgt := 24) hC.1 hC.2.1 dX7_canBeSeated_85 (by decide) ?_
        exact ih _ _ _ h _ _ _ G (lv_sub hl [1, 2, 3, 4, 0] rfl)
      · replace h := h.2 c8
        refine lv_aload_n hC.1 hC.2.1 dX7_canBeSeated_42 rfl (lv_at hl 0 rfl) ?_
        refine ag_get hC hT G (by decide) e_ag k_X7 i_X7_canBeSeated_X7 0 (by decide) (wm 3 rfl) rfl dX7_canBeSeated_43 ?_
        refine lv_iload hC.1 hC.2.1 dX7_canBeSeated_46 (lv_at hl 4 rfl) ?_
        obtain ⟨hn9, h⟩ := h
        refine ag_aald hC hT G (by decide) _ rfl e_pls hn9 dX7_canBeSeated_48 ?_
        refine ag_get hC hT G (k_pl (vlt hn9)) (e_pl (vlt hn9)) k_X3 i_X7_canBeSeated_X3 0 (by decide) (wm 4 rfl) rfl dX7_canBeSeated_49 ?_
        refine lv_aload_n hC.1 hC.2.1 dX7_canBeSeated_52 rfl (lv_at hl 2 rfl) ?_
        refine ag_get hC hT G (k_bd hi2) (e_bd hi2) k_X0 i_X7_canBeSeated_X0 1 (by decide) (wm 5 rfl) rfl dX7_canBeSeated_53 ?_
        refine lv_iload_n hC.1 hC.2.1 dX7_canBeSeated_56 rfl (lv_at hl 3 rfl) ?_
        obtain ⟨hn10, h⟩ := h
        refine ag_iald hC hT G (k_plc hi2) (e_plc hi2) hn10 dX7_canBeSeated_57 ?_
        refine ag_i G (ag_runS (As := [.int (σ6 (29 + (Int32.toNatClampNeg v4)) 0), .int (σ6 (67 + i2) (Int32.toNatClampNeg v3))]) (rest := []) hC hT G (c_X7_has l D cy lay h _) (va_cwS 2 hC.2.2.2.2 gX7_canBeSeated_X7_has rfl rfl rfl hdS_X7_has ⟨Nat.le_of_ble_eq_true rfl, Nat.le_of_ble_eq_true rfl⟩) rfl hl.1 rfl (Nat.le_of_ble_eq_true rfl) dX7_canBeSeated_58 ⟨Nat.le_of_ble_eq_true rfl, Nat.le_of_ble_eq_true rfl⟩) (fun r12 σ11 H locs h G => ?_)
        (try dsimp only at h)
        refine lv_if_eq (tgt := 82) hC.1 hC.2.1 dX7_canBeSeated_61 (by decide) (fun c13 => ?_) (fun c13 => ?_)
        · replace h := h.1 c13
          refine lv_iinc (v := v4 + 1) (lv' := [(4, .int (v4 + 1)), (0, .ref (lay 0)), (1, .int a1), (2, .ref (lay (55 + i2))), (3, .int v3)]) hC.1 hC.2.1 dX7_canBeSeated_82 hl (k := 4) rfl rfl (by decide) rfl (fun ls hl => ?_)
          refine lv_goto (tgt := 24) hC.1 hC.2.1 dX7_canBeSeated_85 (by decide) ?_
          exact ih _ _ _ h _ _ _ G (lv_sub hl [1, 2, 3, 4, 0] rfl)
        · replace h := h.2 c13
          refine lv_aload_n hC.1 hC.2.1 dX7_canBeSeated_64 rfl (lv_at hl 0 rfl) ?_
          refine ag_get hC hT G (by decide) e_ag k_X7 i_X7_canBeSeated_X7 12 (by decide) (wm 6 rfl) rfl dX7_canBeSeated_65 ?_
          refine lv_iload_n hC.1 hC.2.1 dX7_canBeSeated_68 rfl (lv_at hl 1 rfl) ?_
          refine lv_iconst (v := 1) hC.1 hC.2.1 dX7_canBeSeated_69 (by decide) ?_
          refine lv_iload hC.1 hC.2.1 dX7_canBeSeated_70 (lv_at hl 4 rfl) ?_
          refine lv_ishl hC.1 hC.2.1 dX7_canBeSeated_72 ?_
          refine lv_iconst (v := (-1)) hC.1 hC.2.1 dX7_canBeSeated_73 (by decide) ?_
          refine lv_ixor hC.1 hC.2.1 dX7_canBeSeated_74 ?_
          refine lv_iand hC.1 hC.2.1 dX7_canBeSeated_75 ?_
          obtain ⟨hn14, h⟩ := h
          refine ag_zald hC hT G (by decide) e_sea hn14 dX7_canBeSeated_76 ?_
          refine lv_if_eq (tgt := 82) hC.1 hC.2.1 dX7_canBeSeated_77 (by decide) (fun c15 => ?_) (fun c15 => ?_)
          · replace h := h.1 c15
            refine lv_iinc (v := v4 + 1) (lv' := [(4, .int (v4 + 1)), (0, .ref (lay 0)), (1, .int a1), (2, .ref (lay (55 + i2))), (3, .int v3)]) hC.1 hC.2.1 dX7_canBeSeated_82 hl (k := 4) rfl rfl (by decide) rfl (fun ls hl => ?_)
            refine lv_goto (tgt := 24) hC.1 hC.2.1 dX7_canBeSeated_85 (by decide) ?_
            exact ih _ _ _ h _ _ _ G (lv_sub hl [1, 2, 3, 4, 0] rfl)
          · replace h := h.2 c15
            refine lv_iconst (v := 1) hC.1 hC.2.1 dX7_canBeSeated_80 (by decide) ?_
            exact ag_zret hC hr hlocks G rfl h dX7_canBeSeated_81
def w_X7_canBeSeated (post : Int32 → MS → Prop) (σ : MS) (a1 : Int32) (i2 : Nat) : Prop := w_J6_bitCount_0f7a4 (fun r2 σ1 => (((r2 - 1) < 0 → post 0 σ1) ∧ (¬ (r2 - 1) < 0 → (((r2 - 1) < (σ1 (55 + i2) 2) → (∃ k, u_X7_canBeSeated_24 post a1 i2 k σ1 (r2 - 1) 0)) ∧ (¬ (r2 - 1) < (σ1 (55 + i2) 2) → post 0 σ1))))) σ a1
set_option maxHeartbeats 4000000 in
set_option maxRecDepth 100000 in
theorem c_X7_canBeSeated (l : Launch) (D : va_G) (cy : Nat → ClassId) (lay : Nat → Nat) {σ : MS} {post : Int32 → MS → Prop} {a1 : Int32} {i2 : Nat} (h : w_X7_canBeSeated post σ a1 i2) (hi2 : i2 < 6) (sz : Nat) : Met l yX7_canBeSeated wsX7_canBeSeated rm_X7_canBeSeated (va_Pc [.ref (lay 0), .int a1, .ref (lay (55 + i2))] (agI D cy lay σ sz)) (va_Qi post (agO D cy lay) (agA lay sz)) 0 0 (agA lay sz) := by
  refine ag_ofW (cc := cX7_canBeSeated) (maxL := 5) (ret := some .boolean) (own := RX7) (Qc := fun sz => va_Qi post (agO D cy lay) (agA lay sz)) (by decide) rfl (Nat.le_of_ble_eq_true rfl) rfl ?_
  intro p e s m args below meth c ls hC hr hlocks hT G hl
  unfold w_X7_canBeSeated at h
  have hl : lv_has ls 5 [(0, .ref (lay 0)), (1, .int a1), (2, .ref (lay (55 + i2)))] := hl
  refine lv_iload_n hC.1 hC.2.1 dX7_canBeSeated_0 rfl (lv_at hl 1 rfl) ?_
  refine ag_i G (ag_runS (As := [.int a1]) (rest := []) hC hT G (c_J6_bitCount_0f7a4 l D cy lay h _) (va_cwS 1 hC.2.2.2.2 gX7_canBeSeated_J6_bitCount_0f7a4 rfl rfl rfl hdS_J6_bitCount_0f7a4 ⟨Nat.le_of_ble_eq_true rfl, Nat.le_of_ble_eq_true rfl⟩) rfl hl.1 rfl (Nat.le_of_ble_eq_true rfl) dX7_canBeSeated_1 ⟨Nat.le_of_ble_eq_true rfl, Nat.le_of_ble_eq_true rfl⟩) (fun r2 σ1 H locs h G => ?_)
  (try dsimp only at h)
  refine lv_iconst (v := 1) hC.1 hC.2.1 dX7_canBeSeated_4 (by decide) ?_
  refine lv_isub hC.1 hC.2.1 dX7_canBeSeated_5 ?_
  refine lv_istore_n (lv' := [(3, .int (r2 - 1)), (0, .ref (lay 0)), (1, .int a1), (2, .ref (lay (55 + i2)))]) hC.1 hC.2.1 dX7_canBeSeated_6 rfl hl (by decide) rfl (fun ls hl => ?_)
  refine lv_iload_n hC.1 hC.2.1 dX7_canBeSeated_7 rfl (lv_at hl 0 rfl) ?_
  refine lv_if_lt (tgt := 19) hC.1 hC.2.1 dX7_canBeSeated_8 (by decide) (fun c3 => ?_) (fun c3 => ?_)
  · replace h := h.1 c3
    refine lv_iconst (v := 0) hC.1 hC.2.1 dX7_canBeSeated_19 (by decide) ?_
    exact ag_zret hC hr hlocks G rfl h dX7_canBeSeated_20
  · replace h := h.2 c3
    refine lv_iload_n hC.1 hC.2.1 dX7_canBeSeated_11 rfl (lv_at hl 0 rfl) ?_
    refine lv_aload_n hC.1 hC.2.1 dX7_canBeSeated_12 rfl (lv_at hl 3 rfl) ?_
    refine ag_get hC hT G (k_bd hi2) (e_bd hi2) k_X0 i_X7_canBeSeated_X0 2 (by decide) (wm 1 rfl) rfl dX7_canBeSeated_13 ?_
    refine lv_icmp_lt (tgt := 21) hC.1 hC.2.1 dX7_canBeSeated_16 (by decide) (fun c4 => ?_) (fun c4 => ?_)
    · replace h := h.1 c4
      refine lv_iconst (v := 0) hC.1 hC.2.1 dX7_canBeSeated_21 (by decide) ?_
      refine lv_istore (lv' := [(4, .int 0), (3, .int (r2 - 1)), (0, .ref (lay 0)), (1, .int a1), (2, .ref (lay (55 + i2)))]) hC.1 hC.2.1 dX7_canBeSeated_22 hl (by decide) rfl (fun ls hl => ?_)
      obtain ⟨n1, h⟩ := h
      exact l_X7_canBeSeated_24 a1 i2 hC hr hlocks hT hi2 n1 _ _ _ h _ _ _ G (lv_sub hl [2, 3, 4, 1, 0] rfl)
    · replace h := h.2 c4
      refine lv_iconst (v := 0) hC.1 hC.2.1 dX7_canBeSeated_19 (by decide) ?_
      exact ag_zret hC hr hlocks G rfl h dX7_canBeSeated_20
theorem hdV_X7_canBeSeated : yX7_canBeSeated.cls = RX7 ∧ yX7_canBeSeated.cls ≠ "java/lang/invoke/MethodHandle" ∧ yX7_canBeSeated.cls ≠ "java/lang/invoke/VarHandle" ∧ (parseMethodDescriptor yX7_canBeSeated.desc).map (fun d => d.parameters.length) = some 2 := by decide +kernel
abbrev rm_X7_seatAll : Room := { frames := 2, cells := 0, slots := 0, locals := 45 }
theorem i_X7_seatAll_X7 : ∀ w ∈ wsX70, w ∈ wsX7_seatAll := fun _ h => List.mem_cons_of_mem _ (List.mem_append_left _ (List.mem_append_left _ (List.mem_append_right _ h)))
def u_X7_seatAll_9 (post : MS → Prop) (i1 : Nat) : Nat → MS → Int32 → Prop
  | 0, _, _ => False
  | n + 1, σ, v2 => (((1 <<< ((σ 0 6) &&& 31)) ≤ v2 → post σ) ∧ (¬ (1 <<< ((σ 0 6) &&& 31)) ≤ v2 → w_X7_canBeSeated (fun r4 σ3 => (vp_in v2 1024 ∧ u_X7_seatAll_9 post i1 n (up2 σ3 8 (Int32.toNatClampNeg v2) (vp_nar .boolean r4)) (v2 + 1))) σ v2 i1))
set_option maxHeartbeats 4000000 in
set_option maxRecDepth 100000 in
theorem l_X7_seatAll_9 {p : Program} {l : Launch} {e : Env} {s : State} {m : MethodId} {args : Array Value} {below : List Frame} {meth : Method} {c : Code} {D : va_G} {cy : Nat → ClassId} {lay : Nat → Nat} {post : MS → Prop} (i1 : Nat) (hC : CallFix p m c cX7_seatAll 3 s args wsX7_seatAll RX7) (hr : meth.sig.returnType = none) (hlocks : meth.locks = false) (hT : agT D cy lay s) (hi1 : i1 < 6) : ∀ (n : Nat), ∀ (σ : MS) (v2 : Int32), u_X7_seatAll_9 post i1 n σ v2 → ∀ (H : Heap) (locs : List Loc) (ls : Array Slot), agG D cy lay σ (agA lay s.heap.size) s.heap H locs → lv_has ls 3 [(0, .ref (lay 0)), (1, .ref (lay (55 + i1))), (2, .int v2)] → W p l e rm_X7_seatAll s m args below meth c H locs 0 0 (MQ below (va_Qv post (agO D cy lay) (agA lay s.heap.size)) args s 0 0 (agA lay s.heap.size)) (F0 m 9 ls []) := by
  intro n
  induction n with
  | zero =>
    intro σ v2 h
    exact h.elim
  | succ n ih =>
    intro σ v2 h H locs ls G hl
    rw [u_X7_seatAll_9] at h
    refine lv_iload_n hC.1 hC.2.1 dX7_seatAll_9 rfl (lv_at hl 2 rfl) ?_
    refine lv_iconst (v := 1) hC.1 hC.2.1 dX7_seatAll_10 (by decide) ?_
    refine lv_aload_n hC.1 hC.2.1 dX7_seatAll_11 rfl (lv_at hl 0 rfl) ?_
    refine ag_get hC hT G (by decide) e_ag k_X7 i_X7_seatAll_X7 6 (by decide) (wm 2 rfl) rfl dX7_seatAll_12 ?_
    refine lv_ishl hC.1 hC.2.1 dX7_seatAll_15 ?_
    refine lv_icmp_ge (tgt := 37) hC.1 hC.2.1 dX7_seatAll_16 (by decide) (fun c2 => ?_) (fun c2 => ?_)
    · replace h := h.1 c2
      exact ag_vret hC hr hlocks G h dX7_seatAll_37
    · replace h := h.2 c2
      refine lv_aload_n hC.1 hC.2.1 dX7_seatAll_19 rfl (lv_at hl 0 rfl) ?_
      refine ag_get hC hT G (by decide) e_ag k_X7 i_X7_seatAll_X7 12 (by decide) (wm 1 rfl) rfl dX7_seatAll_20 ?_
      refine lv_iload_n hC.1 hC.2.1 dX7_seatAll_23 rfl (lv_at hl 2 rfl) ?_
      refine lv_aload_n hC.1 hC.2.1 dX7_seatAll_24 rfl (lv_at hl 0 rfl) ?_
      refine lv_iload_n hC.1 hC.2.1 dX7_seatAll_25 rfl (lv_at hl 2 rfl) ?_
      refine lv_aload_n hC.1 hC.2.1 dX7_seatAll_26 rfl (lv_at hl 1 rfl) ?_
      refine ag_i G (ag_runV (As := [.int v2, .ref (lay (55 + i1))]) (rest := [.int v2, .ref (lay 8)]) hC hT G (c_X7_canBeSeated l D cy lay h hi1 _) (cwV 2 hC.2.2.2.2 gX7_seatAll_X7_canBeSeated rfl rfl rfl hdV_X7_canBeSeated ⟨Nat.le_of_ble_eq_true rfl, Nat.le_of_ble_eq_true rfl⟩) (ag_recv hT G (by decide) e_ag k_X7) rfl hl.1 rfl (Nat.le_of_ble_eq_true rfl) dX7_seatAll_27 ⟨Nat.le_of_ble_eq_true rfl, Nat.le_of_ble_eq_true rfl⟩) (fun r4 σ3 H locs h G => ?_)
      (try dsimp only at h)
      obtain ⟨hn5, h⟩ := h
      refine ag_zast hC hT G (by decide) (fun _ => e_sea) hn5 dX7_seatAll_30 (fun H locs G => ?_)
      refine lv_iinc (v := v2 + 1) (lv' := [(2, .int (v2 + 1)), (0, .ref (lay 0)), (1, .ref (lay (55 + i1)))]) hC.1 hC.2.1 dX7_seatAll_31 hl (k := 2) rfl rfl (by decide) rfl (fun ls hl => ?_)
      refine lv_goto (tgt := 9) hC.1 hC.2.1 dX7_seatAll_34 (by decide) ?_
      exact ih _ _ h _ _ _ G (lv_sub hl [1, 2, 0] rfl)
def w_X7_seatAll (post : MS → Prop) (σ : MS) (i1 : Nat) : Prop := (vp_in 0 1024 ∧ (∃ k, u_X7_seatAll_9 post i1 k (up2 σ 8 (Int32.toNatClampNeg 0) (vp_nar .boolean 1)) 1))
set_option maxHeartbeats 4000000 in
set_option maxRecDepth 100000 in
theorem c_X7_seatAll (l : Launch) (D : va_G) (cy : Nat → ClassId) (lay : Nat → Nat) {σ : MS} {post : MS → Prop} {i1 : Nat} (h : w_X7_seatAll post σ i1) (hi1 : i1 < 6) (sz : Nat) : Met l yX7_seatAll wsX7_seatAll rm_X7_seatAll (va_Pc [.ref (lay 0), .ref (lay (55 + i1))] (agI D cy lay σ sz)) (va_Qv post (agO D cy lay) (agA lay sz)) 0 0 (agA lay sz) := by
  refine ag_ofW (cc := cX7_seatAll) (maxL := 3) (ret := none) (own := RX7) (Qc := fun sz => va_Qv post (agO D cy lay) (agA lay sz)) (by decide) rfl (Nat.le_of_ble_eq_true rfl) rfl ?_
  intro p e s m args below meth c ls hC hr hlocks hT G hl
  unfold w_X7_seatAll at h
  have hl : lv_has ls 3 [(0, .ref (lay 0)), (1, .ref (lay (55 + i1)))] := hl
  refine lv_aload_n hC.1 hC.2.1 dX7_seatAll_0 rfl (lv_at hl 0 rfl) ?_
  refine ag_get hC hT G (by decide) e_ag k_X7 i_X7_seatAll_X7 12 (by decide) (wm 1 rfl) rfl dX7_seatAll_1 ?_
  refine lv_iconst (v := 0) hC.1 hC.2.1 dX7_seatAll_4 (by decide) ?_
  refine lv_iconst (v := 1) hC.1 hC.2.1 dX7_seatAll_5 (by decide) ?_
  obtain ⟨hn1, h⟩ := h
  refine ag_zast hC hT G (by decide) (fun _ => e_sea) hn1 dX7_seatAll_6 (fun H locs G => ?_)
  refine lv_iconst (v := 1) hC.1 hC.2.1 dX7_seatAll_7 (by decide) ?_
  refine lv_istore_n (lv' := [(2, .int 1), (0, .ref (lay 0)), (1, .ref (lay (55 + i1)))]) hC.1 hC.2.1 dX7_seatAll_8 rfl hl (by decide) rfl (fun ls hl => ?_)
  obtain ⟨n1, h⟩ := h
  exact l_X7_seatAll_9 i1 hC hr hlocks hT hi1 n1 _ _ h _ _ _ G (lv_sub hl [1, 2, 0] rfl)
theorem hdV_X7_seatAll : yX7_seatAll.cls = RX7 ∧ yX7_seatAll.cls ≠ "java/lang/invoke/MethodHandle" ∧ yX7_seatAll.cls ≠ "java/lang/invoke/VarHandle" ∧ (parseMethodDescriptor yX7_seatAll.desc).map (fun d => d.parameters.length) = some 1 := by decide +kernel
abbrev rm_X7_survey : Room := { frames := 3, cells := 0, slots := 0, locals := 69 }
theorem i_X7_survey_X7 : ∀ w ∈ wsX70, w ∈ wsX7_survey := fun _ h => List.mem_cons_of_mem _ (List.mem_append_left _ (List.mem_append_left _ (List.mem_append_left _ (List.mem_append_left _ (List.mem_append_left _ (List.mem_append_right _ h))))))
theorem i_X7_survey_X6 : ∀ w ∈ wsX60, w ∈ wsX7_survey := fun _ h => List.mem_cons_of_mem _ (List.mem_append_left _ (List.mem_append_left _ (List.mem_append_left _ (List.mem_append_left _ (List.mem_append_right _ h)))))
theorem i_X7_survey_X0 : ∀ w ∈ wsX00, w ∈ wsX7_survey := fun _ h => List.mem_cons_of_mem _ (List.mem_append_left _ (List.mem_append_left _ (List.mem_append_left _ (List.mem_append_right _ h))))
theorem i_X7_survey_X2 : ∀ w ∈ wsX20, w ∈ wsX7_survey := fun _ h => List.mem_cons_of_mem _ (List.mem_append_left _ (List.mem_append_left _ (List.mem_append_right _ h)))
def u_X7_survey_53 (post : MS → Prop) (a1 : Int32) (a2 : Int32) (a3 : Int32) : Nat → MS → Nat → Int32 → Int32 → Int32 → Int32 → Prop
  | 0, _, _, _, _, _, _ => False
  | n + 1, σ, v4, v5, v6, v7, v8 => (((1 <<< ((σ 0 6) &&& 31)) ≤ v8 → (((σ 9 3) ≤ 0 → w_J6_bitCount_0f7a4 (fun r9 σ8 => ((v5 ≤ r9 → ((v6 = 0 → post (up2 σ8 9 5 2)) ∧ (¬ v6 = 0 → ((v7 = 0 → post (up2 σ8 9 5 4)) ∧ (¬ v7 = 0 → post (up2 σ8 9 5 3)))))) ∧ (¬ v5 ≤ r9 → post (up2 σ8 9 5 1)))) σ a2) ∧ (¬ (σ 9 3) ≤ 0 → post (up2 σ 9 5 0)))) ∧ (¬ (1 <<< ((σ 0 6) &&& 31)) ≤ v8 → (((v8 &&& (a2 ^^^ (-1))) = 0 → (vp_in v8 1024 ∧ (((σ 8 (Int32.toNatClampNeg v8)) = 0 → u_X7_survey_53 post a1 a2 a3 n σ v4 v5 v6 v7 (v8 + 1)) ∧ (¬ (σ 8 (Int32.toNatClampNeg v8)) = 0 → w_J6_bitCount_0f7a4 (fun r17 σ16 => ((r17 = v5 → w_X7_playableFor (fun r20 σ19 => ((((σ16 (73 + v4) 5) &&& (r20 ^^^ (-1))) = 0 → w_X7_hasFeud (fun r23 σ22 => ((r23 = 0 → w_X7_costOfAll (fun r26 σ25 => w_J6_bitCount_0f7a4 (fun r28 σ27 => w_X2_add (fun σ29 => u_X7_survey_53 post a1 a2 a3 n σ29 v4 v5 1 1 (v8 + 1)) σ27 v8 r26 r28) σ25 (v8 &&& a3)) σ22 v8 v4) ∧ (¬ r23 = 0 → u_X7_survey_53 post a1 a2 a3 n σ22 v4 v5 1 1 (v8 + 1)))) σ19 v8) ∧ (¬ ((σ16 (73 + v4) 5) &&& (r20 ^^^ (-1))) = 0 → u_X7_survey_53 post a1 a2 a3 n σ19 v4 v5 1 v7 (v8 + 1)))) σ16 v8) ∧ (¬ r17 = v5 → u_X7_survey_53 post a1 a2 a3 n σ16 v4 v5 v6 v7 (v8 + 1)))) σ v8)))) ∧ (¬ (v8 &&& (a2 ^^^ (-1))) = 0 → u_X7_survey_53 post a1 a2 a3 n σ v4 v5 v6 v7 (v8 + 1)))))
set_option maxHeartbeats 4000000 in
set_option maxRecDepth 100000 in
theorem l_X7_survey_53 {p : Program} {l : Launch} {e : Env} {s : State} {m : MethodId} {args : Array Value} {below : List Frame} {meth : Method} {c : Code} {D : va_G} {cy : Nat → ClassId} {lay : Nat → Nat} {post : MS → Prop} (a1 : Int32) (a2 : Int32) (a3 : Int32) (hC : CallFix p m c cX7_survey 9 s args wsX7_survey RX7) (hr : meth.sig.returnType = none) (hlocks : meth.locks = false) (hT : agT D cy lay s) : ∀ (n : Nat), ∀ (σ : MS) (v4 : Nat) (v5 : Int32) (v6 : Int32) (v7 : Int32) (v8 : Int32), u_X7_survey_53 post a1 a2 a3 n σ v4 v5 v6 v7 v8 → ∀ (hv4 : v4 < 14), ∀ (H : Heap) (locs : List Loc) (ls : Array Slot), agG D cy lay σ (agA lay s.heap.size) s.heap H locs → lv_has ls 9 [(0, .ref (lay 0)), (1, .int a1), (2, .int a2), (3, .int a3), (4, .ref (lay (73 + v4))), (5, .int v5), (6, .int v6), (7, .int v7), (8, .int v8)] → W p l e rm_X7_survey s m args below meth c H locs 0 0 (MQ below (va_Qv post (agO D cy lay) (agA lay s.heap.size)) args s 0 0 (agA lay s.heap.size)) (F0 m 53 ls []) := by
  intro n
  induction n with
  | zero =>
    intro σ v4 v5 v6 v7 v8 h
    exact h.elim
  | succ n ih =>
    intro σ v4 v5 v6 v7 v8 h hv4 H locs ls G hl
    rw [u_X7_survey_53] at h
    refine lv_iload hC.1 hC.2.1 dX7_survey_53 (lv_at hl 8 rfl) ?_
    refine lv_iconst (v := 1) hC.1 hC.2.1 dX7_survey_55 (by decide) ?_
    refine lv_aload_n hC.1 hC.2.1 dX7_survey_56 rfl (lv_at hl 0 rfl) ?_
    refine ag_get hC hT G (by decide) e_ag k_X7 i_X7_survey_X7 6 (by decide) (wm 6 rfl) rfl dX7_survey_57 ?_
    refine lv_ishl hC.1 hC.2.1 dX7_survey_60 ?_
    refine lv_icmp_ge (tgt := 155) hC.1 hC.2.1 dX7_survey_61 (by decide) (fun c6 => ?_) (fun c6 => ?_)
    · replace h := h.1 c6
      refine lv_aload_n hC.1 hC.2.1 dX7_survey_155 rfl (lv_at hl 0 rfl) ?_
      refine ag_get hC hT G (by decide) e_ag k_X7 i_X7_survey_X7 13 (by decide) (wm 5 rfl) rfl dX7_survey_156 ?_
      refine ag_get hC hT G (by decide) e_fd k_X2 i_X7_survey_X2 3 (by decide) (wm 9 rfl) rfl dX7_survey_159 ?_
      refine lv_if_le (tgt := 176) hC.1 hC.2.1 dX7_survey_162 (by decide) (fun c7 => ?_) (fun c7 => ?_)
      · replace h := h.1 c7
        refine lv_iload_n hC.1 hC.2.1 dX7_survey_176 rfl (lv_at hl 2 rfl) ?_
        refine ag_i G (ag_runS (As := [.int a2]) (rest := []) hC hT G (c_J6_bitCount_0f7a4 l D cy lay h _) (va_cwS 1 hC.2.2.2.2 gX7_survey_J6_bitCount_0f7a4 rfl rfl rfl hdS_J6_bitCount_0f7a4 ⟨Nat.le_of_ble_eq_true rfl, Nat.le_of_ble_eq_true rfl⟩) rfl hl.1 rfl (Nat.le_of_ble_eq_true rfl) dX7_survey_177 ⟨Nat.le_of_ble_eq_true rfl, Nat.le_of_ble_eq_true rfl⟩) (fun r9 σ8 H locs h G => ?_)
        (try dsimp only at h)
        refine lv_iload hC.1 hC.2.1 dX7_survey_180 (lv_at hl 5 rfl) ?_
        refine lv_icmp_ge (tgt := 196) hC.1 hC.2.1 dX7_survey_182 (by decide) (fun c10 => ?_) (fun c10 => ?_)
        · replace h := h.1 c10
          refine lv_iload hC.1 hC.2.1 dX7_survey_196 (lv_at hl 6 rfl) ?_
          refine lv_if_ne (tgt := 212) hC.1 hC.2.1 dX7_survey_198 (by decide) (fun c11 => ?_) (fun c11 => ?_)
          · replace h := h.2 c11
            refine lv_aload_n hC.1 hC.2.1 dX7_survey_212 rfl (lv_at hl 0 rfl) ?_
            refine ag_get hC hT G (by decide) e_ag k_X7 i_X7_survey_X7 13 (by decide) (wm 5 rfl) rfl dX7_survey_213 ?_
            refine lv_iload hC.1 hC.2.1 dX7_survey_216 (lv_at hl 7 rfl) ?_
            refine lv_if_eq (tgt := 225) hC.1 hC.2.1 dX7_survey_218 (by decide) (fun c12 => ?_) (fun c12 => ?_)
            · replace h := h.1 c12
              refine lv_iconst (v := 4) hC.1 hC.2.1 dX7_survey_225 (by decide) ?_
              refine ag_put hC hT G (by decide) e_fd k_X2 i_X7_survey_X2 5 (by decide) (wm 10 rfl) rfl rfl (by simp) e_fd rfl dX7_survey_226 (fun H locs G => ?_)
              exact ag_vret hC hr hlocks G h dX7_survey_229
            · replace h := h.2 c12
              refine lv_iconst (v := 3) hC.1 hC.2.1 dX7_survey_221 (by decide) ?_
              refine lv_goto (tgt := 226) hC.1 hC.2.1 dX7_survey_222 (by decide) ?_
              refine ag_put hC hT G (by decide) e_fd k_X2 i_X7_survey_X2 5 (by decide) (wm 10 rfl) rfl rfl (by simp) e_fd rfl dX7_survey_226 (fun H locs G => ?_)
              exact ag_vret hC hr hlocks G h dX7_survey_229
          · replace h := h.1 c11
            refine lv_aload_n hC.1 hC.2.1 dX7_survey_201 rfl (lv_at hl 0 rfl) ?_
            refine ag_get hC hT G (by decide) e_ag k_X7 i_X7_survey_X7 13 (by decide) (wm 5 rfl) rfl dX7_survey_202 ?_
            refine lv_iconst (v := 2) hC.1 hC.2.1 dX7_survey_205 (by decide) ?_
            refine ag_put hC hT G (by decide) e_fd k_X2 i_X7_survey_X2 5 (by decide) (wm 10 rfl) rfl rfl (by simp) e_fd rfl dX7_survey_206 (fun H locs G => ?_)
            refine lv_goto (tgt := 229) hC.1 hC.2.1 dX7_survey_209 (by decide) ?_
            exact ag_vret hC hr hlocks G h dX7_survey_229
        · replace h := h.2 c10
          refine lv_aload_n hC.1 hC.2.1 dX7_survey_185 rfl (lv_at hl 0 rfl) ?_
          refine ag_get hC hT G (by decide) e_ag k_X7 i_X7_survey_X7 13 (by decide) (wm 5 rfl) rfl dX7_survey_186 ?_
          refine lv_iconst (v := 1) hC.1 hC.2.1 dX7_survey_189 (by decide) ?_
          refine ag_put hC hT G (by decide) e_fd k_X2 i_X7_survey_X2 5 (by decide) (wm 10 rfl) rfl rfl (by simp) e_fd rfl dX7_survey_190 (fun H locs G => ?_)
          refine lv_goto (tgt := 229) hC.1 hC.2.1 dX7_survey_193 (by decide) ?_
          exact ag_vret hC hr hlocks G h dX7_survey_229
      · replace h := h.2 c7
        refine lv_aload_n hC.1 hC.2.1 dX7_survey_165 rfl (lv_at hl 0 rfl) ?_
        refine ag_get hC hT G (by decide) e_ag k_X7 i_X7_survey_X7 13 (by decide) (wm 5 rfl) rfl dX7_survey_166 ?_
        refine lv_iconst (v := 0) hC.1 hC.2.1 dX7_survey_169 (by decide) ?_
        refine ag_put hC hT G (by decide) e_fd k_X2 i_X7_survey_X2 5 (by decide) (wm 10 rfl) rfl rfl (by simp) e_fd rfl dX7_survey_170 (fun H locs G => ?_)
        refine lv_goto (tgt := 229) hC.1 hC.2.1 dX7_survey_173 (by decide) ?_
        exact ag_vret hC hr hlocks G h dX7_survey_229
    · replace h := h.2 c6
      refine lv_iload hC.1 hC.2.1 dX7_survey_64 (lv_at hl 8 rfl) ?_
      refine lv_iload_n hC.1 hC.2.1 dX7_survey_66 rfl (lv_at hl 2 rfl) ?_
      refine lv_iconst (v := (-1)) hC.1 hC.2.1 dX7_survey_67 (by decide) ?_
      refine lv_ixor hC.1 hC.2.1 dX7_survey_68 ?_
      refine lv_iand hC.1 hC.2.1 dX7_survey_69 ?_
      refine lv_if_ne (tgt := 149) hC.1 hC.2.1 dX7_survey_70 (by decide) (fun c13 => ?_) (fun c13 => ?_)
      · replace h := h.2 c13
        refine lv_iinc (v := v8 + 1) (lv' := [(8, .int (v8 + 1)), (0, .ref (lay 0)), (1, .int a1), (2, .int a2), (3, .int a3), (4, .ref (lay (73 + v4))), (5, .int v5), (6, .int v6), (7, .int v7)]) hC.1 hC.2.1 dX7_survey_149 hl (k := 8) rfl rfl (by decide) rfl (fun ls hl => ?_)
        refine lv_goto (tgt := 53) hC.1 hC.2.1 dX7_survey_152 (by decide) ?_
        exact ih _ _ _ _ _ _ h hv4 _ _ _ G (lv_sub hl [1, 2, 3, 4, 5, 6, 7, 8, 0] rfl)
      · replace h := h.1 c13
        refine lv_aload_n hC.1 hC.2.1 dX7_survey_73 rfl (lv_at hl 0 rfl) ?_
        refine ag_get hC hT G (by decide) e_ag k_X7 i_X7_survey_X7 12 (by decide) (wm 7 rfl) rfl dX7_survey_74 ?_
        refine lv_iload hC.1 hC.2.1 dX7_survey_77 (lv_at hl 8 rfl) ?_
        obtain ⟨hn14, h⟩ := h
        refine ag_zald hC hT G (by decide) e_sea hn14 dX7_survey_79 ?_
        refine lv_if_eq (tgt := 149) hC.1 hC.2.1 dX7_survey_80 (by decide) (fun c15 => ?_) (fun c15 => ?_)
        · replace h := h.1 c15
          refine lv_iinc (v := v8 + 1) (lv' := [(8, .int (v8 + 1)), (0, .ref (lay 0)), (1, .int a1), (2, .int a2), (3, .int a3), (4, .ref (lay (73 + v4))), (5, .int v5), (6, .int v6), (7, .int v7)]) hC.1 hC.2.1 dX7_survey_149 hl (k := 8) rfl rfl (by decide) rfl (fun ls hl => ?_)
          refine lv_goto (tgt := 53) hC.1 hC.2.1 dX7_survey_152 (by decide) ?_
          exact ih _ _ _ _ _ _ h hv4 _ _ _ G (lv_sub hl [1, 2, 3, 4, 5, 6, 7, 8, 0] rfl)
        · replace h := h.2 c15
          refine lv_iload hC.1 hC.2.1 dX7_survey_83 (lv_at hl 8 rfl) ?_
          refine ag_i G (ag_runS (As := [.int v8]) (rest := []) hC hT G (c_J6_bitCount_0f7a4 l D cy lay h _) (va_cwS 1 hC.2.2.2.2 gX7_survey_J6_bitCount_0f7a4 rfl rfl rfl hdS_J6_bitCount_0f7a4 ⟨Nat.le_of_ble_eq_true rfl, Nat.le_of_ble_eq_true rfl⟩) rfl hl.1 rfl (Nat.le_of_ble_eq_true rfl) dX7_survey_85 ⟨Nat.le_of_ble_eq_true rfl, Nat.le_of_ble_eq_true rfl⟩) (fun r17 σ16 H locs h G => ?_)
          (try dsimp only at h)
          refine lv_iload hC.1 hC.2.1 dX7_survey_88 (lv_at hl 5 rfl) ?_
          refine lv_icmp_ne (tgt := 149) hC.1 hC.2.1 dX7_survey_90 (by decide) (fun c18 => ?_) (fun c18 => ?_)
          · replace h := h.2 c18
            refine lv_iinc (v := v8 + 1) (lv' := [(8, .int (v8 + 1)), (0, .ref (lay 0)), (1, .int a1), (2, .int a2), (3, .int a3), (4, .ref (lay (73 + v4))), (5, .int v5), (6, .int v6), (7, .int v7)]) hC.1 hC.2.1 dX7_survey_149 hl (k := 8) rfl rfl (by decide) rfl (fun ls hl => ?_)
            refine lv_goto (tgt := 53) hC.1 hC.2.1 dX7_survey_152 (by decide) ?_
            exact ih _ _ _ _ _ _ h hv4 _ _ _ G (lv_sub hl [1, 2, 3, 4, 5, 6, 7, 8, 0] rfl)
          · replace h := h.1 c18
            refine lv_iconst (v := 1) hC.1 hC.2.1 dX7_survey_93 (by decide) ?_
            refine lv_istore (lv' := [(6, .int 1), (0, .ref (lay 0)), (1, .int a1), (2, .int a2), (3, .int a3), (4, .ref (lay (73 + v4))), (5, .int v5), (7, .int v7), (8, .int v8)]) hC.1 hC.2.1 dX7_survey_94 hl (by decide) rfl (fun ls hl => ?_)
            refine lv_aload hC.1 hC.2.1 dX7_survey_96 (lv_at hl 5 rfl) ?_
            refine ag_get hC hT G (k_wd hv4) (e_wd hv4) k_X6 i_X7_survey_X6 5 (by decide) (wm 8 rfl) rfl dX7_survey_98 ?_
            refine lv_aload_n hC.1 hC.2.1 dX7_survey_101 rfl (lv_at hl 1 rfl) ?_
            refine lv_iload hC.1 hC.2.1 dX7_survey_102 (lv_at hl 8 rfl) ?_
            refine ag_i G (ag_runV (As := [.int v8]) (rest := [.int (σ16 (73 + v4) 5)]) hC hT G (c_X7_playableFor l D cy lay h _) (cwV 1 hC.2.2.2.2 gX7_survey_X7_playableFor rfl rfl rfl hdV_X7_playableFor ⟨Nat.le_of_ble_eq_true rfl, Nat.le_of_ble_eq_true rfl⟩) (ag_recv hT G (by decide) e_ag k_X7) rfl hl.1 rfl (Nat.le_of_ble_eq_true rfl) dX7_survey_104 ⟨Nat.le_of_ble_eq_true rfl, Nat.le_of_ble_eq_true rfl⟩) (fun r20 σ19 H locs h G => ?_)
            (try dsimp only at h)
            refine lv_iconst (v := (-1)) hC.1 hC.2.1 dX7_survey_107 (by decide) ?_
            refine lv_ixor hC.1 hC.2.1 dX7_survey_108 ?_
            refine lv_iand hC.1 hC.2.1 dX7_survey_109 ?_
            refine lv_if_ne (tgt := 149) hC.1 hC.2.1 dX7_survey_110 (by decide) (fun c21 => ?_) (fun c21 => ?_)
            · replace h := h.2 c21
              refine lv_iinc (v := v8 + 1) (lv' := [(8, .int (v8 + 1)), (6, .int 1), (0, .ref (lay 0)), (1, .int a1), (2, .int a2), (3, .int a3), (4, .ref (lay (73 + v4))), (5, .int v5), (7, .int v7)]) hC.1 hC.2.1 dX7_survey_149 hl (k := 8) rfl rfl (by decide) rfl (fun ls hl => ?_)
              refine lv_goto (tgt := 53) hC.1 hC.2.1 dX7_survey_152 (by decide) ?_
              exact ih _ _ _ _ _ _ h hv4 _ _ _ G (lv_sub hl [2, 3, 4, 5, 6, 7, 1, 8, 0] rfl)
            · replace h := h.1 c21
              refine lv_iconst (v := 1) hC.1 hC.2.1 dX7_survey_113 (by decide) ?_
              refine lv_istore (lv' := [(7, .int 1), (6, .int 1), (0, .ref (lay 0)), (1, .int a1), (2, .int a2), (3, .int a3), (4, .ref (lay (73 + v4))), (5, .int v5), (8, .int v8)]) hC.1 hC.2.1 dX7_survey_114 hl (by decide) rfl (fun ls hl => ?_)
              refine lv_aload_n hC.1 hC.2.1 dX7_survey_116 rfl (lv_at hl 2 rfl) ?_
              refine lv_iload hC.1 hC.2.1 dX7_survey_117 (lv_at hl 8 rfl) ?_
              refine ag_i G (ag_runV (As := [.int v8]) (rest := []) hC hT G (c_X7_hasFeud l D cy lay h _) (cwV 1 hC.2.2.2.2 gX7_survey_X7_hasFeud rfl rfl rfl hdV_X7_hasFeud ⟨Nat.le_of_ble_eq_true rfl, Nat.le_of_ble_eq_true rfl⟩) (ag_recv hT G (by decide) e_ag k_X7) rfl hl.1 rfl (Nat.le_of_ble_eq_true rfl) dX7_survey_119 ⟨Nat.le_of_ble_eq_true rfl, Nat.le_of_ble_eq_true rfl⟩) (fun r23 σ22 H locs h G => ?_)
              (try dsimp only at h)
              refine lv_if_ne (tgt := 149) hC.1 hC.2.1 dX7_survey_122 (by decide) (fun c24 => ?_) (fun c24 => ?_)
              · replace h := h.2 c24
                refine lv_iinc (v := v8 + 1) (lv' := [(8, .int (v8 + 1)), (7, .int 1), (6, .int 1), (0, .ref (lay 0)), (1, .int a1), (2, .int a2), (3, .int a3), (4, .ref (lay (73 + v4))), (5, .int v5)]) hC.1 hC.2.1 dX7_survey_149 hl (k := 8) rfl rfl (by decide) rfl (fun ls hl => ?_)
                refine lv_goto (tgt := 53) hC.1 hC.2.1 dX7_survey_152 (by decide) ?_
                exact ih _ _ _ _ _ _ h hv4 _ _ _ G (lv_sub hl [3, 4, 5, 6, 7, 8, 2, 1, 0] rfl)
              · replace h := h.1 c24
                refine lv_aload_n hC.1 hC.2.1 dX7_survey_125 rfl (lv_at hl 2 rfl) ?_
                refine ag_get hC hT G (by decide) e_ag k_X7 i_X7_survey_X7 13 (by decide) (wm 5 rfl) rfl dX7_survey_126 ?_
                refine lv_iload hC.1 hC.2.1 dX7_survey_129 (lv_at hl 8 rfl) ?_
                refine lv_aload_n hC.1 hC.2.1 dX7_survey_131 rfl (lv_at hl 2 rfl) ?_
                refine lv_iload hC.1 hC.2.1 dX7_survey_132 (lv_at hl 8 rfl) ?_
                refine lv_aload hC.1 hC.2.1 dX7_survey_134 (lv_at hl 6 rfl) ?_
                refine ag_i G (ag_runV (As := [.int v8, .ref (lay (73 + v4))]) (rest := [.int v8, .ref (lay 9)]) hC hT G (c_X7_costOfAll l D cy lay h hv4 _) (cwV 2 hC.2.2.2.2 gX7_survey_X7_costOfAll rfl rfl rfl hdV_X7_costOfAll ⟨Nat.le_of_ble_eq_true rfl, Nat.le_of_ble_eq_true rfl⟩) (ag_recv hT G (by decide) e_ag k_X7) rfl hl.1 rfl (Nat.le_of_ble_eq_true rfl) dX7_survey_136 ⟨Nat.le_of_ble_eq_true rfl, Nat.le_of_ble_eq_true rfl⟩) (fun r26 σ25 H locs h G => ?_)
                (try dsimp only at h)
                refine lv_iload hC.1 hC.2.1 dX7_survey_139 (lv_at hl 8 rfl) ?_
                refine lv_iload_n hC.1 hC.2.1 dX7_survey_141 rfl (lv_at hl 5 rfl) ?_
                refine lv_iand hC.1 hC.2.1 dX7_survey_142 ?_
                refine ag_i G (ag_runS (As := [.int (v8 &&& a3)]) (rest := [.int r26, .int v8, .ref (lay 9)]) hC hT G (c_J6_bitCount_0f7a4 l D cy lay h _) (va_cwS 1 hC.2.2.2.2 gX7_survey_J6_bitCount_0f7a4 rfl rfl rfl hdS_J6_bitCount_0f7a4 ⟨Nat.le_of_ble_eq_true rfl, Nat.le_of_ble_eq_true rfl⟩) rfl hl.1 rfl (Nat.le_of_ble_eq_true rfl) dX7_survey_143 ⟨Nat.le_of_ble_eq_true rfl, Nat.le_of_ble_eq_true rfl⟩) (fun r28 σ27 H locs h G => ?_)
                (try dsimp only at h)
                refine ag_v G (ag_runV (As := [.int v8, .int r26, .int r28]) (rest := []) hC hT G (c_X2_add l D cy lay h _) (cwV 3 hC.2.2.2.2 gX7_survey_X2_add rfl rfl rfl hdV_X2_add ⟨Nat.le_of_ble_eq_true rfl, Nat.le_of_ble_eq_true rfl⟩) (ag_recv hT G (by decide) e_fd k_X2) rfl hl.1 rfl (Nat.le_of_ble_eq_true rfl) dX7_survey_146 ⟨Nat.le_of_ble_eq_true rfl, Nat.le_of_ble_eq_true rfl⟩) (fun σ29 H locs h G => ?_)
                (try dsimp only at h)
                refine lv_iinc (v := v8 + 1) (lv' := [(8, .int (v8 + 1)), (7, .int 1), (6, .int 1), (0, .ref (lay 0)), (1, .int a1), (2, .int a2), (3, .int a3), (4, .ref (lay (73 + v4))), (5, .int v5)]) hC.1 hC.2.1 dX7_survey_149 hl (k := 8) rfl rfl (by decide) rfl (fun ls hl => ?_)
                refine lv_goto (tgt := 53) hC.1 hC.2.1 dX7_survey_152 (by decide) ?_
                exact ih _ _ _ _ _ _ h hv4 _ _ _ G (lv_sub hl [3, 4, 5, 6, 7, 8, 2, 1, 0] rfl)
def w_X7_survey (post : MS → Prop) (σ : MS) (a1 : Int32) (a2 : Int32) (a3 : Int32) : Prop := (vp_in a1 14 ∧ (vp_in (σ (73 + (Int32.toNatClampNeg a1)) 0) 6 ∧ w_X2_clear (fun σ3 => (vp_in (σ3 (73 + (Int32.toNatClampNeg a1)) 0) 6 ∧ w_X7_seatAll (fun σ5 => (∃ k, u_X7_survey_53 post a1 a2 a3 k σ5 (Int32.toNatClampNeg a1) (σ (55 + (Int32.toNatClampNeg (σ (73 + (Int32.toNatClampNeg a1)) 0))) 2) 0 0 1)) σ3 (Int32.toNatClampNeg (σ3 (73 + (Int32.toNatClampNeg a1)) 0)))) σ))
set_option maxHeartbeats 4000000 in
set_option maxRecDepth 100000 in
theorem c_X7_survey (l : Launch) (D : va_G) (cy : Nat → ClassId) (lay : Nat → Nat) {σ : MS} {post : MS → Prop} {a1 : Int32} {a2 : Int32} {a3 : Int32} (h : w_X7_survey post σ a1 a2 a3) (sz : Nat) : Met l yX7_survey wsX7_survey rm_X7_survey (va_Pc [.ref (lay 0), .int a1, .int a2, .int a3] (agI D cy lay σ sz)) (va_Qv post (agO D cy lay) (agA lay sz)) 0 0 (agA lay sz) := by
  refine ag_ofW (cc := cX7_survey) (maxL := 9) (ret := none) (own := RX7) (Qc := fun sz => va_Qv post (agO D cy lay) (agA lay sz)) (by decide) rfl (Nat.le_of_ble_eq_true rfl) rfl ?_
  intro p e s m args below meth c ls hC hr hlocks hT G hl
  unfold w_X7_survey at h
  have hl : lv_has ls 9 [(0, .ref (lay 0)), (1, .int a1), (2, .int a2), (3, .int a3)] := hl
  refine lv_aload_n hC.1 hC.2.1 dX7_survey_0 rfl (lv_at hl 0 rfl) ?_
  refine ag_get hC hT G (by decide) e_ag k_X7 i_X7_survey_X7 3 (by decide) (wm 1 rfl) rfl dX7_survey_1 ?_
  refine lv_iload_n hC.1 hC.2.1 dX7_survey_4 rfl (lv_at hl 1 rfl) ?_
  obtain ⟨hn1, h⟩ := h
  refine ag_aald hC hT G (by decide) _ rfl e_wds hn1 dX7_survey_5 ?_
  refine lv_astore (lv' := [(4, .ref (lay (73 + (Int32.toNatClampNeg a1)))), (0, .ref (lay 0)), (1, .int a1), (2, .int a2), (3, .int a3)]) hC.1 hC.2.1 dX7_survey_6 hl (by decide) rfl (fun ls hl => ?_)
  refine lv_aload_n hC.1 hC.2.1 dX7_survey_8 rfl (lv_at hl 1 rfl) ?_
  refine ag_get hC hT G (by decide) e_ag k_X7 i_X7_survey_X7 2 (by decide) (wm 2 rfl) rfl dX7_survey_9 ?_
  refine lv_aload hC.1 hC.2.1 dX7_survey_12 (lv_at hl 0 rfl) ?_
  refine ag_get hC hT G (k_wd (vlt hn1)) (e_wd (vlt hn1)) k_X6 i_X7_survey_X6 0 (by decide) (wm 3 rfl) rfl dX7_survey_14 ?_
  obtain ⟨hn2, h⟩ := h
  refine ag_aald hC hT G (by decide) _ rfl e_bds hn2 dX7_survey_17 ?_
  refine ag_get hC hT G (k_bd (vlt hn2)) (e_bd (vlt hn2)) k_X0 i_X7_survey_X0 2 (by decide) (wm 4 rfl) rfl dX7_survey_18 ?_
  refine lv_istore (lv' := [(5, .int (σ (55 + (Int32.toNatClampNeg (σ (73 + (Int32.toNatClampNeg a1)) 0))) 2)), (4, .ref (lay (73 + (Int32.toNatClampNeg a1)))), (0, .ref (lay 0)), (1, .int a1), (2, .int a2), (3, .int a3)]) hC.1 hC.2.1 dX7_survey_21 hl (by decide) rfl (fun ls hl => ?_)
  refine lv_iconst (v := 0) hC.1 hC.2.1 dX7_survey_23 (by decide) ?_
  refine lv_istore (lv' := [(6, .int 0), (5, .int (σ (55 + (Int32.toNatClampNeg (σ (73 + (Int32.toNatClampNeg a1)) 0))) 2)), (4, .ref (lay (73 + (Int32.toNatClampNeg a1)))), (0, .ref (lay 0)), (1, .int a1), (2, .int a2), (3, .int a3)]) hC.1 hC.2.1 dX7_survey_24 hl (by decide) rfl (fun ls hl => ?_)
  refine lv_iconst (v := 0) hC.1 hC.2.1 dX7_survey_26 (by decide) ?_
  refine lv_istore (lv' := [(7, .int 0), (6, .int 0), (5, .int (σ (55 + (Int32.toNatClampNeg (σ (73 + (Int32.toNatClampNeg a1)) 0))) 2)), (4, .ref (lay (73 + (Int32.toNatClampNeg a1)))), (0, .ref (lay 0)), (1, .int a1), (2, .int a2), (3, .int a3)]) hC.1 hC.2.1 dX7_survey_27 hl (by decide) rfl (fun ls hl => ?_)
  refine lv_aload_n hC.1 hC.2.1 dX7_survey_29 rfl (lv_at hl 4 rfl) ?_
  refine ag_get hC hT G (by decide) e_ag k_X7 i_X7_survey_X7 13 (by decide) (wm 5 rfl) rfl dX7_survey_30 ?_
  refine ag_v G (ag_runV (As := []) (rest := []) hC hT G (c_X2_clear l D cy lay h _) (cwV 0 hC.2.2.2.2 gX7_survey_X2_clear rfl rfl rfl hdV_X2_clear ⟨Nat.le_of_ble_eq_true rfl, Nat.le_of_ble_eq_true rfl⟩) (ag_recv hT G (by decide) e_fd k_X2) rfl hl.1 rfl (Nat.le_of_ble_eq_true rfl) dX7_survey_33 ⟨Nat.le_of_ble_eq_true rfl, Nat.le_of_ble_eq_true rfl⟩) (fun σ3 H locs h G => ?_)
  (try dsimp only at h)
  refine lv_aload_n hC.1 hC.2.1 dX7_survey_36 rfl (lv_at hl 4 rfl) ?_
  refine lv_aload_n hC.1 hC.2.1 dX7_survey_37 rfl (lv_at hl 4 rfl) ?_
  refine ag_get hC hT G (by decide) e_ag k_X7 i_X7_survey_X7 2 (by decide) (wm 2 rfl) rfl dX7_survey_38 ?_
  refine lv_aload hC.1 hC.2.1 dX7_survey_41 (lv_at hl 3 rfl) ?_
  refine ag_get hC hT G (k_wd (vlt hn1)) (e_wd (vlt hn1)) k_X6 i_X7_survey_X6 0 (by decide) (wm 3 rfl) rfl dX7_survey_43 ?_
  obtain ⟨hn4, h⟩ := h
  refine ag_aald hC hT G (by decide) _ rfl e_bds hn4 dX7_survey_46 ?_
  refine ag_v G (ag_runV (As := [.ref (lay (55 + (Int32.toNatClampNeg (σ3 (73 + (Int32.toNatClampNeg a1)) 0))))]) (rest := []) hC hT G (c_X7_seatAll l D cy lay h (vlt hn4) _) (cwV 1 hC.2.2.2.2 gX7_survey_X7_seatAll rfl rfl rfl hdV_X7_seatAll ⟨Nat.le_of_ble_eq_true rfl, Nat.le_of_ble_eq_true rfl⟩) (ag_recv hT G (by decide) e_ag k_X7) rfl hl.1 rfl (Nat.le_of_ble_eq_true rfl) dX7_survey_47 ⟨Nat.le_of_ble_eq_true rfl, Nat.le_of_ble_eq_true rfl⟩) (fun σ5 H locs h G => ?_)
  (try dsimp only at h)
  refine lv_iconst (v := 1) hC.1 hC.2.1 dX7_survey_50 (by decide) ?_
  refine lv_istore (lv' := [(8, .int 1), (7, .int 0), (6, .int 0), (5, .int (σ (55 + (Int32.toNatClampNeg (σ (73 + (Int32.toNatClampNeg a1)) 0))) 2)), (4, .ref (lay (73 + (Int32.toNatClampNeg a1)))), (0, .ref (lay 0)), (1, .int a1), (2, .int a2), (3, .int a3)]) hC.1 hC.2.1 dX7_survey_51 hl (by decide) rfl (fun ls hl => ?_)
  obtain ⟨n1, h⟩ := h
  exact l_X7_survey_53 a1 a2 a3 hC hr hlocks hT n1 _ _ _ _ _ _ h (vlt hn1) _ _ _ G (lv_sub hl [5, 6, 7, 8, 4, 3, 2, 1, 0] rfl)
theorem hdV_X7_survey : yX7_survey.cls = RX7 ∧ yX7_survey.cls ≠ "java/lang/invoke/MethodHandle" ∧ yX7_survey.cls ≠ "java/lang/invoke/VarHandle" ∧ (parseMethodDescriptor yX7_survey.desc).map (fun d => d.parameters.length) = some 3 := by decide +kernel
